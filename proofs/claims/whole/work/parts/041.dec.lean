theorem dX10_add_37 : decode cX10_add 37 = .ok (.getfield 27, 3) := by decide +kernel
theorem dX10_add_40 : decode cX10_add 40 = .ok (.aload_n 0, 1) := by decide +kernel
theorem dX10_add_41 : decode cX10_add 41 = .ok (.getfield 34, 3) := by decide +kernel
theorem dX10_add_44 : decode cX10_add 44 = .ok (.iload 4, 2) := by decide +kernel
theorem dX10_add_46 : decode cX10_add 46 = .ok (.invokevirtual 100, 3) := by decide +kernel
theorem dX10_add_49 : decode cX10_add 49 = .ok (.aload_n 0, 1) := by decide +kernel
theorem dX10_add_50 : decode cX10_add 50 = .ok (.dup, 1) := by decide +kernel
theorem dX10_add_51 : decode cX10_add 51 = .ok (.getfield 34, 3) := by decide +kernel
theorem dX10_add_54 : decode cX10_add 54 = .ok (.iconst 1, 1) := by decide +kernel
theorem dX10_add_55 : decode cX10_add 55 = .ok (.iadd, 1) := by decide +kernel
theorem dX10_add_56 : decode cX10_add 56 = .ok (.putfield 34, 3) := by decide +kernel
theorem dX10_add_59 : decode cX10_add 59 = .ok (.return_, 1) := by decide +kernel
theorem dX10_isLetter_0 : decode cX10_isLetter 0 = .ok (.iload_n 0, 1) := by decide +kernel
theorem dX10_isLetter_1 : decode cX10_isLetter 1 = .ok (.bipush 97, 2) := by decide +kernel
theorem dX10_isLetter_3 : decode cX10_isLetter 3 = .ok (.if_icmp .lt 13, 3) := by decide +kernel
theorem dX10_isLetter_6 : decode cX10_isLetter 6 = .ok (.iload_n 0, 1) := by decide +kernel
theorem dX10_isLetter_7 : decode cX10_isLetter 7 = .ok (.bipush 122, 2) := by decide +kernel
theorem dX10_isLetter_9 : decode cX10_isLetter 9 = .ok (.if_icmp .gt 7, 3) := by decide +kernel
theorem dX10_isLetter_12 : decode cX10_isLetter 12 = .ok (.iconst 1, 1) := by decide +kernel
theorem dX10_isLetter_13 : decode cX10_isLetter 13 = .ok (.goto 4, 3) := by decide +kernel
theorem dX10_isLetter_16 : decode cX10_isLetter 16 = .ok (.iconst 0, 1) := by decide +kernel
theorem dX10_isLetter_17 : decode cX10_isLetter 17 = .ok (.ireturn, 1) := by decide +kernel
theorem dX10_isDigit_0 : decode cX10_isDigit 0 = .ok (.iload_n 0, 1) := by decide +kernel
theorem dX10_isDigit_1 : decode cX10_isDigit 1 = .ok (.bipush 48, 2) := by decide +kernel
theorem dX10_isDigit_3 : decode cX10_isDigit 3 = .ok (.if_icmp .lt 13, 3) := by decide +kernel
theorem dX10_isDigit_6 : decode cX10_isDigit 6 = .ok (.iload_n 0, 1) := by decide +kernel
theorem dX10_isDigit_7 : decode cX10_isDigit 7 = .ok (.bipush 57, 2) := by decide +kernel
theorem dX10_isDigit_9 : decode cX10_isDigit 9 = .ok (.if_icmp .gt 7, 3) := by decide +kernel
theorem dX10_isDigit_12 : decode cX10_isDigit 12 = .ok (.iconst 1, 1) := by decide +kernel
theorem dX10_isDigit_13 : decode cX10_isDigit 13 = .ok (.goto 4, 3) := by decide +kernel
theorem dX10_isDigit_16 : decode cX10_isDigit 16 = .ok (.iconst 0, 1) := by decide +kernel
theorem dX10_isDigit_17 : decode cX10_isDigit 17 = .ok (.ireturn, 1) := by decide +kernel
theorem dX11_init_0 : decode cX11_init 0 = .ok (.aload_n 0, 1) := by decide +kernel
theorem dX11_init_1 : decode cX11_init 1 = .ok (.invokespecial 1, 3) := by decide +kernel
theorem dX11_init_4 : decode cX11_init 4 = .ok (.aload_n 0, 1) := by decide +kernel
theorem dX11_init_5 : decode cX11_init 5 = .ok (.new 7, 3) := by decide +kernel
theorem dX11_init_8 : decode cX11_init 8 = .ok (.dup, 1) := by decide +kernel
theorem dX11_init_9 : decode cX11_init 9 = .ok (.sipush 2000, 3) := by decide +kernel
theorem dX11_init_12 : decode cX11_init 12 = .ok (.invokespecial 11, 3) := by decide +kernel
theorem dX11_init_15 : decode cX11_init 15 = .ok (.putfield 14, 3) := by decide +kernel
theorem dX11_init_18 : decode cX11_init 18 = .ok (.aload_n 0, 1) := by decide +kernel
theorem dX11_init_19 : decode cX11_init 19 = .ok (.new 18, 3) := by decide +kernel
theorem dX11_init_22 : decode cX11_init 22 = .ok (.dup, 1) := by decide +kernel
theorem dX11_init_23 : decode cX11_init 23 = .ok (.aload_n 0, 1) := by decide +kernel
theorem dX11_init_24 : decode cX11_init 24 = .ok (.getfield 14, 3) := by decide +kernel
theorem dX11_init_27 : decode cX11_init 27 = .ok (.invokespecial 20, 3) := by decide +kernel
theorem dX11_init_30 : decode cX11_init 30 = .ok (.putfield 23, 3) := by decide +kernel
theorem dX11_init_33 : decode cX11_init 33 = .ok (.aload_n 0, 1) := by decide +kernel
theorem dX11_init_34 : decode cX11_init 34 = .ok (.new 27, 3) := by decide +kernel
theorem dX11_init_37 : decode cX11_init 37 = .ok (.dup, 1) := by decide +kernel
theorem dX11_init_38 : decode cX11_init 38 = .ok (.aload_n 0, 1) := by decide +kernel
theorem dX11_init_39 : decode cX11_init 39 = .ok (.getfield 23, 3) := by decide +kernel
theorem dX11_init_42 : decode cX11_init 42 = .ok (.invokespecial 29, 3) := by decide +kernel
theorem dX11_init_45 : decode cX11_init 45 = .ok (.putfield 32, 3) := by decide +kernel
theorem dX11_init_48 : decode cX11_init 48 = .ok (.aload_n 0, 1) := by decide +kernel
theorem dX11_init_49 : decode cX11_init 49 = .ok (.new 36, 3) := by decide +kernel
theorem dX11_init_52 : decode cX11_init 52 = .ok (.dup, 1) := by decide +kernel
theorem dX11_init_53 : decode cX11_init 53 = .ok (.invokespecial 38, 3) := by decide +kernel
theorem dX11_init_56 : decode cX11_init 56 = .ok (.putfield 39, 3) := by decide +kernel
theorem dX11_init_59 : decode cX11_init 59 = .ok (.aload_n 0, 1) := by decide +kernel
theorem dX11_init_60 : decode cX11_init 60 = .ok (.new 43, 3) := by decide +kernel
theorem dX11_init_63 : decode cX11_init 63 = .ok (.dup, 1) := by decide +kernel
theorem dX11_init_64 : decode cX11_init 64 = .ok (.aload_n 0, 1) := by decide +kernel
theorem dX11_init_65 : decode cX11_init 65 = .ok (.getfield 39, 3) := by decide +kernel
theorem dX11_init_68 : decode cX11_init 68 = .ok (.invokespecial 45, 3) := by decide +kernel
theorem dX11_init_71 : decode cX11_init 71 = .ok (.putfield 48, 3) := by decide +kernel
theorem dX11_init_74 : decode cX11_init 74 = .ok (.aload_n 0, 1) := by decide +kernel
theorem dX11_init_75 : decode cX11_init 75 = .ok (.new 52, 3) := by decide +kernel
theorem dX11_init_78 : decode cX11_init 78 = .ok (.dup, 1) := by decide +kernel
theorem dX11_init_79 : decode cX11_init 79 = .ok (.aload_n 0, 1) := by decide +kernel
theorem dX11_init_80 : decode cX11_init 80 = .ok (.getfield 39, 3) := by decide +kernel
theorem dX11_init_83 : decode cX11_init 83 = .ok (.aload_n 0, 1) := by decide +kernel
theorem dX11_init_84 : decode cX11_init 84 = .ok (.getfield 48, 3) := by decide +kernel
theorem dX11_init_87 : decode cX11_init 87 = .ok (.invokespecial 54, 3) := by decide +kernel
theorem dX11_init_90 : decode cX11_init 90 = .ok (.putfield 57, 3) := by decide +kernel
theorem dX11_init_93 : decode cX11_init 93 = .ok (.aload_n 0, 1) := by decide +kernel
theorem dX11_init_94 : decode cX11_init 94 = .ok (.new 43, 3) := by decide +kernel
theorem dX11_init_97 : decode cX11_init 97 = .ok (.dup, 1) := by decide +kernel
theorem dX11_init_98 : decode cX11_init 98 = .ok (.aload_n 0, 1) := by decide +kernel
theorem dX11_init_99 : decode cX11_init 99 = .ok (.getfield 39, 3) := by decide +kernel
theorem dX11_init_102 : decode cX11_init 102 = .ok (.invokespecial 45, 3) := by decide +kernel
theorem dX11_init_105 : decode cX11_init 105 = .ok (.putfield 61, 3) := by decide +kernel
theorem dX11_init_108 : decode cX11_init 108 = .ok (.aload_n 0, 1) := by decide +kernel
theorem dX11_init_109 : decode cX11_init 109 = .ok (.new 52, 3) := by decide +kernel
theorem dX11_init_112 : decode cX11_init 112 = .ok (.dup, 1) := by decide +kernel
theorem dX11_init_113 : decode cX11_init 113 = .ok (.aload_n 0, 1) := by decide +kernel
theorem dX11_init_114 : decode cX11_init 114 = .ok (.getfield 39, 3) := by decide +kernel
theorem dX11_init_117 : decode cX11_init 117 = .ok (.aload_n 0, 1) := by decide +kernel
theorem dX11_init_118 : decode cX11_init 118 = .ok (.getfield 61, 3) := by decide +kernel
theorem dX11_init_121 : decode cX11_init 121 = .ok (.invokespecial 54, 3) := by decide +kernel
theorem dX11_init_124 : decode cX11_init 124 = .ok (.putfield 64, 3) := by decide +kernel
theorem dX11_init_127 : decode cX11_init 127 = .ok (.aload_n 0, 1) := by decide +kernel
theorem dX11_init_128 : decode cX11_init 128 = .ok (.iconst 0, 1) := by decide +kernel
theorem dX11_init_129 : decode cX11_init 129 = .ok (.putfield 67, 3) := by decide +kernel
theorem dX11_init_132 : decode cX11_init 132 = .ok (.aload_n 0, 1) := by decide +kernel
theorem dX11_init_133 : decode cX11_init 133 = .ok (.iconst (-1), 1) := by decide +kernel
theorem dX11_init_134 : decode cX11_init 134 = .ok (.putfield 71, 3) := by decide +kernel
theorem dX11_init_137 : decode cX11_init 137 = .ok (.return_, 1) := by decide +kernel
theorem dX11_feed_0 : decode cX11_feed 0 = .ok (.aload_n 0, 1) := by decide +kernel
theorem dX11_feed_1 : decode cX11_feed 1 = .ok (.getfield 67, 3) := by decide +kernel
theorem dX11_feed_4 : decode cX11_feed 4 = .ok (.sipush 1980, 3) := by decide +kernel
theorem dX11_feed_7 : decode cX11_feed 7 = .ok (.if_icmp .le 13, 3) := by decide +kernel
theorem dX11_feed_10 : decode cX11_feed 10 = .ok (.new 74, 3) := by decide +kernel
theorem dX11_feed_13 : decode cX11_feed 13 = .ok (.dup, 1) := by decide +kernel
theorem dX11_feed_14 : decode cX11_feed 14 = .ok (.ldc 76, 2) := by decide +kernel
theorem dX11_feed_16 : decode cX11_feed 16 = .ok (.invokespecial 78, 3) := by decide +kernel
theorem dX11_feed_19 : decode cX11_feed 19 = .ok (.athrow, 1) := by decide +kernel
theorem dX11_feed_20 : decode cX11_feed 20 = .ok (.aload_n 0, 1) := by decide +kernel
theorem dX11_feed_21 : decode cX11_feed 21 = .ok (.iload_n 1, 1) := by decide +kernel
theorem dX11_feed_22 : decode cX11_feed 22 = .ok (.invokevirtual 81, 3) := by decide +kernel
theorem dX11_feed_25 : decode cX11_feed 25 = .ok (.aload_n 0, 1) := by decide +kernel
theorem dX11_feed_26 : decode cX11_feed 26 = .ok (.iload_n 2, 1) := by decide +kernel
theorem dX11_feed_27 : decode cX11_feed 27 = .ok (.invokevirtual 81, 3) := by decide +kernel
theorem dX11_feed_30 : decode cX11_feed 30 = .ok (.aload_n 0, 1) := by decide +kernel
theorem dX11_feed_31 : decode cX11_feed 31 = .ok (.iload_n 3, 1) := by decide +kernel
theorem dX11_feed_32 : decode cX11_feed 32 = .ok (.invokevirtual 81, 3) := by decide +kernel
theorem dX11_feed_35 : decode cX11_feed 35 = .ok (.aload_n 0, 1) := by decide +kernel
theorem dX11_feed_36 : decode cX11_feed 36 = .ok (.iload 4, 2) := by decide +kernel
theorem dX11_feed_38 : decode cX11_feed 38 = .ok (.invokevirtual 81, 3) := by decide +kernel
theorem dX11_feed_41 : decode cX11_feed 41 = .ok (.aload_n 0, 1) := by decide +kernel
theorem dX11_feed_42 : decode cX11_feed 42 = .ok (.iload 5, 2) := by decide +kernel
theorem dX11_feed_44 : decode cX11_feed 44 = .ok (.invokevirtual 81, 3) := by decide +kernel
theorem dX11_feed_47 : decode cX11_feed 47 = .ok (.aload_n 0, 1) := by decide +kernel
theorem dX11_feed_48 : decode cX11_feed 48 = .ok (.getfield 67, 3) := by decide +kernel
theorem dX11_feed_51 : decode cX11_feed 51 = .ok (.ireturn, 1) := by decide +kernel
theorem dX11_trim_0 : decode cX11_trim 0 = .ok (.iload_n 1, 1) := by decide +kernel
theorem dX11_trim_1 : decode cX11_trim 1 = .ok (.ifCond .lt 11, 3) := by decide +kernel
theorem dX11_trim_4 : decode cX11_trim 4 = .ok (.iload_n 1, 1) := by decide +kernel
theorem dX11_trim_5 : decode cX11_trim 5 = .ok (.aload_n 0, 1) := by decide +kernel
theorem dX11_trim_6 : decode cX11_trim 6 = .ok (.getfield 67, 3) := by decide +kernel
theorem dX11_trim_9 : decode cX11_trim 9 = .ok (.if_icmp .le 13, 3) := by decide +kernel
theorem dX11_trim_12 : decode cX11_trim 12 = .ok (.new 84, 3) := by decide +kernel
theorem dX11_trim_15 : decode cX11_trim 15 = .ok (.dup, 1) := by decide +kernel
theorem dX11_trim_16 : decode cX11_trim 16 = .ok (.ldc 86, 2) := by decide +kernel
theorem dX11_trim_18 : decode cX11_trim 18 = .ok (.invokespecial 88, 3) := by decide +kernel
theorem dX11_trim_21 : decode cX11_trim 21 = .ok (.athrow, 1) := by decide +kernel
theorem dX11_trim_22 : decode cX11_trim 22 = .ok (.aload_n 0, 1) := by decide +kernel
theorem dX11_trim_23 : decode cX11_trim 23 = .ok (.iload_n 1, 1) := by decide +kernel
theorem dX11_trim_24 : decode cX11_trim 24 = .ok (.putfield 67, 3) := by decide +kernel
theorem dX11_trim_27 : decode cX11_trim 27 = .ok (.iload_n 1, 1) := by decide +kernel
theorem dX11_trim_28 : decode cX11_trim 28 = .ok (.ireturn, 1) := by decide +kernel
theorem dX11_teach_0 : decode cX11_teach 0 = .ok (.aload_n 0, 1) := by decide +kernel
theorem dX11_teach_1 : decode cX11_teach 1 = .ok (.getfield 23, 3) := by decide +kernel
theorem dX11_teach_4 : decode cX11_teach 4 = .ok (.aload_n 0, 1) := by decide +kernel
theorem dX11_teach_5 : decode cX11_teach 5 = .ok (.getfield 67, 3) := by decide +kernel
theorem dX11_teach_8 : decode cX11_teach 8 = .ok (.invokevirtual 89, 3) := by decide +kernel
theorem dX11_teach_11 : decode cX11_teach 11 = .ok (.aload_n 0, 1) := by decide +kernel
theorem dX11_teach_12 : decode cX11_teach 12 = .ok (.getfield 32, 3) := by decide +kernel
theorem dX11_teach_15 : decode cX11_teach 15 = .ok (.invokevirtual 92, 3) := by decide +kernel
theorem dX11_teach_18 : decode cX11_teach 18 = .ok (.istore_n 1, 1) := by decide +kernel
theorem dX11_teach_19 : decode cX11_teach 19 = .ok (.aload_n 0, 1) := by decide +kernel
theorem dX11_teach_20 : decode cX11_teach 20 = .ok (.aload_n 0, 1) := by decide +kernel
theorem dX11_teach_21 : decode cX11_teach 21 = .ok (.getfield 32, 3) := by decide +kernel
theorem dX11_teach_24 : decode cX11_teach 24 = .ok (.invokevirtual 96, 3) := by decide +kernel
theorem dX11_teach_27 : decode cX11_teach 27 = .ok (.putfield 71, 3) := by decide +kernel
theorem dX11_teach_30 : decode cX11_teach 30 = .ok (.aload_n 0, 1) := by decide +kernel
theorem dX11_teach_31 : decode cX11_teach 31 = .ok (.iconst 0, 1) := by decide +kernel
theorem dX11_teach_32 : decode cX11_teach 32 = .ok (.putfield 67, 3) := by decide +kernel
theorem dX11_teach_35 : decode cX11_teach 35 = .ok (.iload_n 1, 1) := by decide +kernel
theorem dX11_teach_36 : decode cX11_teach 36 = .ok (.ifCond .ne 24, 3) := by decide +kernel
theorem dX11_teach_39 : decode cX11_teach 39 = .ok (.aload_n 0, 1) := by decide +kernel
theorem dX11_teach_40 : decode cX11_teach 40 = .ok (.getfield 39, 3) := by decide +kernel
theorem dX11_teach_43 : decode cX11_teach 43 = .ok (.aload_n 0, 1) := by decide +kernel
theorem dX11_teach_44 : decode cX11_teach 44 = .ok (.getfield 32, 3) := by decide +kernel
theorem dX11_teach_47 : decode cX11_teach 47 = .ok (.getfield 99, 3) := by decide +kernel
theorem dX11_teach_50 : decode cX11_teach 50 = .ok (.invokevirtual 102, 3) := by decide +kernel
theorem dX11_teach_53 : decode cX11_teach 53 = .ok (.aload_n 0, 1) := by decide +kernel
theorem dX11_teach_54 : decode cX11_teach 54 = .ok (.getfield 48, 3) := by decide +kernel
theorem dX11_teach_57 : decode cX11_teach 57 = .ok (.invokevirtual 105, 3) := by decide +kernel
theorem dX11_teach_60 : decode cX11_teach 60 = .ok (.iload_n 1, 1) := by decide +kernel
theorem dX11_teach_61 : decode cX11_teach 61 = .ok (.ireturn, 1) := by decide +kernel
theorem dX11_errorAt_0 : decode cX11_errorAt 0 = .ok (.aload_n 0, 1) := by decide +kernel
theorem dX11_errorAt_1 : decode cX11_errorAt 1 = .ok (.getfield 71, 3) := by decide +kernel
theorem dX11_errorAt_4 : decode cX11_errorAt 4 = .ok (.ireturn, 1) := by decide +kernel
theorem dX11_count_0 : decode cX11_count 0 = .ok (.iload_n 1, 1) := by decide +kernel
theorem dX11_count_1 : decode cX11_count 1 = .ok (.ifCond .lt 9, 3) := by decide +kernel
theorem dX11_count_4 : decode cX11_count 4 = .ok (.iload_n 1, 1) := by decide +kernel
theorem dX11_count_5 : decode cX11_count 5 = .ok (.bipush 13, 2) := by decide +kernel
theorem dX11_count_7 : decode cX11_count 7 = .ok (.if_icmp .le 13, 3) := by decide +kernel
theorem dX11_count_10 : decode cX11_count 10 = .ok (.new 108, 3) := by decide +kernel
theorem dX11_count_13 : decode cX11_count 13 = .ok (.dup, 1) := by decide +kernel
theorem dX11_count_14 : decode cX11_count 14 = .ok (.ldc 110, 2) := by decide +kernel
theorem dX11_count_16 : decode cX11_count 16 = .ok (.invokespecial 112, 3) := by decide +kernel
theorem dX11_count_19 : decode cX11_count 19 = .ok (.athrow, 1) := by decide +kernel
theorem dX11_count_20 : decode cX11_count 20 = .ok (.aload_n 0, 1) := by decide +kernel
theorem dX11_count_21 : decode cX11_count 21 = .ok (.iload_n 1, 1) := by decide +kernel
theorem dX11_count_22 : decode cX11_count 22 = .ok (.invokevirtual 113, 3) := by decide +kernel
theorem dX11_count_25 : decode cX11_count 25 = .ok (.ireturn, 1) := by decide +kernel
theorem dX11_lot_0 : decode cX11_lot 0 = .ok (.aload_n 0, 1) := by decide +kernel
theorem dX11_lot_1 : decode cX11_lot 1 = .ok (.iload_n 1, 1) := by decide +kernel
theorem dX11_lot_2 : decode cX11_lot 2 = .ok (.invokevirtual 117, 3) := by decide +kernel
theorem dX11_lot_5 : decode cX11_lot 5 = .ok (.ifCond .eq 13, 3) := by decide +kernel
theorem dX11_lot_8 : decode cX11_lot 8 = .ok (.iload_n 2, 1) := by decide +kernel
theorem dX11_lot_9 : decode cX11_lot 9 = .ok (.ifCond .lt 9, 3) := by decide +kernel
theorem dX11_lot_12 : decode cX11_lot 12 = .ok (.iload_n 2, 1) := by decide +kernel
theorem dX11_lot_13 : decode cX11_lot 13 = .ok (.bipush 6, 2) := by decide +kernel
theorem dX11_lot_15 : decode cX11_lot 15 = .ok (.if_icmp .le 13, 3) := by decide +kernel
theorem dX11_lot_18 : decode cX11_lot 18 = .ok (.new 108, 3) := by decide +kernel
theorem dX11_lot_21 : decode cX11_lot 21 = .ok (.dup, 1) := by decide +kernel
theorem dX11_lot_22 : decode cX11_lot 22 = .ok (.ldc 121, 2) := by decide +kernel
theorem dX11_lot_24 : decode cX11_lot 24 = .ok (.invokespecial 112, 3) := by decide +kernel
theorem dX11_lot_27 : decode cX11_lot 27 = .ok (.athrow, 1) := by decide +kernel
theorem dX11_lot_28 : decode cX11_lot 28 = .ok (.aload_n 0, 1) := by decide +kernel
theorem dX11_lot_29 : decode cX11_lot 29 = .ok (.getfield 48, 3) := by decide +kernel
theorem dX11_lot_32 : decode cX11_lot 32 = .ok (.iload_n 1, 1) := by decide +kernel
theorem dX11_lot_33 : decode cX11_lot 33 = .ok (.iload_n 2, 1) := by decide +kernel
theorem dX11_lot_34 : decode cX11_lot 34 = .ok (.invokevirtual 123, 3) := by decide +kernel
theorem dX11_lot_37 : decode cX11_lot 37 = .ok (.ireturn, 1) := by decide +kernel
theorem dX11_merchant_0 : decode cX11_merchant 0 = .ok (.aload_n 0, 1) := by decide +kernel
theorem dX11_merchant_1 : decode cX11_merchant 1 = .ok (.iload_n 1, 1) := by decide +kernel
theorem dX11_merchant_2 : decode cX11_merchant 2 = .ok (.invokevirtual 127, 3) := by decide +kernel
theorem dX11_merchant_5 : decode cX11_merchant 5 = .ok (.ifCond .eq 12, 3) := by decide +kernel
theorem dX11_merchant_8 : decode cX11_merchant 8 = .ok (.iload_n 2, 1) := by decide +kernel
theorem dX11_merchant_9 : decode cX11_merchant 9 = .ok (.ifCond .lt 8, 3) := by decide +kernel
theorem dX11_merchant_12 : decode cX11_merchant 12 = .ok (.iload_n 2, 1) := by decide +kernel
theorem dX11_merchant_13 : decode cX11_merchant 13 = .ok (.iconst 5, 1) := by decide +kernel
theorem dX11_merchant_14 : decode cX11_merchant 14 = .ok (.if_icmp .le 13, 3) := by decide +kernel
theorem dX11_merchant_17 : decode cX11_merchant 17 = .ok (.new 108, 3) := by decide +kernel
theorem dX11_merchant_20 : decode cX11_merchant 20 = .ok (.dup, 1) := by decide +kernel
theorem dX11_merchant_21 : decode cX11_merchant 21 = .ok (.ldc 130, 2) := by decide +kernel
theorem dX11_merchant_23 : decode cX11_merchant 23 = .ok (.invokespecial 112, 3) := by decide +kernel
theorem dX11_merchant_26 : decode cX11_merchant 26 = .ok (.athrow, 1) := by decide +kernel
theorem dX11_merchant_27 : decode cX11_merchant 27 = .ok (.aload_n 0, 1) := by decide +kernel
theorem dX11_merchant_28 : decode cX11_merchant 28 = .ok (.getfield 48, 3) := by decide +kernel
theorem dX11_merchant_31 : decode cX11_merchant 31 = .ok (.iload_n 1, 1) := by decide +kernel
theorem dX11_merchant_32 : decode cX11_merchant 32 = .ok (.iload_n 2, 1) := by decide +kernel
theorem dX11_merchant_33 : decode cX11_merchant 33 = .ok (.invokevirtual 132, 3) := by decide +kernel
theorem dX11_merchant_36 : decode cX11_merchant 36 = .ok (.ireturn, 1) := by decide +kernel
theorem dX11_guild_0 : decode cX11_guild 0 = .ok (.iload_n 1, 1) := by decide +kernel
theorem dX11_guild_1 : decode cX11_guild 1 = .ok (.ifCond .lt 23, 3) := by decide +kernel
theorem dX11_guild_4 : decode cX11_guild 4 = .ok (.iload_n 1, 1) := by decide +kernel
theorem dX11_guild_5 : decode cX11_guild 5 = .ok (.aload_n 0, 1) := by decide +kernel
theorem dX11_guild_6 : decode cX11_guild 6 = .ok (.getfield 39, 3) := by decide +kernel
theorem dX11_guild_9 : decode cX11_guild 9 = .ok (.getfield 135, 3) := by decide +kernel
theorem dX11_guild_12 : decode cX11_guild 12 = .ok (.if_icmp .ge 12, 3) := by decide +kernel
theorem dX11_guild_15 : decode cX11_guild 15 = .ok (.iload_n 2, 1) := by decide +kernel
theorem dX11_guild_16 : decode cX11_guild 16 = .ok (.ifCond .lt 8, 3) := by decide +kernel
theorem dX11_guild_19 : decode cX11_guild 19 = .ok (.iload_n 2, 1) := by decide +kernel
theorem dX11_guild_20 : decode cX11_guild 20 = .ok (.iconst 3, 1) := by decide +kernel
theorem dX11_guild_21 : decode cX11_guild 21 = .ok (.if_icmp .le 13, 3) := by decide +kernel
theorem dX11_guild_24 : decode cX11_guild 24 = .ok (.new 108, 3) := by decide +kernel
theorem dX11_guild_27 : decode cX11_guild 27 = .ok (.dup, 1) := by decide +kernel
theorem dX11_guild_28 : decode cX11_guild 28 = .ok (.ldc 138, 2) := by decide +kernel
theorem dX11_guild_30 : decode cX11_guild 30 = .ok (.invokespecial 112, 3) := by decide +kernel
theorem dX11_guild_33 : decode cX11_guild 33 = .ok (.athrow, 1) := by decide +kernel
theorem dX11_guild_34 : decode cX11_guild 34 = .ok (.aload_n 0, 1) := by decide +kernel
theorem dX11_guild_35 : decode cX11_guild 35 = .ok (.getfield 48, 3) := by decide +kernel
theorem dX11_guild_38 : decode cX11_guild 38 = .ok (.iload_n 1, 1) := by decide +kernel
theorem dX11_guild_39 : decode cX11_guild 39 = .ok (.iload_n 2, 1) := by decide +kernel
theorem dX11_guild_40 : decode cX11_guild 40 = .ok (.invokevirtual 140, 3) := by decide +kernel
theorem dX11_guild_43 : decode cX11_guild 43 = .ok (.ireturn, 1) := by decide +kernel
theorem dX11_order_0 : decode cX11_order 0 = .ok (.iload_n 1, 1) := by decide +kernel
theorem dX11_order_1 : decode cX11_order 1 = .ok (.ifCond .lt 23, 3) := by decide +kernel
theorem dX11_order_4 : decode cX11_order 4 = .ok (.iload_n 1, 1) := by decide +kernel
theorem dX11_order_5 : decode cX11_order 5 = .ok (.aload_n 0, 1) := by decide +kernel
theorem dX11_order_6 : decode cX11_order 6 = .ok (.getfield 39, 3) := by decide +kernel
theorem dX11_order_9 : decode cX11_order 9 = .ok (.getfield 143, 3) := by decide +kernel
theorem dX11_order_12 : decode cX11_order 12 = .ok (.if_icmp .ge 12, 3) := by decide +kernel
theorem dX11_order_15 : decode cX11_order 15 = .ok (.iload_n 2, 1) := by decide +kernel
theorem dX11_order_16 : decode cX11_order 16 = .ok (.ifCond .lt 8, 3) := by decide +kernel
theorem dX11_order_19 : decode cX11_order 19 = .ok (.iload_n 2, 1) := by decide +kernel
theorem dX11_order_20 : decode cX11_order 20 = .ok (.iconst 4, 1) := by decide +kernel
theorem dX11_order_21 : decode cX11_order 21 = .ok (.if_icmp .le 13, 3) := by decide +kernel
theorem dX11_order_24 : decode cX11_order 24 = .ok (.new 108, 3) := by decide +kernel
theorem dX11_order_27 : decode cX11_order 27 = .ok (.dup, 1) := by decide +kernel
theorem dX11_order_28 : decode cX11_order 28 = .ok (.ldc 146, 2) := by decide +kernel
theorem dX11_order_30 : decode cX11_order 30 = .ok (.invokespecial 112, 3) := by decide +kernel
theorem dX11_order_33 : decode cX11_order 33 = .ok (.athrow, 1) := by decide +kernel
theorem dX11_order_34 : decode cX11_order 34 = .ok (.aload_n 0, 1) := by decide +kernel
theorem dX11_order_35 : decode cX11_order 35 = .ok (.iload_n 1, 1) := by decide +kernel
theorem dX11_order_36 : decode cX11_order 36 = .ok (.iload_n 2, 1) := by decide +kernel
theorem dX11_order_37 : decode cX11_order 37 = .ok (.invokevirtual 148, 3) := by decide +kernel
theorem dX11_order_40 : decode cX11_order 40 = .ok (.ireturn, 1) := by decide +kernel
theorem dX11_owes_0 : decode cX11_owes 0 = .ok (.aload_n 0, 1) := by decide +kernel
theorem dX11_owes_1 : decode cX11_owes 1 = .ok (.iload_n 1, 1) := by decide +kernel
theorem dX11_owes_2 : decode cX11_owes 2 = .ok (.invokevirtual 127, 3) := by decide +kernel
theorem dX11_owes_5 : decode cX11_owes 5 = .ok (.ifCond .eq 11, 3) := by decide +kernel
theorem dX11_owes_8 : decode cX11_owes 8 = .ok (.aload_n 0, 1) := by decide +kernel
theorem dX11_owes_9 : decode cX11_owes 9 = .ok (.iload_n 2, 1) := by decide +kernel
theorem dX11_owes_10 : decode cX11_owes 10 = .ok (.invokevirtual 127, 3) := by decide +kernel
theorem dX11_owes_13 : decode cX11_owes 13 = .ok (.ifCond .ne 13, 3) := by decide +kernel
theorem dX11_owes_16 : decode cX11_owes 16 = .ok (.new 108, 3) := by decide +kernel
theorem dX11_owes_19 : decode cX11_owes 19 = .ok (.dup, 1) := by decide +kernel
theorem dX11_owes_20 : decode cX11_owes 20 = .ok (.ldc 151, 2) := by decide +kernel
theorem dX11_owes_22 : decode cX11_owes 22 = .ok (.invokespecial 112, 3) := by decide +kernel
theorem dX11_owes_25 : decode cX11_owes 25 = .ok (.athrow, 1) := by decide +kernel
theorem dX11_owes_26 : decode cX11_owes 26 = .ok (.aload_n 0, 1) := by decide +kernel
theorem dX11_owes_27 : decode cX11_owes 27 = .ok (.getfield 48, 3) := by decide +kernel
theorem dX11_owes_30 : decode cX11_owes 30 = .ok (.getfield 153, 3) := by decide +kernel
theorem dX11_owes_33 : decode cX11_owes 33 = .ok (.iload_n 1, 1) := by decide +kernel
theorem dX11_owes_34 : decode cX11_owes 34 = .ok (.iload_n 2, 1) := by decide +kernel
theorem dX11_owes_35 : decode cX11_owes 35 = .ok (.invokevirtual 157, 3) := by decide +kernel
theorem dX11_owes_38 : decode cX11_owes 38 = .ok (.ireturn, 1) := by decide +kernel
theorem dX11_chain_0 : decode cX11_chain 0 = .ok (.aload_n 0, 1) := by decide +kernel
theorem dX11_chain_1 : decode cX11_chain 1 = .ok (.iload_n 1, 1) := by decide +kernel
theorem dX11_chain_2 : decode cX11_chain 2 = .ok (.invokevirtual 127, 3) := by decide +kernel
theorem dX11_chain_5 : decode cX11_chain 5 = .ok (.ifCond .eq 11, 3) := by decide +kernel
theorem dX11_chain_8 : decode cX11_chain 8 = .ok (.aload_n 0, 1) := by decide +kernel
theorem dX11_chain_9 : decode cX11_chain 9 = .ok (.iload_n 2, 1) := by decide +kernel
theorem dX11_chain_10 : decode cX11_chain 10 = .ok (.invokevirtual 127, 3) := by decide +kernel
theorem dX11_chain_13 : decode cX11_chain 13 = .ok (.ifCond .ne 13, 3) := by decide +kernel
theorem dX11_chain_16 : decode cX11_chain 16 = .ok (.new 108, 3) := by decide +kernel
theorem dX11_chain_19 : decode cX11_chain 19 = .ok (.dup, 1) := by decide +kernel
theorem dX11_chain_20 : decode cX11_chain 20 = .ok (.ldc 151, 2) := by decide +kernel
theorem dX11_chain_22 : decode cX11_chain 22 = .ok (.invokespecial 112, 3) := by decide +kernel
theorem dX11_chain_25 : decode cX11_chain 25 = .ok (.athrow, 1) := by decide +kernel
theorem dX11_chain_26 : decode cX11_chain 26 = .ok (.aload_n 0, 1) := by decide +kernel
theorem dX11_chain_27 : decode cX11_chain 27 = .ok (.getfield 48, 3) := by decide +kernel
theorem dX11_chain_30 : decode cX11_chain 30 = .ok (.getfield 153, 3) := by decide +kernel
theorem dX11_chain_33 : decode cX11_chain 33 = .ok (.iload_n 1, 1) := by decide +kernel
theorem dX11_chain_34 : decode cX11_chain 34 = .ok (.iload_n 2, 1) := by decide +kernel
theorem dX11_chain_35 : decode cX11_chain 35 = .ok (.invokevirtual 162, 3) := by decide +kernel
theorem dX11_chain_38 : decode cX11_chain 38 = .ok (.ireturn, 1) := by decide +kernel
theorem dX11_ring_0 : decode cX11_ring 0 = .ok (.aload_n 0, 1) := by decide +kernel
theorem dX11_ring_1 : decode cX11_ring 1 = .ok (.iload_n 1, 1) := by decide +kernel
theorem dX11_ring_2 : decode cX11_ring 2 = .ok (.invokevirtual 127, 3) := by decide +kernel
theorem dX11_ring_5 : decode cX11_ring 5 = .ok (.ifCond .ne 13, 3) := by decide +kernel
theorem dX11_ring_8 : decode cX11_ring 8 = .ok (.new 108, 3) := by decide +kernel
theorem dX11_ring_11 : decode cX11_ring 11 = .ok (.dup, 1) := by decide +kernel
theorem dX11_ring_12 : decode cX11_ring 12 = .ok (.ldc 151, 2) := by decide +kernel
theorem dX11_ring_14 : decode cX11_ring 14 = .ok (.invokespecial 112, 3) := by decide +kernel
theorem dX11_ring_17 : decode cX11_ring 17 = .ok (.athrow, 1) := by decide +kernel
theorem dX11_ring_18 : decode cX11_ring 18 = .ok (.aload_n 0, 1) := by decide +kernel
theorem dX11_ring_19 : decode cX11_ring 19 = .ok (.getfield 48, 3) := by decide +kernel
theorem dX11_ring_22 : decode cX11_ring 22 = .ok (.getfield 153, 3) := by decide +kernel
theorem dX11_ring_25 : decode cX11_ring 25 = .ok (.iload_n 1, 1) := by decide +kernel
theorem dX11_ring_26 : decode cX11_ring 26 = .ok (.invokevirtual 165, 3) := by decide +kernel
theorem dX11_ring_29 : decode cX11_ring 29 = .ok (.ireturn, 1) := by decide +kernel
theorem dX11_setDamp_0 : decode cX11_setDamp 0 = .ok (.iload_n 1, 1) := by decide +kernel
theorem dX11_setDamp_1 : decode cX11_setDamp 1 = .ok (.ifCond .lt 9, 3) := by decide +kernel
theorem dX11_setDamp_4 : decode cX11_setDamp 4 = .ok (.iload_n 1, 1) := by decide +kernel
theorem dX11_setDamp_5 : decode cX11_setDamp 5 = .ok (.bipush 9, 2) := by decide +kernel
theorem dX11_setDamp_7 : decode cX11_setDamp 7 = .ok (.if_icmp .le 13, 3) := by decide +kernel
theorem dX11_setDamp_10 : decode cX11_setDamp 10 = .ok (.new 84, 3) := by decide +kernel
theorem dX11_setDamp_13 : decode cX11_setDamp 13 = .ok (.dup, 1) := by decide +kernel
theorem dX11_setDamp_14 : decode cX11_setDamp 14 = .ok (.ldc 168, 2) := by decide +kernel
theorem dX11_setDamp_16 : decode cX11_setDamp 16 = .ok (.invokespecial 88, 3) := by decide +kernel
theorem dX11_setDamp_19 : decode cX11_setDamp 19 = .ok (.athrow, 1) := by decide +kernel
theorem dX11_setDamp_20 : decode cX11_setDamp 20 = .ok (.aload_n 0, 1) := by decide +kernel
theorem dX11_setDamp_21 : decode cX11_setDamp 21 = .ok (.getfield 48, 3) := by decide +kernel
theorem dX11_setDamp_24 : decode cX11_setDamp 24 = .ok (.getfield 170, 3) := by decide +kernel
theorem dX11_setDamp_27 : decode cX11_setDamp 27 = .ok (.istore_n 2, 1) := by decide +kernel
theorem dX11_setDamp_28 : decode cX11_setDamp 28 = .ok (.aload_n 0, 1) := by decide +kernel
theorem dX11_setDamp_29 : decode cX11_setDamp 29 = .ok (.getfield 48, 3) := by decide +kernel
theorem dX11_setDamp_32 : decode cX11_setDamp 32 = .ok (.iload_n 1, 1) := by decide +kernel
theorem dX11_setDamp_33 : decode cX11_setDamp 33 = .ok (.putfield 170, 3) := by decide +kernel
theorem dX11_setDamp_36 : decode cX11_setDamp 36 = .ok (.iload_n 2, 1) := by decide +kernel
theorem dX11_setDamp_37 : decode cX11_setDamp 37 = .ok (.ireturn, 1) := by decide +kernel
theorem dX11_lend_0 : decode cX11_lend 0 = .ok (.aload_n 0, 1) := by decide +kernel
theorem dX11_lend_1 : decode cX11_lend 1 = .ok (.iload_n 1, 1) := by decide +kernel
theorem dX11_lend_2 : decode cX11_lend 2 = .ok (.invokevirtual 127, 3) := by decide +kernel
theorem dX11_lend_5 : decode cX11_lend 5 = .ok (.ifCond .eq 11, 3) := by decide +kernel
theorem dX11_lend_8 : decode cX11_lend 8 = .ok (.aload_n 0, 1) := by decide +kernel
theorem dX11_lend_9 : decode cX11_lend 9 = .ok (.iload_n 2, 1) := by decide +kernel
theorem dX11_lend_10 : decode cX11_lend 10 = .ok (.invokevirtual 127, 3) := by decide +kernel
theorem dX11_lend_13 : decode cX11_lend 13 = .ok (.ifCond .ne 13, 3) := by decide +kernel
theorem dX11_lend_16 : decode cX11_lend 16 = .ok (.new 108, 3) := by decide +kernel
theorem dX11_lend_19 : decode cX11_lend 19 = .ok (.dup, 1) := by decide +kernel
theorem dX11_lend_20 : decode cX11_lend 20 = .ok (.ldc 151, 2) := by decide +kernel
theorem dX11_lend_22 : decode cX11_lend 22 = .ok (.invokespecial 112, 3) := by decide +kernel
theorem dX11_lend_25 : decode cX11_lend 25 = .ok (.athrow, 1) := by decide +kernel
theorem dX11_lend_26 : decode cX11_lend 26 = .ok (.iload_n 1, 1) := by decide +kernel
theorem dX11_lend_27 : decode cX11_lend 27 = .ok (.iload_n 2, 1) := by decide +kernel
theorem dX11_lend_28 : decode cX11_lend 28 = .ok (.if_icmp .eq 15, 3) := by decide +kernel
theorem dX11_lend_31 : decode cX11_lend 31 = .ok (.iload_n 3, 1) := by decide +kernel
theorem dX11_lend_32 : decode cX11_lend 32 = .ok (.iconst 1, 1) := by decide +kernel
theorem dX11_lend_33 : decode cX11_lend 33 = .ok (.if_icmp .lt 10, 3) := by decide +kernel
theorem dX11_lend_36 : decode cX11_lend 36 = .ok (.iload_n 3, 1) := by decide +kernel
theorem dX11_lend_37 : decode cX11_lend 37 = .ok (.sipush 9999, 3) := by decide +kernel
theorem dX11_lend_40 : decode cX11_lend 40 = .ok (.if_icmp .le 13, 3) := by decide +kernel
theorem dX11_lend_43 : decode cX11_lend 43 = .ok (.new 84, 3) := by decide +kernel
theorem dX11_lend_46 : decode cX11_lend 46 = .ok (.dup, 1) := by decide +kernel
theorem dX11_lend_47 : decode cX11_lend 47 = .ok (.ldc 173, 2) := by decide +kernel
theorem dX11_lend_49 : decode cX11_lend 49 = .ok (.invokespecial 88, 3) := by decide +kernel
theorem dX11_lend_52 : decode cX11_lend 52 = .ok (.athrow, 1) := by decide +kernel
theorem dX11_lend_53 : decode cX11_lend 53 = .ok (.aload_n 0, 1) := by decide +kernel
theorem dX11_lend_54 : decode cX11_lend 54 = .ok (.getfield 48, 3) := by decide +kernel
theorem dX11_lend_57 : decode cX11_lend 57 = .ok (.getfield 175, 3) := by decide +kernel
theorem dX11_lend_60 : decode cX11_lend 60 = .ok (.iload_n 1, 1) := by decide +kernel
theorem dX11_lend_61 : decode cX11_lend 61 = .ok (.invokevirtual 178, 3) := by decide +kernel
theorem dX11_lend_64 : decode cX11_lend 64 = .ok (.iload_n 3, 1) := by decide +kernel
theorem dX11_lend_65 : decode cX11_lend 65 = .ok (.if_icmp .lt 30, 3) := by decide +kernel
theorem dX11_lend_68 : decode cX11_lend 68 = .ok (.aload_n 0, 1) := by decide +kernel
theorem dX11_lend_69 : decode cX11_lend 69 = .ok (.getfield 48, 3) := by decide +kernel
theorem dX11_lend_72 : decode cX11_lend 72 = .ok (.getfield 153, 3) := by decide +kernel
theorem dX11_lend_75 : decode cX11_lend 75 = .ok (.iload_n 2, 1) := by decide +kernel
theorem dX11_lend_76 : decode cX11_lend 76 = .ok (.invokevirtual 181, 3) := by decide +kernel
theorem dX11_lend_79 : decode cX11_lend 79 = .ok (.iload_n 3, 1) := by decide +kernel
theorem dX11_lend_80 : decode cX11_lend 80 = .ok (.iadd, 1) := by decide +kernel
theorem dX11_lend_81 : decode cX11_lend 81 = .ok (.aload_n 0, 1) := by decide +kernel
theorem dX11_lend_82 : decode cX11_lend 82 = .ok (.getfield 39, 3) := by decide +kernel
theorem dX11_lend_85 : decode cX11_lend 85 = .ok (.getfield 184, 3) := by decide +kernel
theorem dX11_lend_88 : decode cX11_lend 88 = .ok (.iload_n 2, 1) := by decide +kernel
theorem dX11_lend_89 : decode cX11_lend 89 = .ok (.invokevirtual 178, 3) := by decide +kernel
theorem dX11_lend_92 : decode cX11_lend 92 = .ok (.if_icmp .le 13, 3) := by decide +kernel
theorem dX11_lend_95 : decode cX11_lend 95 = .ok (.new 74, 3) := by decide +kernel
theorem dX11_lend_98 : decode cX11_lend 98 = .ok (.dup, 1) := by decide +kernel
theorem dX11_lend_99 : decode cX11_lend 99 = .ok (.ldc 187, 2) := by decide +kernel
theorem dX11_lend_101 : decode cX11_lend 101 = .ok (.invokespecial 78, 3) := by decide +kernel
theorem dX11_lend_104 : decode cX11_lend 104 = .ok (.athrow, 1) := by decide +kernel
theorem dX11_lend_105 : decode cX11_lend 105 = .ok (.aload_n 0, 1) := by decide +kernel
theorem dX11_lend_106 : decode cX11_lend 106 = .ok (.getfield 48, 3) := by decide +kernel
theorem dX11_lend_109 : decode cX11_lend 109 = .ok (.iload_n 1, 1) := by decide +kernel
theorem dX11_lend_110 : decode cX11_lend 110 = .ok (.iload_n 2, 1) := by decide +kernel
theorem dX11_lend_111 : decode cX11_lend 111 = .ok (.iload_n 3, 1) := by decide +kernel
theorem dX11_lend_112 : decode cX11_lend 112 = .ok (.invokevirtual 189, 3) := by decide +kernel
theorem dX11_lend_115 : decode cX11_lend 115 = .ok (.aload_n 0, 1) := by decide +kernel
theorem dX11_lend_116 : decode cX11_lend 116 = .ok (.getfield 48, 3) := by decide +kernel
theorem dX11_lend_119 : decode cX11_lend 119 = .ok (.getfield 153, 3) := by decide +kernel
theorem dX11_lend_122 : decode cX11_lend 122 = .ok (.iload_n 2, 1) := by decide +kernel
theorem dX11_lend_123 : decode cX11_lend 123 = .ok (.iload_n 1, 1) := by decide +kernel
theorem dX11_lend_124 : decode cX11_lend 124 = .ok (.iload_n 3, 1) := by decide +kernel
theorem dX11_lend_125 : decode cX11_lend 125 = .ok (.invokevirtual 193, 3) := by decide +kernel
theorem dX11_lend_128 : decode cX11_lend 128 = .ok (.aload_n 0, 1) := by decide +kernel
theorem dX11_lend_129 : decode cX11_lend 129 = .ok (.getfield 48, 3) := by decide +kernel
theorem dX11_lend_132 : decode cX11_lend 132 = .ok (.getfield 153, 3) := by decide +kernel
theorem dX11_lend_135 : decode cX11_lend 135 = .ok (.iload_n 2, 1) := by decide +kernel
theorem dX11_lend_136 : decode cX11_lend 136 = .ok (.iload_n 1, 1) := by decide +kernel
theorem dX11_lend_137 : decode cX11_lend 137 = .ok (.invokevirtual 157, 3) := by decide +kernel
theorem dX11_lend_140 : decode cX11_lend 140 = .ok (.ireturn, 1) := by decide +kernel
theorem dX11_offset_0 : decode cX11_offset 0 = .ok (.aload_n 0, 1) := by decide +kernel
theorem dX11_offset_1 : decode cX11_offset 1 = .ok (.iload_n 1, 1) := by decide +kernel
theorem dX11_offset_2 : decode cX11_offset 2 = .ok (.invokevirtual 127, 3) := by decide +kernel
theorem dX11_offset_5 : decode cX11_offset 5 = .ok (.ifCond .eq 11, 3) := by decide +kernel
theorem dX11_offset_8 : decode cX11_offset 8 = .ok (.aload_n 0, 1) := by decide +kernel
theorem dX11_offset_9 : decode cX11_offset 9 = .ok (.iload_n 2, 1) := by decide +kernel
theorem dX11_offset_10 : decode cX11_offset 10 = .ok (.invokevirtual 127, 3) := by decide +kernel
theorem dX11_offset_13 : decode cX11_offset 13 = .ok (.ifCond .ne 13, 3) := by decide +kernel
theorem dX11_offset_16 : decode cX11_offset 16 = .ok (.new 108, 3) := by decide +kernel
theorem dX11_offset_19 : decode cX11_offset 19 = .ok (.dup, 1) := by decide +kernel
theorem dX11_offset_20 : decode cX11_offset 20 = .ok (.ldc 151, 2) := by decide +kernel
theorem dX11_offset_22 : decode cX11_offset 22 = .ok (.invokespecial 112, 3) := by decide +kernel
theorem dX11_offset_25 : decode cX11_offset 25 = .ok (.athrow, 1) := by decide +kernel
theorem dX11_offset_26 : decode cX11_offset 26 = .ok (.iload_n 1, 1) := by decide +kernel
theorem dX11_offset_27 : decode cX11_offset 27 = .ok (.iload_n 2, 1) := by decide +kernel
theorem dX11_offset_28 : decode cX11_offset 28 = .ok (.if_icmp .ne 13, 3) := by decide +kernel
theorem dX11_offset_31 : decode cX11_offset 31 = .ok (.new 84, 3) := by decide +kernel
theorem dX11_offset_34 : decode cX11_offset 34 = .ok (.dup, 1) := by decide +kernel
theorem dX11_offset_35 : decode cX11_offset 35 = .ok (.ldc 196, 2) := by decide +kernel
theorem dX11_offset_37 : decode cX11_offset 37 = .ok (.invokespecial 88, 3) := by decide +kernel
theorem dX11_offset_40 : decode cX11_offset 40 = .ok (.athrow, 1) := by decide +kernel
theorem dX11_offset_41 : decode cX11_offset 41 = .ok (.aload_n 0, 1) := by decide +kernel
theorem dX11_offset_42 : decode cX11_offset 42 = .ok (.getfield 48, 3) := by decide +kernel
theorem dX11_offset_45 : decode cX11_offset 45 = .ok (.getfield 153, 3) := by decide +kernel
theorem dX11_offset_48 : decode cX11_offset 48 = .ok (.iload_n 1, 1) := by decide +kernel
theorem dX11_offset_49 : decode cX11_offset 49 = .ok (.iload_n 2, 1) := by decide +kernel
theorem dX11_offset_50 : decode cX11_offset 50 = .ok (.invokevirtual 157, 3) := by decide +kernel
theorem dX11_offset_53 : decode cX11_offset 53 = .ok (.aload_n 0, 1) := by decide +kernel
theorem dX11_offset_54 : decode cX11_offset 54 = .ok (.getfield 48, 3) := by decide +kernel
theorem dX11_offset_57 : decode cX11_offset 57 = .ok (.getfield 153, 3) := by decide +kernel
theorem dX11_offset_60 : decode cX11_offset 60 = .ok (.iload_n 2, 1) := by decide +kernel
theorem dX11_offset_61 : decode cX11_offset 61 = .ok (.iload_n 1, 1) := by decide +kernel
theorem dX11_offset_62 : decode cX11_offset 62 = .ok (.invokevirtual 157, 3) := by decide +kernel
theorem dX11_offset_65 : decode cX11_offset 65 = .ok (.invokestatic 198, 3) := by decide +kernel
theorem dX11_offset_68 : decode cX11_offset 68 = .ok (.istore_n 3, 1) := by decide +kernel
theorem dX11_offset_69 : decode cX11_offset 69 = .ok (.aload_n 0, 1) := by decide +kernel
theorem dX11_offset_70 : decode cX11_offset 70 = .ok (.getfield 48, 3) := by decide +kernel
theorem dX11_offset_73 : decode cX11_offset 73 = .ok (.getfield 153, 3) := by decide +kernel
theorem dX11_offset_76 : decode cX11_offset 76 = .ok (.iload_n 1, 1) := by decide +kernel
theorem dX11_offset_77 : decode cX11_offset 77 = .ok (.iload_n 2, 1) := by decide +kernel
theorem dX11_offset_78 : decode cX11_offset 78 = .ok (.iload_n 3, 1) := by decide +kernel
theorem dX11_offset_79 : decode cX11_offset 79 = .ok (.ineg, 1) := by decide +kernel
theorem dX11_offset_80 : decode cX11_offset 80 = .ok (.invokevirtual 193, 3) := by decide +kernel
theorem dX11_offset_83 : decode cX11_offset 83 = .ok (.aload_n 0, 1) := by decide +kernel
theorem dX11_offset_84 : decode cX11_offset 84 = .ok (.getfield 48, 3) := by decide +kernel
theorem dX11_offset_87 : decode cX11_offset 87 = .ok (.getfield 153, 3) := by decide +kernel
theorem dX11_offset_90 : decode cX11_offset 90 = .ok (.iload_n 2, 1) := by decide +kernel
theorem dX11_offset_91 : decode cX11_offset 91 = .ok (.iload_n 1, 1) := by decide +kernel
theorem dX11_offset_92 : decode cX11_offset 92 = .ok (.iload_n 3, 1) := by decide +kernel
theorem dX11_offset_93 : decode cX11_offset 93 = .ok (.ineg, 1) := by decide +kernel
theorem dX11_offset_94 : decode cX11_offset 94 = .ok (.invokevirtual 193, 3) := by decide +kernel
theorem dX11_offset_97 : decode cX11_offset 97 = .ok (.iload_n 3, 1) := by decide +kernel
theorem dX11_offset_98 : decode cX11_offset 98 = .ok (.ireturn, 1) := by decide +kernel
theorem dX11_dry_0 : decode cX11_dry 0 = .ok (.aload_n 0, 1) := by decide +kernel
theorem dX11_dry_1 : decode cX11_dry 1 = .ok (.iload_n 1, 1) := by decide +kernel
theorem dX11_dry_2 : decode cX11_dry 2 = .ok (.invokevirtual 117, 3) := by decide +kernel
theorem dX11_dry_5 : decode cX11_dry 5 = .ok (.ifCond .ne 13, 3) := by decide +kernel
theorem dX11_dry_8 : decode cX11_dry 8 = .ok (.new 108, 3) := by decide +kernel
theorem dX11_dry_11 : decode cX11_dry 11 = .ok (.dup, 1) := by decide +kernel
theorem dX11_dry_12 : decode cX11_dry 12 = .ok (.ldc 203, 2) := by decide +kernel
theorem dX11_dry_14 : decode cX11_dry 14 = .ok (.invokespecial 112, 3) := by decide +kernel
theorem dX11_dry_17 : decode cX11_dry 17 = .ok (.athrow, 1) := by decide +kernel
theorem dX11_dry_18 : decode cX11_dry 18 = .ok (.aload_n 0, 1) := by decide +kernel
theorem dX11_dry_19 : decode cX11_dry 19 = .ok (.getfield 48, 3) := by decide +kernel
theorem dX11_dry_22 : decode cX11_dry 22 = .ok (.getfield 205, 3) := by decide +kernel
theorem dX11_dry_25 : decode cX11_dry 25 = .ok (.iload_n 1, 1) := by decide +kernel
theorem dX11_dry_26 : decode cX11_dry 26 = .ok (.invokevirtual 178, 3) := by decide +kernel
theorem dX11_dry_29 : decode cX11_dry 29 = .ok (.istore_n 2, 1) := by decide +kernel
theorem dX11_dry_30 : decode cX11_dry 30 = .ok (.aload_n 0, 1) := by decide +kernel
theorem dX11_dry_31 : decode cX11_dry 31 = .ok (.getfield 48, 3) := by decide +kernel
theorem dX11_dry_34 : decode cX11_dry 34 = .ok (.getfield 205, 3) := by decide +kernel
theorem dX11_dry_37 : decode cX11_dry 37 = .ok (.iload_n 1, 1) := by decide +kernel
theorem dX11_dry_38 : decode cX11_dry 38 = .ok (.iload_n 2, 1) := by decide +kernel
theorem dX11_dry_39 : decode cX11_dry 39 = .ok (.iload_n 2, 1) := by decide +kernel
theorem dX11_dry_40 : decode cX11_dry 40 = .ok (.bipush 10, 2) := by decide +kernel
theorem dX11_dry_42 : decode cX11_dry 42 = .ok (.idiv, 1) := by decide +kernel
theorem dX11_dry_43 : decode cX11_dry 43 = .ok (.isub, 1) := by decide +kernel
theorem dX11_dry_44 : decode cX11_dry 44 = .ok (.invokevirtual 208, 3) := by decide +kernel
theorem dX11_dry_47 : decode cX11_dry 47 = .ok (.aload_n 0, 1) := by decide +kernel
theorem dX11_dry_48 : decode cX11_dry 48 = .ok (.getfield 48, 3) := by decide +kernel
theorem dX11_dry_51 : decode cX11_dry 51 = .ok (.iload_n 1, 1) := by decide +kernel
theorem dX11_dry_52 : decode cX11_dry 52 = .ok (.invokevirtual 212, 3) := by decide +kernel
theorem dX11_dry_55 : decode cX11_dry 55 = .ok (.aload_n 0, 1) := by decide +kernel
theorem dX11_dry_56 : decode cX11_dry 56 = .ok (.getfield 48, 3) := by decide +kernel
theorem dX11_dry_59 : decode cX11_dry 59 = .ok (.getfield 205, 3) := by decide +kernel
theorem dX11_dry_62 : decode cX11_dry 62 = .ok (.iload_n 1, 1) := by decide +kernel
theorem dX11_dry_63 : decode cX11_dry 63 = .ok (.invokevirtual 178, 3) := by decide +kernel
theorem dX11_dry_66 : decode cX11_dry 66 = .ok (.ireturn, 1) := by decide +kernel
theorem dX11_pass_0 : decode cX11_pass 0 = .ok (.iload_n 1, 1) := by decide +kernel
theorem dX11_pass_1 : decode cX11_pass 1 = .ok (.iconst 1, 1) := by decide +kernel
theorem dX11_pass_2 : decode cX11_pass 2 = .ok (.if_icmp .lt 9, 3) := by decide +kernel
theorem dX11_pass_5 : decode cX11_pass 5 = .ok (.iload_n 1, 1) := by decide +kernel
theorem dX11_pass_6 : decode cX11_pass 6 = .ok (.bipush 120, 2) := by decide +kernel
theorem dX11_pass_8 : decode cX11_pass 8 = .ok (.if_icmp .le 13, 3) := by decide +kernel
theorem dX11_pass_11 : decode cX11_pass 11 = .ok (.new 84, 3) := by decide +kernel
theorem dX11_pass_14 : decode cX11_pass 14 = .ok (.dup, 1) := by decide +kernel
theorem dX11_pass_15 : decode cX11_pass 15 = .ok (.ldc 215, 2) := by decide +kernel
theorem dX11_pass_17 : decode cX11_pass 17 = .ok (.invokespecial 88, 3) := by decide +kernel
theorem dX11_pass_20 : decode cX11_pass 20 = .ok (.athrow, 1) := by decide +kernel
theorem dX11_pass_21 : decode cX11_pass 21 = .ok (.aload_n 0, 1) := by decide +kernel
theorem dX11_pass_22 : decode cX11_pass 22 = .ok (.getfield 57, 3) := by decide +kernel
theorem dX11_pass_25 : decode cX11_pass 25 = .ok (.iload_n 1, 1) := by decide +kernel
theorem dX11_pass_26 : decode cX11_pass 26 = .ok (.invokevirtual 217, 3) := by decide +kernel
theorem dX11_pass_29 : decode cX11_pass 29 = .ok (.ireturn, 1) := by decide +kernel
theorem dX11_foresee_0 : decode cX11_foresee 0 = .ok (.iload_n 1, 1) := by decide +kernel
theorem dX11_foresee_1 : decode cX11_foresee 1 = .ok (.iconst 1, 1) := by decide +kernel
theorem dX11_foresee_2 : decode cX11_foresee 2 = .ok (.if_icmp .lt 9, 3) := by decide +kernel
theorem dX11_foresee_5 : decode cX11_foresee 5 = .ok (.iload_n 1, 1) := by decide +kernel
theorem dX11_foresee_6 : decode cX11_foresee 6 = .ok (.bipush 120, 2) := by decide +kernel
theorem dX11_foresee_8 : decode cX11_foresee 8 = .ok (.if_icmp .le 13, 3) := by decide +kernel
theorem dX11_foresee_11 : decode cX11_foresee 11 = .ok (.new 84, 3) := by decide +kernel
theorem dX11_foresee_14 : decode cX11_foresee 14 = .ok (.dup, 1) := by decide +kernel
theorem dX11_foresee_15 : decode cX11_foresee 15 = .ok (.ldc 215, 2) := by decide +kernel
theorem dX11_foresee_17 : decode cX11_foresee 17 = .ok (.invokespecial 88, 3) := by decide +kernel
theorem dX11_foresee_20 : decode cX11_foresee 20 = .ok (.athrow, 1) := by decide +kernel
theorem dX11_foresee_21 : decode cX11_foresee 21 = .ok (.iload_n 2, 1) := by decide +kernel
theorem dX11_foresee_22 : decode cX11_foresee 22 = .ok (.ifCond .eq 25, 3) := by decide +kernel
theorem dX11_foresee_25 : decode cX11_foresee 25 = .ok (.iload_n 2, 1) := by decide +kernel
theorem dX11_foresee_26 : decode cX11_foresee 26 = .ok (.bipush 7, 2) := by decide +kernel
theorem dX11_foresee_28 : decode cX11_foresee 28 = .ok (.if_icmp .lt 9, 3) := by decide +kernel
theorem dX11_foresee_31 : decode cX11_foresee 31 = .ok (.iload_n 2, 1) := by decide +kernel
theorem dX11_foresee_32 : decode cX11_foresee 32 = .ok (.bipush 12, 2) := by decide +kernel
theorem dX11_foresee_34 : decode cX11_foresee 34 = .ok (.if_icmp .le 13, 3) := by decide +kernel
theorem dX11_foresee_37 : decode cX11_foresee 37 = .ok (.new 108, 3) := by decide +kernel
theorem dX11_foresee_40 : decode cX11_foresee 40 = .ok (.dup, 1) := by decide +kernel
theorem dX11_foresee_41 : decode cX11_foresee 41 = .ok (.ldc 220, 2) := by decide +kernel
theorem dX11_foresee_43 : decode cX11_foresee 43 = .ok (.invokespecial 112, 3) := by decide +kernel
theorem dX11_foresee_46 : decode cX11_foresee 46 = .ok (.athrow, 1) := by decide +kernel
theorem dX11_foresee_47 : decode cX11_foresee 47 = .ok (.aload_n 0, 1) := by decide +kernel
theorem dX11_foresee_48 : decode cX11_foresee 48 = .ok (.getfield 61, 3) := by decide +kernel
theorem dX11_foresee_51 : decode cX11_foresee 51 = .ok (.aload_n 0, 1) := by decide +kernel
theorem dX11_foresee_52 : decode cX11_foresee 52 = .ok (.getfield 48, 3) := by decide +kernel
theorem dX11_foresee_55 : decode cX11_foresee 55 = .ok (.invokevirtual 222, 3) := by decide +kernel
theorem dX11_foresee_58 : decode cX11_foresee 58 = .ok (.aload_n 0, 1) := by decide +kernel
theorem dX11_foresee_59 : decode cX11_foresee 59 = .ok (.getfield 64, 3) := by decide +kernel
theorem dX11_foresee_62 : decode cX11_foresee 62 = .ok (.iload_n 1, 1) := by decide +kernel
theorem dX11_foresee_63 : decode cX11_foresee 63 = .ok (.invokevirtual 217, 3) := by decide +kernel
theorem dX11_foresee_66 : decode cX11_foresee 66 = .ok (.istore_n 3, 1) := by decide +kernel
theorem dX11_foresee_67 : decode cX11_foresee 67 = .ok (.iload_n 2, 1) := by decide +kernel
theorem dX11_foresee_68 : decode cX11_foresee 68 = .ok (.ifCond .ne 7, 3) := by decide +kernel
theorem dX11_foresee_71 : decode cX11_foresee 71 = .ok (.iload_n 3, 1) := by decide +kernel
theorem dX11_foresee_72 : decode cX11_foresee 72 = .ok (.goto 11, 3) := by decide +kernel
theorem dX11_foresee_75 : decode cX11_foresee 75 = .ok (.aload_n 0, 1) := by decide +kernel
theorem dX11_foresee_76 : decode cX11_foresee 76 = .ok (.getfield 61, 3) := by decide +kernel
theorem dX11_foresee_79 : decode cX11_foresee 79 = .ok (.iload_n 2, 1) := by decide +kernel
theorem dX11_foresee_80 : decode cX11_foresee 80 = .ok (.invokevirtual 225, 3) := by decide +kernel
theorem dX11_foresee_83 : decode cX11_foresee 83 = .ok (.ireturn, 1) := by decide +kernel
theorem dX11_costs_0 : decode cX11_costs 0 = .ok (.iload_n 1, 1) := by decide +kernel
theorem dX11_costs_1 : decode cX11_costs 1 = .ok (.iconst 1, 1) := by decide +kernel
theorem dX11_costs_2 : decode cX11_costs 2 = .ok (.if_icmp .lt 19, 3) := by decide +kernel
theorem dX11_costs_5 : decode cX11_costs 5 = .ok (.iload_n 1, 1) := by decide +kernel
theorem dX11_costs_6 : decode cX11_costs 6 = .ok (.bipush 90, 2) := by decide +kernel
theorem dX11_costs_8 : decode cX11_costs 8 = .ok (.if_icmp .gt 13, 3) := by decide +kernel
theorem dX11_costs_11 : decode cX11_costs 11 = .ok (.iload_n 2, 1) := by decide +kernel
theorem dX11_costs_12 : decode cX11_costs 12 = .ok (.ifCond .lt 9, 3) := by decide +kernel
theorem dX11_costs_15 : decode cX11_costs 15 = .ok (.iload_n 2, 1) := by decide +kernel
theorem dX11_costs_16 : decode cX11_costs 16 = .ok (.bipush 9, 2) := by decide +kernel
theorem dX11_costs_18 : decode cX11_costs 18 = .ok (.if_icmp .le 13, 3) := by decide +kernel
theorem dX11_costs_21 : decode cX11_costs 21 = .ok (.new 84, 3) := by decide +kernel
theorem dX11_costs_24 : decode cX11_costs 24 = .ok (.dup, 1) := by decide +kernel
theorem dX11_costs_25 : decode cX11_costs 25 = .ok (.ldc 228, 2) := by decide +kernel
theorem dX11_costs_27 : decode cX11_costs 27 = .ok (.invokespecial 88, 3) := by decide +kernel
theorem dX11_costs_30 : decode cX11_costs 30 = .ok (.athrow, 1) := by decide +kernel
theorem dX11_costs_31 : decode cX11_costs 31 = .ok (.aload_n 0, 1) := by decide +kernel
theorem dX11_costs_32 : decode cX11_costs 32 = .ok (.getfield 61, 3) := by decide +kernel
theorem dX11_costs_35 : decode cX11_costs 35 = .ok (.aload_n 0, 1) := by decide +kernel
theorem dX11_costs_36 : decode cX11_costs 36 = .ok (.getfield 48, 3) := by decide +kernel
theorem dX11_costs_39 : decode cX11_costs 39 = .ok (.invokevirtual 222, 3) := by decide +kernel
theorem dX11_costs_42 : decode cX11_costs 42 = .ok (.aload_n 0, 1) := by decide +kernel
theorem dX11_costs_43 : decode cX11_costs 43 = .ok (.getfield 61, 3) := by decide +kernel
theorem dX11_costs_46 : decode cX11_costs 46 = .ok (.iload_n 2, 1) := by decide +kernel
theorem dX11_costs_47 : decode cX11_costs 47 = .ok (.putfield 170, 3) := by decide +kernel
theorem dX11_costs_50 : decode cX11_costs 50 = .ok (.iconst 0, 1) := by decide +kernel
theorem dX11_costs_51 : decode cX11_costs 51 = .ok (.istore_n 3, 1) := by decide +kernel
theorem dX11_costs_52 : decode cX11_costs 52 = .ok (.iload_n 3, 1) := by decide +kernel
theorem dX11_costs_53 : decode cX11_costs 53 = .ok (.iload_n 1, 1) := by decide +kernel
theorem dX11_costs_54 : decode cX11_costs 54 = .ok (.if_icmp .ge 16, 3) := by decide +kernel
theorem dX11_costs_57 : decode cX11_costs 57 = .ok (.aload_n 0, 1) := by decide +kernel
theorem dX11_costs_58 : decode cX11_costs 58 = .ok (.getfield 61, 3) := by decide +kernel
theorem dX11_costs_61 : decode cX11_costs 61 = .ok (.invokevirtual 230, 3) := by decide +kernel
theorem dX11_costs_64 : decode cX11_costs 64 = .ok (.iinc 3 1, 3) := by decide +kernel
theorem dX11_costs_67 : decode cX11_costs 67 = .ok (.goto (-15), 3) := by decide +kernel
theorem dX11_costs_70 : decode cX11_costs 70 = .ok (.aload_n 0, 1) := by decide +kernel
theorem dX11_costs_71 : decode cX11_costs 71 = .ok (.getfield 48, 3) := by decide +kernel
theorem dX11_costs_74 : decode cX11_costs 74 = .ok (.invokevirtual 233, 3) := by decide +kernel
theorem dX11_costs_77 : decode cX11_costs 77 = .ok (.aload_n 0, 1) := by decide +kernel
theorem dX11_costs_78 : decode cX11_costs 78 = .ok (.getfield 61, 3) := by decide +kernel
theorem dX11_costs_81 : decode cX11_costs 81 = .ok (.invokevirtual 233, 3) := by decide +kernel
theorem dX11_costs_84 : decode cX11_costs 84 = .ok (.isub, 1) := by decide +kernel
theorem dX11_costs_85 : decode cX11_costs 85 = .ok (.ireturn, 1) := by decide +kernel
theorem dX11_richest_0 : decode cX11_richest 0 = .ok (.iload_n 1, 1) := by decide +kernel
theorem dX11_richest_1 : decode cX11_richest 1 = .ok (.iconst 1, 1) := by decide +kernel
theorem dX11_richest_2 : decode cX11_richest 2 = .ok (.if_icmp .lt 9, 3) := by decide +kernel
theorem dX11_richest_5 : decode cX11_richest 5 = .ok (.iload_n 1, 1) := by decide +kernel
theorem dX11_richest_6 : decode cX11_richest 6 = .ok (.bipush 90, 2) := by decide +kernel
theorem dX11_richest_8 : decode cX11_richest 8 = .ok (.if_icmp .le 13, 3) := by decide +kernel
theorem dX11_richest_11 : decode cX11_richest 11 = .ok (.new 84, 3) := by decide +kernel
theorem dX11_richest_14 : decode cX11_richest 14 = .ok (.dup, 1) := by decide +kernel
theorem dX11_richest_15 : decode cX11_richest 15 = .ok (.ldc 236, 2) := by decide +kernel
theorem dX11_richest_17 : decode cX11_richest 17 = .ok (.invokespecial 88, 3) := by decide +kernel
theorem dX11_richest_20 : decode cX11_richest 20 = .ok (.athrow, 1) := by decide +kernel
theorem dX11_richest_21 : decode cX11_richest 21 = .ok (.aload_n 0, 1) := by decide +kernel
theorem dX11_richest_22 : decode cX11_richest 22 = .ok (.getfield 61, 3) := by decide +kernel
theorem dX11_richest_25 : decode cX11_richest 25 = .ok (.aload_n 0, 1) := by decide +kernel
theorem dX11_richest_26 : decode cX11_richest 26 = .ok (.getfield 48, 3) := by decide +kernel
theorem dX11_richest_29 : decode cX11_richest 29 = .ok (.invokevirtual 222, 3) := by decide +kernel
theorem dX11_richest_32 : decode cX11_richest 32 = .ok (.aload_n 0, 1) := by decide +kernel
theorem dX11_richest_33 : decode cX11_richest 33 = .ok (.getfield 64, 3) := by decide +kernel
theorem dX11_richest_36 : decode cX11_richest 36 = .ok (.iload_n 1, 1) := by decide +kernel
theorem dX11_richest_37 : decode cX11_richest 37 = .ok (.invokevirtual 217, 3) := by decide +kernel
theorem dX11_richest_40 : decode cX11_richest 40 = .ok (.pop, 1) := by decide +kernel
theorem dX11_richest_41 : decode cX11_richest 41 = .ok (.iconst (-1), 1) := by decide +kernel
theorem dX11_richest_42 : decode cX11_richest 42 = .ok (.istore_n 2, 1) := by decide +kernel
theorem dX11_richest_43 : decode cX11_richest 43 = .ok (.iconst 0, 1) := by decide +kernel
theorem dX11_richest_44 : decode cX11_richest 44 = .ok (.istore_n 3, 1) := by decide +kernel
theorem dX11_richest_45 : decode cX11_richest 45 = .ok (.iload_n 3, 1) := by decide +kernel
theorem dX11_richest_46 : decode cX11_richest 46 = .ok (.aload_n 0, 1) := by decide +kernel
theorem dX11_richest_47 : decode cX11_richest 47 = .ok (.getfield 39, 3) := by decide +kernel
theorem dX11_richest_50 : decode cX11_richest 50 = .ok (.getfield 238, 3) := by decide +kernel
theorem dX11_richest_53 : decode cX11_richest 53 = .ok (.if_icmp .ge 34, 3) := by decide +kernel
theorem dX11_richest_56 : decode cX11_richest 56 = .ok (.iload_n 2, 1) := by decide +kernel
theorem dX11_richest_57 : decode cX11_richest 57 = .ok (.ifCond .lt 22, 3) := by decide +kernel
theorem dX11_richest_60 : decode cX11_richest 60 = .ok (.aload_n 0, 1) := by decide +kernel
theorem dX11_richest_61 : decode cX11_richest 61 = .ok (.getfield 61, 3) := by decide +kernel
theorem dX11_richest_64 : decode cX11_richest 64 = .ok (.iload_n 3, 1) := by decide +kernel
theorem dX11_richest_65 : decode cX11_richest 65 = .ok (.invokevirtual 241, 3) := by decide +kernel
theorem dX11_richest_68 : decode cX11_richest 68 = .ok (.aload_n 0, 1) := by decide +kernel
theorem dX11_richest_69 : decode cX11_richest 69 = .ok (.getfield 61, 3) := by decide +kernel
theorem dX11_richest_72 : decode cX11_richest 72 = .ok (.iload_n 2, 1) := by decide +kernel
theorem dX11_richest_73 : decode cX11_richest 73 = .ok (.invokevirtual 241, 3) := by decide +kernel
theorem dX11_richest_76 : decode cX11_richest 76 = .ok (.if_icmp .le 5, 3) := by decide +kernel
theorem dX11_richest_79 : decode cX11_richest 79 = .ok (.iload_n 3, 1) := by decide +kernel
theorem dX11_richest_80 : decode cX11_richest 80 = .ok (.istore_n 2, 1) := by decide +kernel
theorem dX11_richest_81 : decode cX11_richest 81 = .ok (.iinc 3 1, 3) := by decide +kernel
theorem dX11_richest_84 : decode cX11_richest 84 = .ok (.goto (-39), 3) := by decide +kernel
theorem dX11_richest_87 : decode cX11_richest 87 = .ok (.iload_n 2, 1) := by decide +kernel
theorem dX11_richest_88 : decode cX11_richest 88 = .ok (.ireturn, 1) := by decide +kernel
theorem dX11_until_0 : decode cX11_until 0 = .ok (.aload_n 0, 1) := by decide +kernel
theorem dX11_until_1 : decode cX11_until 1 = .ok (.iload_n 1, 1) := by decide +kernel
theorem dX11_until_2 : decode cX11_until 2 = .ok (.invokevirtual 127, 3) := by decide +kernel
theorem dX11_until_5 : decode cX11_until 5 = .ok (.ifCond .ne 13, 3) := by decide +kernel
theorem dX11_until_8 : decode cX11_until 8 = .ok (.new 108, 3) := by decide +kernel
theorem dX11_until_11 : decode cX11_until 11 = .ok (.dup, 1) := by decide +kernel
theorem dX11_until_12 : decode cX11_until 12 = .ok (.ldc 151, 2) := by decide +kernel
theorem dX11_until_14 : decode cX11_until 14 = .ok (.invokespecial 112, 3) := by decide +kernel
theorem dX11_until_17 : decode cX11_until 17 = .ok (.athrow, 1) := by decide +kernel
theorem dX11_until_18 : decode cX11_until 18 = .ok (.aload_n 0, 1) := by decide +kernel
theorem dX11_until_19 : decode cX11_until 19 = .ok (.getfield 61, 3) := by decide +kernel
theorem dX11_until_22 : decode cX11_until 22 = .ok (.aload_n 0, 1) := by decide +kernel
theorem dX11_until_23 : decode cX11_until 23 = .ok (.getfield 48, 3) := by decide +kernel
theorem dX11_until_26 : decode cX11_until 26 = .ok (.invokevirtual 222, 3) := by decide +kernel
theorem dX11_until_29 : decode cX11_until 29 = .ok (.iconst 0, 1) := by decide +kernel
theorem dX11_until_30 : decode cX11_until 30 = .ok (.istore_n 2, 1) := by decide +kernel
theorem dX11_until_31 : decode cX11_until 31 = .ok (.iload_n 2, 1) := by decide +kernel
theorem dX11_until_32 : decode cX11_until 32 = .ok (.sipush 150, 3) := by decide +kernel
theorem dX11_until_35 : decode cX11_until 35 = .ok (.if_icmp .ge 31, 3) := by decide +kernel
theorem dX11_until_38 : decode cX11_until 38 = .ok (.aload_n 0, 1) := by decide +kernel
theorem dX11_until_39 : decode cX11_until 39 = .ok (.getfield 61, 3) := by decide +kernel
theorem dX11_until_42 : decode cX11_until 42 = .ok (.iload_n 1, 1) := by decide +kernel
theorem dX11_until_43 : decode cX11_until 43 = .ok (.invokevirtual 244, 3) := by decide +kernel
theorem dX11_until_46 : decode cX11_until 46 = .ok (.ifCond .eq 5, 3) := by decide +kernel
theorem dX11_until_49 : decode cX11_until 49 = .ok (.iload_n 2, 1) := by decide +kernel
theorem dX11_until_50 : decode cX11_until 50 = .ok (.ireturn, 1) := by decide +kernel
theorem dX11_until_51 : decode cX11_until 51 = .ok (.aload_n 0, 1) := by decide +kernel
theorem dX11_until_52 : decode cX11_until 52 = .ok (.getfield 64, 3) := by decide +kernel
theorem dX11_until_55 : decode cX11_until 55 = .ok (.iconst 1, 1) := by decide +kernel
theorem dX11_until_56 : decode cX11_until 56 = .ok (.invokevirtual 217, 3) := by decide +kernel
theorem dX11_until_59 : decode cX11_until 59 = .ok (.pop, 1) := by decide +kernel
theorem dX11_until_60 : decode cX11_until 60 = .ok (.iinc 2 1, 3) := by decide +kernel
theorem dX11_until_63 : decode cX11_until 63 = .ok (.goto (-32), 3) := by decide +kernel
theorem dX11_until_66 : decode cX11_until 66 = .ok (.aload_n 0, 1) := by decide +kernel
theorem dX11_until_67 : decode cX11_until 67 = .ok (.getfield 61, 3) := by decide +kernel
theorem dX11_until_70 : decode cX11_until 70 = .ok (.iload_n 1, 1) := by decide +kernel
theorem dX11_until_71 : decode cX11_until 71 = .ok (.invokevirtual 244, 3) := by decide +kernel
theorem dX11_until_74 : decode cX11_until 74 = .ok (.ifCond .eq 9, 3) := by decide +kernel
theorem dX11_until_77 : decode cX11_until 77 = .ok (.sipush 150, 3) := by decide +kernel
theorem dX11_until_80 : decode cX11_until 80 = .ok (.goto 4, 3) := by decide +kernel
theorem dX11_until_83 : decode cX11_until 83 = .ok (.iconst (-1), 1) := by decide +kernel
theorem dX11_until_84 : decode cX11_until 84 = .ok (.ireturn, 1) := by decide +kernel
theorem dX11_mean_0 : decode cX11_mean 0 = .ok (.aload_n 0, 1) := by decide +kernel
theorem dX11_mean_1 : decode cX11_mean 1 = .ok (.getfield 39, 3) := by decide +kernel
theorem dX11_mean_4 : decode cX11_mean 4 = .ok (.getfield 247, 3) := by decide +kernel
theorem dX11_mean_7 : decode cX11_mean 7 = .ok (.ifCond .le 23, 3) := by decide +kernel
theorem dX11_mean_10 : decode cX11_mean 10 = .ok (.aload_n 0, 1) := by decide +kernel
theorem dX11_mean_11 : decode cX11_mean 11 = .ok (.getfield 48, 3) := by decide +kernel
theorem dX11_mean_14 : decode cX11_mean 14 = .ok (.invokevirtual 233, 3) := by decide +kernel
theorem dX11_mean_17 : decode cX11_mean 17 = .ok (.i2d, 1) := by decide +kernel
theorem dX11_mean_18 : decode cX11_mean 18 = .ok (.aload_n 0, 1) := by decide +kernel
theorem dX11_mean_19 : decode cX11_mean 19 = .ok (.getfield 39, 3) := by decide +kernel
theorem dX11_mean_22 : decode cX11_mean 22 = .ok (.getfield 247, 3) := by decide +kernel
theorem dX11_mean_25 : decode cX11_mean 25 = .ok (.i2d, 1) := by decide +kernel
theorem dX11_mean_26 : decode cX11_mean 26 = .ok (.ddiv, 1) := by decide +kernel
theorem dX11_mean_27 : decode cX11_mean 27 = .ok (.goto 4, 3) := by decide +kernel
theorem dX11_mean_30 : decode cX11_mean 30 = .ok (.dconst 0, 1) := by decide +kernel
theorem dX11_mean_31 : decode cX11_mean 31 = .ok (.dreturn, 1) := by decide +kernel
theorem dX11_digest_0 : decode cX11_digest 0 = .ok (.ldc2_w 250, 3) := by decide +kernel
theorem dX11_digest_3 : decode cX11_digest 3 = .ok (.lstore_n 1, 1) := by decide +kernel
theorem dX11_digest_4 : decode cX11_digest 4 = .ok (.iconst 0, 1) := by decide +kernel
theorem dX11_digest_5 : decode cX11_digest 5 = .ok (.istore_n 3, 1) := by decide +kernel
theorem dX11_digest_6 : decode cX11_digest 6 = .ok (.iload_n 3, 1) := by decide +kernel
theorem dX11_digest_7 : decode cX11_digest 7 = .ok (.bipush 13, 2) := by decide +kernel
theorem dX11_digest_9 : decode cX11_digest 9 = .ok (.if_icmp .gt 22, 3) := by decide +kernel
theorem dX11_digest_12 : decode cX11_digest 12 = .ok (.lload_n 1, 1) := by decide +kernel
theorem dX11_digest_13 : decode cX11_digest 13 = .ok (.ldc2_w 252, 3) := by decide +kernel
theorem dX11_digest_16 : decode cX11_digest 16 = .ok (.lmul, 1) := by decide +kernel
theorem dX11_digest_17 : decode cX11_digest 17 = .ok (.aload_n 0, 1) := by decide +kernel
theorem dX11_digest_18 : decode cX11_digest 18 = .ok (.iload_n 3, 1) := by decide +kernel
theorem dX11_digest_19 : decode cX11_digest 19 = .ok (.invokevirtual 113, 3) := by decide +kernel
theorem dX11_digest_22 : decode cX11_digest 22 = .ok (.i2l, 1) := by decide +kernel
theorem dX11_digest_23 : decode cX11_digest 23 = .ok (.ladd, 1) := by decide +kernel
theorem dX11_digest_24 : decode cX11_digest 24 = .ok (.lstore_n 1, 1) := by decide +kernel
theorem dX11_digest_25 : decode cX11_digest 25 = .ok (.iinc 3 1, 3) := by decide +kernel
theorem dX11_digest_28 : decode cX11_digest 28 = .ok (.goto (-22), 3) := by decide +kernel
theorem dX11_digest_31 : decode cX11_digest 31 = .ok (.aload_n 0, 1) := by decide +kernel
theorem dX11_digest_32 : decode cX11_digest 32 = .ok (.lload_n 1, 1) := by decide +kernel
theorem dX11_digest_33 : decode cX11_digest 33 = .ok (.invokevirtual 254, 3) := by decide +kernel
theorem dX11_digest_36 : decode cX11_digest 36 = .ok (.lstore_n 1, 1) := by decide +kernel
theorem dX11_digest_37 : decode cX11_digest 37 = .ok (.aload_n 0, 1) := by decide +kernel
theorem dX11_digest_38 : decode cX11_digest 38 = .ok (.lload_n 1, 1) := by decide +kernel
theorem dX11_digest_39 : decode cX11_digest 39 = .ok (.invokevirtual 258, 3) := by decide +kernel
theorem dX11_digest_42 : decode cX11_digest 42 = .ok (.lstore_n 1, 1) := by decide +kernel
theorem dX11_digest_43 : decode cX11_digest 43 = .ok (.aload_n 0, 1) := by decide +kernel
theorem dX11_digest_44 : decode cX11_digest 44 = .ok (.lload_n 1, 1) := by decide +kernel
theorem dX11_digest_45 : decode cX11_digest 45 = .ok (.invokevirtual 261, 3) := by decide +kernel
theorem dX11_digest_48 : decode cX11_digest 48 = .ok (.lstore_n 1, 1) := by decide +kernel
theorem dX11_digest_49 : decode cX11_digest 49 = .ok (.aload_n 0, 1) := by decide +kernel
theorem dX11_digest_50 : decode cX11_digest 50 = .ok (.lload_n 1, 1) := by decide +kernel
theorem dX11_digest_51 : decode cX11_digest 51 = .ok (.invokevirtual 264, 3) := by decide +kernel
theorem dX11_digest_54 : decode cX11_digest 54 = .ok (.lreturn, 1) := by decide +kernel
theorem dX11_append_0 : decode cX11_append 0 = .ok (.bipush 24, 2) := by decide +kernel
theorem dX11_append_2 : decode cX11_append 2 = .ok (.istore_n 2, 1) := by decide +kernel
theorem dX11_append_3 : decode cX11_append 3 = .ok (.iload_n 2, 1) := by decide +kernel
theorem dX11_append_4 : decode cX11_append 4 = .ok (.ifCond .lt 37, 3) := by decide +kernel
theorem dX11_append_7 : decode cX11_append 7 = .ok (.aload_n 0, 1) := by decide +kernel
theorem dX11_append_8 : decode cX11_append 8 = .ok (.getfield 14, 3) := by decide +kernel
theorem dX11_append_11 : decode cX11_append 11 = .ok (.aload_n 0, 1) := by decide +kernel
theorem dX11_append_12 : decode cX11_append 12 = .ok (.getfield 67, 3) := by decide +kernel
theorem dX11_append_15 : decode cX11_append 15 = .ok (.iload_n 1, 1) := by decide +kernel
theorem dX11_append_16 : decode cX11_append 16 = .ok (.iload_n 2, 1) := by decide +kernel
theorem dX11_append_17 : decode cX11_append 17 = .ok (.iushr, 1) := by decide +kernel
theorem dX11_append_18 : decode cX11_append 18 = .ok (.sipush 255, 3) := by decide +kernel
theorem dX11_append_21 : decode cX11_append 21 = .ok (.iand, 1) := by decide +kernel
theorem dX11_append_22 : decode cX11_append 22 = .ok (.invokevirtual 208, 3) := by decide +kernel
theorem dX11_append_25 : decode cX11_append 25 = .ok (.aload_n 0, 1) := by decide +kernel
theorem dX11_append_26 : decode cX11_append 26 = .ok (.dup, 1) := by decide +kernel
theorem dX11_append_27 : decode cX11_append 27 = .ok (.getfield 67, 3) := by decide +kernel
theorem dX11_append_30 : decode cX11_append 30 = .ok (.iconst 1, 1) := by decide +kernel
theorem dX11_append_31 : decode cX11_append 31 = .ok (.iadd, 1) := by decide +kernel
theorem dX11_append_32 : decode cX11_append 32 = .ok (.putfield 67, 3) := by decide +kernel
theorem dX11_append_35 : decode cX11_append 35 = .ok (.iinc 2 (-8), 3) := by decide +kernel
theorem dX11_append_38 : decode cX11_append 38 = .ok (.goto (-35), 3) := by decide +kernel
theorem dX11_append_41 : decode cX11_append 41 = .ok (.return_, 1) := by decide +kernel
theorem dX11_isLot_0 : decode cX11_isLot 0 = .ok (.iload_n 1, 1) := by decide +kernel
theorem dX11_isLot_1 : decode cX11_isLot 1 = .ok (.ifCond .lt 18, 3) := by decide +kernel
theorem dX11_isLot_4 : decode cX11_isLot 4 = .ok (.iload_n 1, 1) := by decide +kernel
theorem dX11_isLot_5 : decode cX11_isLot 5 = .ok (.aload_n 0, 1) := by decide +kernel
theorem dX11_isLot_6 : decode cX11_isLot 6 = .ok (.getfield 39, 3) := by decide +kernel
theorem dX11_isLot_9 : decode cX11_isLot 9 = .ok (.getfield 247, 3) := by decide +kernel
theorem dX11_isLot_12 : decode cX11_isLot 12 = .ok (.if_icmp .ge 7, 3) := by decide +kernel
theorem dX11_isLot_15 : decode cX11_isLot 15 = .ok (.iconst 1, 1) := by decide +kernel
theorem dX11_isLot_16 : decode cX11_isLot 16 = .ok (.goto 4, 3) := by decide +kernel
theorem dX11_isLot_19 : decode cX11_isLot 19 = .ok (.iconst 0, 1) := by decide +kernel
theorem dX11_isLot_20 : decode cX11_isLot 20 = .ok (.ireturn, 1) := by decide +kernel
theorem dX11_isMerchant_0 : decode cX11_isMerchant 0 = .ok (.iload_n 1, 1) := by decide +kernel
theorem dX11_isMerchant_1 : decode cX11_isMerchant 1 = .ok (.ifCond .lt 18, 3) := by decide +kernel
theorem dX11_isMerchant_4 : decode cX11_isMerchant 4 = .ok (.iload_n 1, 1) := by decide +kernel
theorem dX11_isMerchant_5 : decode cX11_isMerchant 5 = .ok (.aload_n 0, 1) := by decide +kernel
theorem dX11_isMerchant_6 : decode cX11_isMerchant 6 = .ok (.getfield 39, 3) := by decide +kernel
theorem dX11_isMerchant_9 : decode cX11_isMerchant 9 = .ok (.getfield 238, 3) := by decide +kernel
theorem dX11_isMerchant_12 : decode cX11_isMerchant 12 = .ok (.if_icmp .ge 7, 3) := by decide +kernel
theorem dX11_isMerchant_15 : decode cX11_isMerchant 15 = .ok (.iconst 1, 1) := by decide +kernel
theorem dX11_isMerchant_16 : decode cX11_isMerchant 16 = .ok (.goto 4, 3) := by decide +kernel
theorem dX11_isMerchant_19 : decode cX11_isMerchant 19 = .ok (.iconst 0, 1) := by decide +kernel
theorem dX11_isMerchant_20 : decode cX11_isMerchant 20 = .ok (.ireturn, 1) := by decide +kernel
theorem dX11_counted_0 : decode cX11_counted 0 = .ok (.iload_n 1, 1) := by decide +kernel
theorem dX11_counted_1 : decode cX11_counted 1 = .ok (.tableswitch 132 0 13 #[71, 79, 87, 95, 103, 111, 119, 132, 132, 132, 132, 132, 132, 127], 71) := by decide +kernel
theorem dX11_counted_72 : decode cX11_counted 72 = .ok (.aload_n 0, 1) := by decide +kernel
theorem dX11_counted_73 : decode cX11_counted 73 = .ok (.getfield 48, 3) := by decide +kernel
theorem dX11_counted_76 : decode cX11_counted 76 = .ok (.getfield 267, 3) := by decide +kernel
theorem dX11_counted_79 : decode cX11_counted 79 = .ok (.ireturn, 1) := by decide +kernel
theorem dX11_counted_80 : decode cX11_counted 80 = .ok (.aload_n 0, 1) := by decide +kernel
theorem dX11_counted_81 : decode cX11_counted 81 = .ok (.getfield 48, 3) := by decide +kernel
theorem dX11_counted_84 : decode cX11_counted 84 = .ok (.getfield 170, 3) := by decide +kernel
theorem dX11_counted_87 : decode cX11_counted 87 = .ok (.ireturn, 1) := by decide +kernel
theorem dX11_counted_88 : decode cX11_counted 88 = .ok (.aload_n 0, 1) := by decide +kernel
theorem dX11_counted_89 : decode cX11_counted 89 = .ok (.getfield 39, 3) := by decide +kernel
theorem dX11_counted_92 : decode cX11_counted 92 = .ok (.getfield 270, 3) := by decide +kernel
theorem dX11_counted_95 : decode cX11_counted 95 = .ok (.ireturn, 1) := by decide +kernel
theorem dX11_counted_96 : decode cX11_counted 96 = .ok (.aload_n 0, 1) := by decide +kernel
theorem dX11_counted_97 : decode cX11_counted 97 = .ok (.getfield 39, 3) := by decide +kernel
theorem dX11_counted_100 : decode cX11_counted 100 = .ok (.getfield 135, 3) := by decide +kernel
theorem dX11_counted_103 : decode cX11_counted 103 = .ok (.ireturn, 1) := by decide +kernel
theorem dX11_counted_104 : decode cX11_counted 104 = .ok (.aload_n 0, 1) := by decide +kernel
theorem dX11_counted_105 : decode cX11_counted 105 = .ok (.getfield 39, 3) := by decide +kernel
theorem dX11_counted_108 : decode cX11_counted 108 = .ok (.getfield 238, 3) := by decide +kernel
theorem dX11_counted_111 : decode cX11_counted 111 = .ok (.ireturn, 1) := by decide +kernel
theorem dX11_counted_112 : decode cX11_counted 112 = .ok (.aload_n 0, 1) := by decide +kernel
theorem dX11_counted_113 : decode cX11_counted 113 = .ok (.getfield 39, 3) := by decide +kernel
theorem dX11_counted_116 : decode cX11_counted 116 = .ok (.getfield 247, 3) := by decide +kernel
theorem dX11_counted_119 : decode cX11_counted 119 = .ok (.ireturn, 1) := by decide +kernel
theorem dX11_counted_120 : decode cX11_counted 120 = .ok (.aload_n 0, 1) := by decide +kernel
theorem dX11_counted_121 : decode cX11_counted 121 = .ok (.getfield 39, 3) := by decide +kernel
theorem dX11_counted_124 : decode cX11_counted 124 = .ok (.getfield 143, 3) := by decide +kernel
theorem dX11_counted_127 : decode cX11_counted 127 = .ok (.ireturn, 1) := by decide +kernel
theorem dX11_counted_128 : decode cX11_counted 128 = .ok (.aload_n 0, 1) := by decide +kernel
theorem dX11_counted_129 : decode cX11_counted 129 = .ok (.getfield 67, 3) := by decide +kernel
theorem dX11_counted_132 : decode cX11_counted 132 = .ok (.ireturn, 1) := by decide +kernel
theorem dX11_counted_133 : decode cX11_counted 133 = .ok (.aload_n 0, 1) := by decide +kernel
theorem dX11_counted_134 : decode cX11_counted 134 = .ok (.getfield 48, 3) := by decide +kernel
theorem dX11_counted_137 : decode cX11_counted 137 = .ok (.iload_n 1, 1) := by decide +kernel
theorem dX11_counted_138 : decode cX11_counted 138 = .ok (.invokevirtual 225, 3) := by decide +kernel
theorem dX11_counted_141 : decode cX11_counted 141 = .ok (.ireturn, 1) := by decide +kernel
theorem dX11_tellOrder_0 : decode cX11_tellOrder 0 = .ok (.iload_n 2, 1) := by decide +kernel
theorem dX11_tellOrder_1 : decode cX11_tellOrder 1 = .ok (.tableswitch 84 0 3 #[31, 43, 55, 67], 31) := by decide +kernel
theorem dX11_tellOrder_32 : decode cX11_tellOrder 32 = .ok (.aload_n 0, 1) := by decide +kernel
theorem dX11_tellOrder_33 : decode cX11_tellOrder 33 = .ok (.getfield 39, 3) := by decide +kernel
theorem dX11_tellOrder_36 : decode cX11_tellOrder 36 = .ok (.getfield 273, 3) := by decide +kernel
theorem dX11_tellOrder_39 : decode cX11_tellOrder 39 = .ok (.iload_n 1, 1) := by decide +kernel
theorem dX11_tellOrder_40 : decode cX11_tellOrder 40 = .ok (.invokevirtual 178, 3) := by decide +kernel
theorem dX11_tellOrder_43 : decode cX11_tellOrder 43 = .ok (.ireturn, 1) := by decide +kernel
theorem dX11_tellOrder_44 : decode cX11_tellOrder 44 = .ok (.aload_n 0, 1) := by decide +kernel
theorem dX11_tellOrder_45 : decode cX11_tellOrder 45 = .ok (.getfield 39, 3) := by decide +kernel
theorem dX11_tellOrder_48 : decode cX11_tellOrder 48 = .ok (.getfield 276, 3) := by decide +kernel
theorem dX11_tellOrder_51 : decode cX11_tellOrder 51 = .ok (.iload_n 1, 1) := by decide +kernel
theorem dX11_tellOrder_52 : decode cX11_tellOrder 52 = .ok (.invokevirtual 178, 3) := by decide +kernel
theorem dX11_tellOrder_55 : decode cX11_tellOrder 55 = .ok (.ireturn, 1) := by decide +kernel
theorem dX11_tellOrder_56 : decode cX11_tellOrder 56 = .ok (.aload_n 0, 1) := by decide +kernel
theorem dX11_tellOrder_57 : decode cX11_tellOrder 57 = .ok (.getfield 39, 3) := by decide +kernel
theorem dX11_tellOrder_60 : decode cX11_tellOrder 60 = .ok (.getfield 279, 3) := by decide +kernel
theorem dX11_tellOrder_63 : decode cX11_tellOrder 63 = .ok (.iload_n 1, 1) := by decide +kernel
theorem dX11_tellOrder_64 : decode cX11_tellOrder 64 = .ok (.invokevirtual 178, 3) := by decide +kernel
theorem dX11_tellOrder_67 : decode cX11_tellOrder 67 = .ok (.ireturn, 1) := by decide +kernel
theorem dX11_tellOrder_68 : decode cX11_tellOrder 68 = .ok (.aload_n 0, 1) := by decide +kernel
theorem dX11_tellOrder_69 : decode cX11_tellOrder 69 = .ok (.getfield 57, 3) := by decide +kernel
theorem dX11_tellOrder_72 : decode cX11_tellOrder 72 = .ok (.iload_n 1, 1) := by decide +kernel
theorem dX11_tellOrder_73 : decode cX11_tellOrder 73 = .ok (.invokevirtual 282, 3) := by decide +kernel
theorem dX11_tellOrder_76 : decode cX11_tellOrder 76 = .ok (.ifCond .eq 7, 3) := by decide +kernel
theorem dX11_tellOrder_79 : decode cX11_tellOrder 79 = .ok (.iconst 1, 1) := by decide +kernel
theorem dX11_tellOrder_80 : decode cX11_tellOrder 80 = .ok (.goto 4, 3) := by decide +kernel
theorem dX11_tellOrder_83 : decode cX11_tellOrder 83 = .ok (.iconst 0, 1) := by decide +kernel
theorem dX11_tellOrder_84 : decode cX11_tellOrder 84 = .ok (.ireturn, 1) := by decide +kernel
theorem dX11_tellOrder_85 : decode cX11_tellOrder 85 = .ok (.aload_n 0, 1) := by decide +kernel
theorem dX11_tellOrder_86 : decode cX11_tellOrder 86 = .ok (.getfield 48, 3) := by decide +kernel
theorem dX11_tellOrder_89 : decode cX11_tellOrder 89 = .ok (.getfield 285, 3) := by decide +kernel
theorem dX11_tellOrder_92 : decode cX11_tellOrder 92 = .ok (.iload_n 1, 1) := by decide +kernel
theorem dX11_tellOrder_93 : decode cX11_tellOrder 93 = .ok (.invokevirtual 178, 3) := by decide +kernel
theorem dX11_tellOrder_96 : decode cX11_tellOrder 96 = .ok (.ireturn, 1) := by decide +kernel
theorem dX11_digestOfLots_0 : decode cX11_digestOfLots 0 = .ok (.lload_n 1, 1) := by decide +kernel
theorem dX11_digestOfLots_1 : decode cX11_digestOfLots 1 = .ok (.lstore_n 3, 1) := by decide +kernel
theorem dX11_digestOfLots_2 : decode cX11_digestOfLots 2 = .ok (.iconst 0, 1) := by decide +kernel
theorem dX11_digestOfLots_3 : decode cX11_digestOfLots 3 = .ok (.istore 5, 2) := by decide +kernel
theorem dX11_digestOfLots_5 : decode cX11_digestOfLots 5 = .ok (.iload 5, 2) := by decide +kernel
theorem dX11_digestOfLots_7 : decode cX11_digestOfLots 7 = .ok (.aload_n 0, 1) := by decide +kernel
theorem dX11_digestOfLots_8 : decode cX11_digestOfLots 8 = .ok (.getfield 39, 3) := by decide +kernel
theorem dX11_digestOfLots_11 : decode cX11_digestOfLots 11 = .ok (.getfield 247, 3) := by decide +kernel
theorem dX11_digestOfLots_14 : decode cX11_digestOfLots 14 = .ok (.if_icmp .ge 44, 3) := by decide +kernel
theorem dX11_digestOfLots_17 : decode cX11_digestOfLots 17 = .ok (.iconst 0, 1) := by decide +kernel
theorem dX11_digestOfLots_18 : decode cX11_digestOfLots 18 = .ok (.istore 6, 2) := by decide +kernel
theorem dX11_digestOfLots_20 : decode cX11_digestOfLots 20 = .ok (.iload 6, 2) := by decide +kernel
theorem dX11_digestOfLots_22 : decode cX11_digestOfLots 22 = .ok (.bipush 6, 2) := by decide +kernel
theorem dX11_digestOfLots_24 : decode cX11_digestOfLots 24 = .ok (.if_icmp .gt 28, 3) := by decide +kernel
theorem dX11_digestOfLots_27 : decode cX11_digestOfLots 27 = .ok (.lload_n 3, 1) := by decide +kernel
theorem dX11_digestOfLots_28 : decode cX11_digestOfLots 28 = .ok (.ldc2_w 252, 3) := by decide +kernel
theorem dX11_digestOfLots_31 : decode cX11_digestOfLots 31 = .ok (.lmul, 1) := by decide +kernel
theorem dX11_digestOfLots_32 : decode cX11_digestOfLots 32 = .ok (.aload_n 0, 1) := by decide +kernel
theorem dX11_digestOfLots_33 : decode cX11_digestOfLots 33 = .ok (.getfield 48, 3) := by decide +kernel
theorem dX11_digestOfLots_36 : decode cX11_digestOfLots 36 = .ok (.iload 5, 2) := by decide +kernel
theorem dX11_digestOfLots_38 : decode cX11_digestOfLots 38 = .ok (.iload 6, 2) := by decide +kernel
theorem dX11_digestOfLots_40 : decode cX11_digestOfLots 40 = .ok (.invokevirtual 123, 3) := by decide +kernel
theorem dX11_digestOfLots_43 : decode cX11_digestOfLots 43 = .ok (.i2l, 1) := by decide +kernel
theorem dX11_digestOfLots_44 : decode cX11_digestOfLots 44 = .ok (.ladd, 1) := by decide +kernel
theorem dX11_digestOfLots_45 : decode cX11_digestOfLots 45 = .ok (.lstore_n 3, 1) := by decide +kernel
theorem dX11_digestOfLots_46 : decode cX11_digestOfLots 46 = .ok (.iinc 6 1, 3) := by decide +kernel
theorem dX11_digestOfLots_49 : decode cX11_digestOfLots 49 = .ok (.goto (-29), 3) := by decide +kernel
theorem dX11_digestOfLots_52 : decode cX11_digestOfLots 52 = .ok (.iinc 5 1, 3) := by decide +kernel
theorem dX11_digestOfLots_55 : decode cX11_digestOfLots 55 = .ok (.goto (-50), 3) := by decide +kernel
theorem dX11_digestOfLots_58 : decode cX11_digestOfLots 58 = .ok (.lload_n 3, 1) := by decide +kernel
theorem dX11_digestOfLots_59 : decode cX11_digestOfLots 59 = .ok (.lreturn, 1) := by decide +kernel
theorem dX11_digestOfMerchants_0 : decode cX11_digestOfMerchants 0 = .ok (.lload_n 1, 1) := by decide +kernel
theorem dX11_digestOfMerchants_1 : decode cX11_digestOfMerchants 1 = .ok (.lstore_n 3, 1) := by decide +kernel
theorem dX11_digestOfMerchants_2 : decode cX11_digestOfMerchants 2 = .ok (.iconst 0, 1) := by decide +kernel
theorem dX11_digestOfMerchants_3 : decode cX11_digestOfMerchants 3 = .ok (.istore 5, 2) := by decide +kernel
theorem dX11_digestOfMerchants_5 : decode cX11_digestOfMerchants 5 = .ok (.iload 5, 2) := by decide +kernel
theorem dX11_digestOfMerchants_7 : decode cX11_digestOfMerchants 7 = .ok (.aload_n 0, 1) := by decide +kernel
theorem dX11_digestOfMerchants_8 : decode cX11_digestOfMerchants 8 = .ok (.getfield 39, 3) := by decide +kernel
theorem dX11_digestOfMerchants_11 : decode cX11_digestOfMerchants 11 = .ok (.getfield 238, 3) := by decide +kernel
theorem dX11_digestOfMerchants_14 : decode cX11_digestOfMerchants 14 = .ok (.if_icmp .ge 86, 3) := by decide +kernel
theorem dX11_digestOfMerchants_17 : decode cX11_digestOfMerchants 17 = .ok (.iconst 0, 1) := by decide +kernel
theorem dX11_digestOfMerchants_18 : decode cX11_digestOfMerchants 18 = .ok (.istore 6, 2) := by decide +kernel
theorem dX11_digestOfMerchants_20 : decode cX11_digestOfMerchants 20 = .ok (.iload 6, 2) := by decide +kernel
theorem dX11_digestOfMerchants_22 : decode cX11_digestOfMerchants 22 = .ok (.iconst 5, 1) := by decide +kernel
theorem dX11_digestOfMerchants_23 : decode cX11_digestOfMerchants 23 = .ok (.if_icmp .gt 28, 3) := by decide +kernel
theorem dX11_digestOfMerchants_26 : decode cX11_digestOfMerchants 26 = .ok (.lload_n 3, 1) := by decide +kernel
theorem dX11_digestOfMerchants_27 : decode cX11_digestOfMerchants 27 = .ok (.ldc2_w 252, 3) := by decide +kernel
theorem dX11_digestOfMerchants_30 : decode cX11_digestOfMerchants 30 = .ok (.lmul, 1) := by decide +kernel
theorem dX11_digestOfMerchants_31 : decode cX11_digestOfMerchants 31 = .ok (.aload_n 0, 1) := by decide +kernel
theorem dX11_digestOfMerchants_32 : decode cX11_digestOfMerchants 32 = .ok (.getfield 48, 3) := by decide +kernel
theorem dX11_digestOfMerchants_35 : decode cX11_digestOfMerchants 35 = .ok (.iload 5, 2) := by decide +kernel
theorem dX11_digestOfMerchants_37 : decode cX11_digestOfMerchants 37 = .ok (.iload 6, 2) := by decide +kernel
theorem dX11_digestOfMerchants_39 : decode cX11_digestOfMerchants 39 = .ok (.invokevirtual 132, 3) := by decide +kernel
theorem dX11_digestOfMerchants_42 : decode cX11_digestOfMerchants 42 = .ok (.i2l, 1) := by decide +kernel
theorem dX11_digestOfMerchants_43 : decode cX11_digestOfMerchants 43 = .ok (.ladd, 1) := by decide +kernel
theorem dX11_digestOfMerchants_44 : decode cX11_digestOfMerchants 44 = .ok (.lstore_n 3, 1) := by decide +kernel
theorem dX11_digestOfMerchants_45 : decode cX11_digestOfMerchants 45 = .ok (.iinc 6 1, 3) := by decide +kernel
theorem dX11_digestOfMerchants_48 : decode cX11_digestOfMerchants 48 = .ok (.goto (-28), 3) := by decide +kernel
theorem dX11_digestOfMerchants_51 : decode cX11_digestOfMerchants 51 = .ok (.iconst 0, 1) := by decide +kernel
theorem dX11_digestOfMerchants_52 : decode cX11_digestOfMerchants 52 = .ok (.istore 6, 2) := by decide +kernel
theorem dX11_digestOfMerchants_54 : decode cX11_digestOfMerchants 54 = .ok (.iload 6, 2) := by decide +kernel
theorem dX11_digestOfMerchants_56 : decode cX11_digestOfMerchants 56 = .ok (.aload_n 0, 1) := by decide +kernel
theorem dX11_digestOfMerchants_57 : decode cX11_digestOfMerchants 57 = .ok (.getfield 39, 3) := by decide +kernel
theorem dX11_digestOfMerchants_60 : decode cX11_digestOfMerchants 60 = .ok (.getfield 238, 3) := by decide +kernel
theorem dX11_digestOfMerchants_63 : decode cX11_digestOfMerchants 63 = .ok (.if_icmp .ge 31, 3) := by decide +kernel
theorem dX11_digestOfMerchants_66 : decode cX11_digestOfMerchants 66 = .ok (.lload_n 3, 1) := by decide +kernel
theorem dX11_digestOfMerchants_67 : decode cX11_digestOfMerchants 67 = .ok (.ldc2_w 252, 3) := by decide +kernel
theorem dX11_digestOfMerchants_70 : decode cX11_digestOfMerchants 70 = .ok (.lmul, 1) := by decide +kernel
theorem dX11_digestOfMerchants_71 : decode cX11_digestOfMerchants 71 = .ok (.aload_n 0, 1) := by decide +kernel
theorem dX11_digestOfMerchants_72 : decode cX11_digestOfMerchants 72 = .ok (.getfield 48, 3) := by decide +kernel
theorem dX11_digestOfMerchants_75 : decode cX11_digestOfMerchants 75 = .ok (.getfield 153, 3) := by decide +kernel
theorem dX11_digestOfMerchants_78 : decode cX11_digestOfMerchants 78 = .ok (.iload 5, 2) := by decide +kernel
theorem dX11_digestOfMerchants_80 : decode cX11_digestOfMerchants 80 = .ok (.iload 6, 2) := by decide +kernel
theorem dX11_digestOfMerchants_82 : decode cX11_digestOfMerchants 82 = .ok (.invokevirtual 157, 3) := by decide +kernel
theorem dX11_digestOfMerchants_85 : decode cX11_digestOfMerchants 85 = .ok (.i2l, 1) := by decide +kernel
theorem dX11_digestOfMerchants_86 : decode cX11_digestOfMerchants 86 = .ok (.ladd, 1) := by decide +kernel
theorem dX11_digestOfMerchants_87 : decode cX11_digestOfMerchants 87 = .ok (.lstore_n 3, 1) := by decide +kernel
theorem dX11_digestOfMerchants_88 : decode cX11_digestOfMerchants 88 = .ok (.iinc 6 1, 3) := by decide +kernel
theorem dX11_digestOfMerchants_91 : decode cX11_digestOfMerchants 91 = .ok (.goto (-37), 3) := by decide +kernel
theorem dX11_digestOfMerchants_94 : decode cX11_digestOfMerchants 94 = .ok (.iinc 5 1, 3) := by decide +kernel
theorem dX11_digestOfMerchants_97 : decode cX11_digestOfMerchants 97 = .ok (.goto (-92), 3) := by decide +kernel
theorem dX11_digestOfMerchants_100 : decode cX11_digestOfMerchants 100 = .ok (.lload_n 3, 1) := by decide +kernel
theorem dX11_digestOfMerchants_101 : decode cX11_digestOfMerchants 101 = .ok (.lreturn, 1) := by decide +kernel
theorem dX11_digestOfGuilds_0 : decode cX11_digestOfGuilds 0 = .ok (.lload_n 1, 1) := by decide +kernel
theorem dX11_digestOfGuilds_1 : decode cX11_digestOfGuilds 1 = .ok (.lstore_n 3, 1) := by decide +kernel
theorem dX11_digestOfGuilds_2 : decode cX11_digestOfGuilds 2 = .ok (.iconst 0, 1) := by decide +kernel
theorem dX11_digestOfGuilds_3 : decode cX11_digestOfGuilds 3 = .ok (.istore 5, 2) := by decide +kernel
theorem dX11_digestOfGuilds_5 : decode cX11_digestOfGuilds 5 = .ok (.iload 5, 2) := by decide +kernel
theorem dX11_digestOfGuilds_7 : decode cX11_digestOfGuilds 7 = .ok (.aload_n 0, 1) := by decide +kernel
theorem dX11_digestOfGuilds_8 : decode cX11_digestOfGuilds 8 = .ok (.getfield 39, 3) := by decide +kernel
theorem dX11_digestOfGuilds_11 : decode cX11_digestOfGuilds 11 = .ok (.getfield 135, 3) := by decide +kernel
theorem dX11_digestOfGuilds_14 : decode cX11_digestOfGuilds 14 = .ok (.if_icmp .ge 43, 3) := by decide +kernel
theorem dX11_digestOfGuilds_17 : decode cX11_digestOfGuilds 17 = .ok (.iconst 0, 1) := by decide +kernel
theorem dX11_digestOfGuilds_18 : decode cX11_digestOfGuilds 18 = .ok (.istore 6, 2) := by decide +kernel
theorem dX11_digestOfGuilds_20 : decode cX11_digestOfGuilds 20 = .ok (.iload 6, 2) := by decide +kernel
theorem dX11_digestOfGuilds_22 : decode cX11_digestOfGuilds 22 = .ok (.iconst 3, 1) := by decide +kernel
theorem dX11_digestOfGuilds_23 : decode cX11_digestOfGuilds 23 = .ok (.if_icmp .gt 28, 3) := by decide +kernel
theorem dX11_digestOfGuilds_26 : decode cX11_digestOfGuilds 26 = .ok (.lload_n 3, 1) := by decide +kernel
theorem dX11_digestOfGuilds_27 : decode cX11_digestOfGuilds 27 = .ok (.ldc2_w 252, 3) := by decide +kernel
theorem dX11_digestOfGuilds_30 : decode cX11_digestOfGuilds 30 = .ok (.lmul, 1) := by decide +kernel
theorem dX11_digestOfGuilds_31 : decode cX11_digestOfGuilds 31 = .ok (.aload_n 0, 1) := by decide +kernel
theorem dX11_digestOfGuilds_32 : decode cX11_digestOfGuilds 32 = .ok (.getfield 48, 3) := by decide +kernel
theorem dX11_digestOfGuilds_35 : decode cX11_digestOfGuilds 35 = .ok (.iload 5, 2) := by decide +kernel
theorem dX11_digestOfGuilds_37 : decode cX11_digestOfGuilds 37 = .ok (.iload 6, 2) := by decide +kernel
theorem dX11_digestOfGuilds_39 : decode cX11_digestOfGuilds 39 = .ok (.invokevirtual 140, 3) := by decide +kernel
theorem dX11_digestOfGuilds_42 : decode cX11_digestOfGuilds 42 = .ok (.i2l, 1) := by decide +kernel
theorem dX11_digestOfGuilds_43 : decode cX11_digestOfGuilds 43 = .ok (.ladd, 1) := by decide +kernel
theorem dX11_digestOfGuilds_44 : decode cX11_digestOfGuilds 44 = .ok (.lstore_n 3, 1) := by decide +kernel
theorem dX11_digestOfGuilds_45 : decode cX11_digestOfGuilds 45 = .ok (.iinc 6 1, 3) := by decide +kernel
theorem dX11_digestOfGuilds_48 : decode cX11_digestOfGuilds 48 = .ok (.goto (-28), 3) := by decide +kernel
theorem dX11_digestOfGuilds_51 : decode cX11_digestOfGuilds 51 = .ok (.iinc 5 1, 3) := by decide +kernel
theorem dX11_digestOfGuilds_54 : decode cX11_digestOfGuilds 54 = .ok (.goto (-49), 3) := by decide +kernel
theorem dX11_digestOfGuilds_57 : decode cX11_digestOfGuilds 57 = .ok (.lload_n 3, 1) := by decide +kernel
theorem dX11_digestOfGuilds_58 : decode cX11_digestOfGuilds 58 = .ok (.lreturn, 1) := by decide +kernel
theorem dX11_digestOfOrders_0 : decode cX11_digestOfOrders 0 = .ok (.lload_n 1, 1) := by decide +kernel
theorem dX11_digestOfOrders_1 : decode cX11_digestOfOrders 1 = .ok (.lstore_n 3, 1) := by decide +kernel
theorem dX11_digestOfOrders_2 : decode cX11_digestOfOrders 2 = .ok (.iconst 0, 1) := by decide +kernel
theorem dX11_digestOfOrders_3 : decode cX11_digestOfOrders 3 = .ok (.istore 5, 2) := by decide +kernel
theorem dX11_digestOfOrders_5 : decode cX11_digestOfOrders 5 = .ok (.iload 5, 2) := by decide +kernel
theorem dX11_digestOfOrders_7 : decode cX11_digestOfOrders 7 = .ok (.aload_n 0, 1) := by decide +kernel
theorem dX11_digestOfOrders_8 : decode cX11_digestOfOrders 8 = .ok (.getfield 39, 3) := by decide +kernel
theorem dX11_digestOfOrders_11 : decode cX11_digestOfOrders 11 = .ok (.getfield 143, 3) := by decide +kernel
theorem dX11_digestOfOrders_14 : decode cX11_digestOfOrders 14 = .ok (.if_icmp .ge 40, 3) := by decide +kernel
theorem dX11_digestOfOrders_17 : decode cX11_digestOfOrders 17 = .ok (.iconst 0, 1) := by decide +kernel
theorem dX11_digestOfOrders_18 : decode cX11_digestOfOrders 18 = .ok (.istore 6, 2) := by decide +kernel
theorem dX11_digestOfOrders_20 : decode cX11_digestOfOrders 20 = .ok (.iload 6, 2) := by decide +kernel
theorem dX11_digestOfOrders_22 : decode cX11_digestOfOrders 22 = .ok (.iconst 4, 1) := by decide +kernel
theorem dX11_digestOfOrders_23 : decode cX11_digestOfOrders 23 = .ok (.if_icmp .gt 25, 3) := by decide +kernel
theorem dX11_digestOfOrders_26 : decode cX11_digestOfOrders 26 = .ok (.lload_n 3, 1) := by decide +kernel
theorem dX11_digestOfOrders_27 : decode cX11_digestOfOrders 27 = .ok (.ldc2_w 252, 3) := by decide +kernel
theorem dX11_digestOfOrders_30 : decode cX11_digestOfOrders 30 = .ok (.lmul, 1) := by decide +kernel
theorem dX11_digestOfOrders_31 : decode cX11_digestOfOrders 31 = .ok (.aload_n 0, 1) := by decide +kernel
theorem dX11_digestOfOrders_32 : decode cX11_digestOfOrders 32 = .ok (.iload 5, 2) := by decide +kernel
theorem dX11_digestOfOrders_34 : decode cX11_digestOfOrders 34 = .ok (.iload 6, 2) := by decide +kernel
theorem dX11_digestOfOrders_36 : decode cX11_digestOfOrders 36 = .ok (.invokevirtual 148, 3) := by decide +kernel
theorem dX11_digestOfOrders_39 : decode cX11_digestOfOrders 39 = .ok (.i2l, 1) := by decide +kernel
theorem dX11_digestOfOrders_40 : decode cX11_digestOfOrders 40 = .ok (.ladd, 1) := by decide +kernel
theorem dX11_digestOfOrders_41 : decode cX11_digestOfOrders 41 = .ok (.lstore_n 3, 1) := by decide +kernel
theorem dX11_digestOfOrders_42 : decode cX11_digestOfOrders 42 = .ok (.iinc 6 1, 3) := by decide +kernel
theorem dX11_digestOfOrders_45 : decode cX11_digestOfOrders 45 = .ok (.goto (-25), 3) := by decide +kernel
theorem dX11_digestOfOrders_48 : decode cX11_digestOfOrders 48 = .ok (.iinc 5 1, 3) := by decide +kernel
theorem dX11_digestOfOrders_51 : decode cX11_digestOfOrders 51 = .ok (.goto (-46), 3) := by decide +kernel
theorem dX11_digestOfOrders_54 : decode cX11_digestOfOrders 54 = .ok (.lload_n 3, 1) := by decide +kernel
theorem dX11_digestOfOrders_55 : decode cX11_digestOfOrders 55 = .ok (.lreturn, 1) := by decide +kernel
theorem dX12_init_0 : decode cX12_init 0 = .ok (.aload_n 0, 1) := by decide +kernel
theorem dX12_init_1 : decode cX12_init 1 = .ok (.invokespecial 3, 3) := by decide +kernel
theorem dX12_init_4 : decode cX12_init 4 = .ok (.aload_n 0, 1) := by decide +kernel
theorem dX12_init_5 : decode cX12_init 5 = .ok (.sipush 401, 3) := by decide +kernel
theorem dX12_init_8 : decode cX12_init 8 = .ok (.newarray .int, 2) := by decide +kernel
theorem dX12_init_10 : decode cX12_init 10 = .ok (.putfield 9, 3) := by decide +kernel
theorem dX12_init_13 : decode cX12_init 13 = .ok (.aload_n 0, 1) := by decide +kernel
theorem dX12_init_14 : decode cX12_init 14 = .ok (.sipush 401, 3) := by decide +kernel
theorem dX12_init_17 : decode cX12_init 17 = .ok (.newarray .int, 2) := by decide +kernel
theorem dX12_init_19 : decode cX12_init 19 = .ok (.putfield 15, 3) := by decide +kernel
theorem dX12_init_22 : decode cX12_init 22 = .ok (.aload_n 0, 1) := by decide +kernel
theorem dX12_init_23 : decode cX12_init 23 = .ok (.sipush 401, 3) := by decide +kernel
theorem dX12_init_26 : decode cX12_init 26 = .ok (.newarray .int, 2) := by decide +kernel
theorem dX12_init_28 : decode cX12_init 28 = .ok (.putfield 18, 3) := by decide +kernel
theorem dX12_init_31 : decode cX12_init 31 = .ok (.aload_n 0, 1) := by decide +kernel
theorem dX12_init_32 : decode cX12_init 32 = .ok (.sipush 401, 3) := by decide +kernel
theorem dX12_init_35 : decode cX12_init 35 = .ok (.newarray .int, 2) := by decide +kernel
theorem dX12_init_37 : decode cX12_init 37 = .ok (.putfield 21, 3) := by decide +kernel
theorem dX12_init_40 : decode cX12_init 40 = .ok (.aload_n 0, 1) := by decide +kernel
theorem dX12_init_41 : decode cX12_init 41 = .ok (.iconst 4, 1) := by decide +kernel
theorem dX12_init_42 : decode cX12_init 42 = .ok (.newarray .int, 2) := by decide +kernel
theorem dX12_init_44 : decode cX12_init 44 = .ok (.putfield 24, 3) := by decide +kernel
theorem dX12_init_47 : decode cX12_init 47 = .ok (.aload_n 0, 1) := by decide +kernel
theorem dX12_init_48 : decode cX12_init 48 = .ok (.iconst 4, 1) := by decide +kernel
theorem dX12_init_49 : decode cX12_init 49 = .ok (.newarray .int, 2) := by decide +kernel
theorem dX12_init_51 : decode cX12_init 51 = .ok (.putfield 27, 3) := by decide +kernel
theorem dX12_init_54 : decode cX12_init 54 = .ok (.aload_n 0, 1) := by decide +kernel
theorem dX12_init_55 : decode cX12_init 55 = .ok (.iconst 4, 1) := by decide +kernel
theorem dX12_init_56 : decode cX12_init 56 = .ok (.newarray .int, 2) := by decide +kernel
theorem dX12_init_58 : decode cX12_init 58 = .ok (.putfield 30, 3) := by decide +kernel
theorem dX12_init_61 : decode cX12_init 61 = .ok (.aload_n 0, 1) := by decide +kernel
theorem dX12_init_62 : decode cX12_init 62 = .ok (.iconst 4, 1) := by decide +kernel
theorem dX12_init_63 : decode cX12_init 63 = .ok (.newarray .int, 2) := by decide +kernel
theorem dX12_init_65 : decode cX12_init 65 = .ok (.putfield 33, 3) := by decide +kernel
theorem dX12_init_68 : decode cX12_init 68 = .ok (.aload_n 0, 1) := by decide +kernel
theorem dX12_init_69 : decode cX12_init 69 = .ok (.iconst 4, 1) := by decide +kernel
theorem dX12_init_70 : decode cX12_init 70 = .ok (.newarray .int, 2) := by decide +kernel
theorem dX12_init_72 : decode cX12_init 72 = .ok (.putfield 36, 3) := by decide +kernel
theorem dX12_init_75 : decode cX12_init 75 = .ok (.aload_n 0, 1) := by decide +kernel
theorem dX12_init_76 : decode cX12_init 76 = .ok (.bipush 6, 2) := by decide +kernel
theorem dX12_init_78 : decode cX12_init 78 = .ok (.newarray .int, 2) := by decide +kernel
theorem dX12_init_80 : decode cX12_init 80 = .ok (.putfield 39, 3) := by decide +kernel
theorem dX12_init_83 : decode cX12_init 83 = .ok (.aload_n 0, 1) := by decide +kernel
theorem dX12_init_84 : decode cX12_init 84 = .ok (.bipush 6, 2) := by decide +kernel
theorem dX12_init_86 : decode cX12_init 86 = .ok (.newarray .int, 2) := by decide +kernel
theorem dX12_init_88 : decode cX12_init 88 = .ok (.putfield 42, 3) := by decide +kernel
theorem dX12_init_91 : decode cX12_init 91 = .ok (.aload_n 0, 1) := by decide +kernel
theorem dX12_init_92 : decode cX12_init 92 = .ok (.bipush 6, 2) := by decide +kernel
theorem dX12_init_94 : decode cX12_init 94 = .ok (.newarray .int, 2) := by decide +kernel
theorem dX12_init_96 : decode cX12_init 96 = .ok (.putfield 45, 3) := by decide +kernel
theorem dX12_init_99 : decode cX12_init 99 = .ok (.aload_n 0, 1) := by decide +kernel
theorem dX12_init_100 : decode cX12_init 100 = .ok (.bipush 10, 2) := by decide +kernel
theorem dX12_init_102 : decode cX12_init 102 = .ok (.newarray .int, 2) := by decide +kernel
theorem dX12_init_104 : decode cX12_init 104 = .ok (.putfield 48, 3) := by decide +kernel
theorem dX12_init_107 : decode cX12_init 107 = .ok (.aload_n 0, 1) := by decide +kernel
theorem dX12_init_108 : decode cX12_init 108 = .ok (.bipush 10, 2) := by decide +kernel
theorem dX12_init_110 : decode cX12_init 110 = .ok (.newarray .int, 2) := by decide +kernel
theorem dX12_init_112 : decode cX12_init 112 = .ok (.putfield 51, 3) := by decide +kernel
theorem dX12_init_115 : decode cX12_init 115 = .ok (.aload_n 0, 1) := by decide +kernel
theorem dX12_init_116 : decode cX12_init 116 = .ok (.bipush 10, 2) := by decide +kernel
theorem dX12_init_118 : decode cX12_init 118 = .ok (.newarray .int, 2) := by decide +kernel
theorem dX12_init_120 : decode cX12_init 120 = .ok (.putfield 54, 3) := by decide +kernel
theorem dX12_init_123 : decode cX12_init 123 = .ok (.aload_n 0, 1) := by decide +kernel
theorem dX12_init_124 : decode cX12_init 124 = .ok (.bipush 10, 2) := by decide +kernel
theorem dX12_init_126 : decode cX12_init 126 = .ok (.newarray .int, 2) := by decide +kernel
theorem dX12_init_128 : decode cX12_init 128 = .ok (.putfield 57, 3) := by decide +kernel
theorem dX12_init_131 : decode cX12_init 131 = .ok (.aload_n 0, 1) := by decide +kernel
theorem dX12_init_132 : decode cX12_init 132 = .ok (.bipush 24, 2) := by decide +kernel
theorem dX12_init_134 : decode cX12_init 134 = .ok (.newarray .int, 2) := by decide +kernel
theorem dX12_init_136 : decode cX12_init 136 = .ok (.putfield 60, 3) := by decide +kernel
theorem dX12_init_139 : decode cX12_init 139 = .ok (.aload_n 0, 1) := by decide +kernel
theorem dX12_init_140 : decode cX12_init 140 = .ok (.bipush 24, 2) := by decide +kernel
theorem dX12_init_142 : decode cX12_init 142 = .ok (.newarray .int, 2) := by decide +kernel
theorem dX12_init_144 : decode cX12_init 144 = .ok (.putfield 63, 3) := by decide +kernel
theorem dX12_init_147 : decode cX12_init 147 = .ok (.aload_n 0, 1) := by decide +kernel
theorem dX12_init_148 : decode cX12_init 148 = .ok (.bipush 24, 2) := by decide +kernel
theorem dX12_init_150 : decode cX12_init 150 = .ok (.newarray .int, 2) := by decide +kernel
theorem dX12_init_152 : decode cX12_init 152 = .ok (.putfield 66, 3) := by decide +kernel
theorem dX12_init_155 : decode cX12_init 155 = .ok (.aload_n 0, 1) := by decide +kernel
theorem dX12_init_156 : decode cX12_init 156 = .ok (.bipush 24, 2) := by decide +kernel
theorem dX12_init_158 : decode cX12_init 158 = .ok (.newarray .int, 2) := by decide +kernel
theorem dX12_init_160 : decode cX12_init 160 = .ok (.putfield 69, 3) := by decide +kernel
theorem dX12_init_163 : decode cX12_init 163 = .ok (.aload_n 0, 1) := by decide +kernel
theorem dX12_init_164 : decode cX12_init 164 = .ok (.bipush 24, 2) := by decide +kernel
theorem dX12_init_166 : decode cX12_init 166 = .ok (.newarray .int, 2) := by decide +kernel
theorem dX12_init_168 : decode cX12_init 168 = .ok (.putfield 72, 3) := by decide +kernel
theorem dX12_init_171 : decode cX12_init 171 = .ok (.return_, 1) := by decide +kernel
theorem dX13_init_0 : decode cX13_init 0 = .ok (.aload_n 0, 1) := by decide +kernel
theorem dX13_init_1 : decode cX13_init 1 = .ok (.invokespecial 3, 3) := by decide +kernel
theorem dX13_init_4 : decode cX13_init 4 = .ok (.aload_n 0, 1) := by decide +kernel
theorem dX13_init_5 : decode cX13_init 5 = .ok (.iconst 3, 1) := by decide +kernel
theorem dX13_init_6 : decode cX13_init 6 = .ok (.putfield 9, 3) := by decide +kernel
theorem dX13_init_9 : decode cX13_init 9 = .ok (.aload_n 0, 1) := by decide +kernel
theorem dX13_init_10 : decode cX13_init 10 = .ok (.bipush 10, 2) := by decide +kernel
theorem dX13_init_12 : decode cX13_init 12 = .ok (.newarray .int, 2) := by decide +kernel
theorem dX13_init_14 : decode cX13_init 14 = .ok (.putfield 15, 3) := by decide +kernel
theorem dX13_init_17 : decode cX13_init 17 = .ok (.aload_n 0, 1) := by decide +kernel
theorem dX13_init_18 : decode cX13_init 18 = .ok (.bipush 10, 2) := by decide +kernel
theorem dX13_init_20 : decode cX13_init 20 = .ok (.newarray .int, 2) := by decide +kernel
theorem dX13_init_22 : decode cX13_init 22 = .ok (.putfield 19, 3) := by decide +kernel
theorem dX13_init_25 : decode cX13_init 25 = .ok (.aload_n 0, 1) := by decide +kernel
theorem dX13_init_26 : decode cX13_init 26 = .ok (.bipush 10, 2) := by decide +kernel
theorem dX13_init_28 : decode cX13_init 28 = .ok (.newarray .int, 2) := by decide +kernel
theorem dX13_init_30 : decode cX13_init 30 = .ok (.putfield 22, 3) := by decide +kernel
theorem dX13_init_33 : decode cX13_init 33 = .ok (.aload_n 0, 1) := by decide +kernel
theorem dX13_init_34 : decode cX13_init 34 = .ok (.bipush 10, 2) := by decide +kernel
theorem dX13_init_36 : decode cX13_init 36 = .ok (.newarray .int, 2) := by decide +kernel
theorem dX13_init_38 : decode cX13_init 38 = .ok (.putfield 25, 3) := by decide +kernel
theorem dX13_init_41 : decode cX13_init 41 = .ok (.aload_n 0, 1) := by decide +kernel
theorem dX13_init_42 : decode cX13_init 42 = .ok (.bipush 10, 2) := by decide +kernel
theorem dX13_init_44 : decode cX13_init 44 = .ok (.newarray .int, 2) := by decide +kernel
theorem dX13_init_46 : decode cX13_init 46 = .ok (.putfield 28, 3) := by decide +kernel
theorem dX13_init_49 : decode cX13_init 49 = .ok (.aload_n 0, 1) := by decide +kernel
theorem dX13_init_50 : decode cX13_init 50 = .ok (.bipush 6, 2) := by decide +kernel
theorem dX13_init_52 : decode cX13_init 52 = .ok (.newarray .int, 2) := by decide +kernel
theorem dX13_init_54 : decode cX13_init 54 = .ok (.putfield 31, 3) := by decide +kernel
theorem dX13_init_57 : decode cX13_init 57 = .ok (.aload_n 0, 1) := by decide +kernel
theorem dX13_init_58 : decode cX13_init 58 = .ok (.bipush 36, 2) := by decide +kernel
theorem dX13_init_60 : decode cX13_init 60 = .ok (.newarray .int, 2) := by decide +kernel
theorem dX13_init_62 : decode cX13_init 62 = .ok (.putfield 34, 3) := by decide +kernel
theorem dX13_init_65 : decode cX13_init 65 = .ok (.aload_n 0, 1) := by decide +kernel
theorem dX13_init_66 : decode cX13_init 66 = .ok (.iconst 4, 1) := by decide +kernel
theorem dX13_init_67 : decode cX13_init 67 = .ok (.newarray .int, 2) := by decide +kernel
theorem dX13_init_69 : decode cX13_init 69 = .ok (.putfield 37, 3) := by decide +kernel
theorem dX13_init_72 : decode cX13_init 72 = .ok (.aload_n 0, 1) := by decide +kernel
theorem dX13_init_73 : decode cX13_init 73 = .ok (.bipush 24, 2) := by decide +kernel
theorem dX13_init_75 : decode cX13_init 75 = .ok (.newarray .int, 2) := by decide +kernel
theorem dX13_init_77 : decode cX13_init 77 = .ok (.putfield 40, 3) := by decide +kernel
theorem dX13_init_80 : decode cX13_init 80 = .ok (.return_, 1) := by decide +kernel
theorem dX13_copy_0 : decode cX13_copy 0 = .ok (.aload_n 1, 1) := by decide +kernel
theorem dX13_copy_1 : decode cX13_copy 1 = .ok (.iconst 0, 1) := by decide +kernel
theorem dX13_copy_2 : decode cX13_copy 2 = .ok (.aload_n 2, 1) := by decide +kernel
theorem dX13_copy_3 : decode cX13_copy 3 = .ok (.iconst 0, 1) := by decide +kernel
theorem dX13_copy_4 : decode cX13_copy 4 = .ok (.aload_n 1, 1) := by decide +kernel
theorem dX13_copy_5 : decode cX13_copy 5 = .ok (.arraylength, 1) := by decide +kernel
theorem dX13_copy_6 : decode cX13_copy 6 = .ok (.invokestatic 43, 3) := by decide +kernel
theorem dX13_copy_9 : decode cX13_copy 9 = .ok (.return_, 1) := by decide +kernel
theorem dX13_become_0 : decode cX13_become 0 = .ok (.aload_n 0, 1) := by decide +kernel
theorem dX13_become_1 : decode cX13_become 1 = .ok (.aload_n 1, 1) := by decide +kernel
theorem dX13_become_2 : decode cX13_become 2 = .ok (.getfield 49, 3) := by decide +kernel
theorem dX13_become_5 : decode cX13_become 5 = .ok (.putfield 49, 3) := by decide +kernel
theorem dX13_become_8 : decode cX13_become 8 = .ok (.aload_n 0, 1) := by decide +kernel
theorem dX13_become_9 : decode cX13_become 9 = .ok (.aload_n 1, 1) := by decide +kernel
theorem dX13_become_10 : decode cX13_become 10 = .ok (.getfield 9, 3) := by decide +kernel
theorem dX13_become_13 : decode cX13_become 13 = .ok (.putfield 9, 3) := by decide +kernel
theorem dX13_become_16 : decode cX13_become 16 = .ok (.aload_n 0, 1) := by decide +kernel
theorem dX13_become_17 : decode cX13_become 17 = .ok (.aload_n 1, 1) := by decide +kernel
theorem dX13_become_18 : decode cX13_become 18 = .ok (.getfield 52, 3) := by decide +kernel
theorem dX13_become_21 : decode cX13_become 21 = .ok (.putfield 52, 3) := by decide +kernel
theorem dX13_become_24 : decode cX13_become 24 = .ok (.aload_n 0, 1) := by decide +kernel
theorem dX13_become_25 : decode cX13_become 25 = .ok (.aload_n 1, 1) := by decide +kernel
theorem dX13_become_26 : decode cX13_become 26 = .ok (.getfield 55, 3) := by decide +kernel
theorem dX13_become_29 : decode cX13_become 29 = .ok (.putfield 55, 3) := by decide +kernel
theorem dX13_become_32 : decode cX13_become 32 = .ok (.aload_n 0, 1) := by decide +kernel
theorem dX13_become_33 : decode cX13_become 33 = .ok (.aload_n 1, 1) := by decide +kernel
theorem dX13_become_34 : decode cX13_become 34 = .ok (.getfield 58, 3) := by decide +kernel
theorem dX13_become_37 : decode cX13_become 37 = .ok (.putfield 58, 3) := by decide +kernel
theorem dX13_become_40 : decode cX13_become 40 = .ok (.aload_n 0, 1) := by decide +kernel
theorem dX13_become_41 : decode cX13_become 41 = .ok (.aload_n 1, 1) := by decide +kernel
theorem dX13_become_42 : decode cX13_become 42 = .ok (.getfield 15, 3) := by decide +kernel
theorem dX13_become_45 : decode cX13_become 45 = .ok (.aload_n 0, 1) := by decide +kernel
theorem dX13_become_46 : decode cX13_become 46 = .ok (.getfield 15, 3) := by decide +kernel
theorem dX13_become_49 : decode cX13_become 49 = .ok (.invokevirtual 61, 3) := by decide +kernel
theorem dX13_become_52 : decode cX13_become 52 = .ok (.aload_n 0, 1) := by decide +kernel
theorem dX13_become_53 : decode cX13_become 53 = .ok (.aload_n 1, 1) := by decide +kernel
theorem dX13_become_54 : decode cX13_become 54 = .ok (.getfield 19, 3) := by decide +kernel
theorem dX13_become_57 : decode cX13_become 57 = .ok (.aload_n 0, 1) := by decide +kernel
theorem dX13_become_58 : decode cX13_become 58 = .ok (.getfield 19, 3) := by decide +kernel
theorem dX13_become_61 : decode cX13_become 61 = .ok (.invokevirtual 61, 3) := by decide +kernel
theorem dX13_become_64 : decode cX13_become 64 = .ok (.aload_n 0, 1) := by decide +kernel
theorem dX13_become_65 : decode cX13_become 65 = .ok (.aload_n 1, 1) := by decide +kernel
theorem dX13_become_66 : decode cX13_become 66 = .ok (.getfield 22, 3) := by decide +kernel
theorem dX13_become_69 : decode cX13_become 69 = .ok (.aload_n 0, 1) := by decide +kernel
theorem dX13_become_70 : decode cX13_become 70 = .ok (.getfield 22, 3) := by decide +kernel
theorem dX13_become_73 : decode cX13_become 73 = .ok (.invokevirtual 61, 3) := by decide +kernel
theorem dX13_become_76 : decode cX13_become 76 = .ok (.aload_n 0, 1) := by decide +kernel
theorem dX13_become_77 : decode cX13_become 77 = .ok (.aload_n 1, 1) := by decide +kernel
theorem dX13_become_78 : decode cX13_become 78 = .ok (.getfield 25, 3) := by decide +kernel
theorem dX13_become_81 : decode cX13_become 81 = .ok (.aload_n 0, 1) := by decide +kernel
theorem dX13_become_82 : decode cX13_become 82 = .ok (.getfield 25, 3) := by decide +kernel
theorem dX13_become_85 : decode cX13_become 85 = .ok (.invokevirtual 61, 3) := by decide +kernel
theorem dX13_become_88 : decode cX13_become 88 = .ok (.aload_n 0, 1) := by decide +kernel
theorem dX13_become_89 : decode cX13_become 89 = .ok (.aload_n 1, 1) := by decide +kernel
theorem dX13_become_90 : decode cX13_become 90 = .ok (.getfield 28, 3) := by decide +kernel
theorem dX13_become_93 : decode cX13_become 93 = .ok (.aload_n 0, 1) := by decide +kernel
theorem dX13_become_94 : decode cX13_become 94 = .ok (.getfield 28, 3) := by decide +kernel
theorem dX13_become_97 : decode cX13_become 97 = .ok (.invokevirtual 61, 3) := by decide +kernel
theorem dX13_become_100 : decode cX13_become 100 = .ok (.aload_n 0, 1) := by decide +kernel
theorem dX13_become_101 : decode cX13_become 101 = .ok (.aload_n 1, 1) := by decide +kernel
theorem dX13_become_102 : decode cX13_become 102 = .ok (.getfield 31, 3) := by decide +kernel
theorem dX13_become_105 : decode cX13_become 105 = .ok (.aload_n 0, 1) := by decide +kernel
theorem dX13_become_106 : decode cX13_become 106 = .ok (.getfield 31, 3) := by decide +kernel
theorem dX13_become_109 : decode cX13_become 109 = .ok (.invokevirtual 61, 3) := by decide +kernel
theorem dX13_become_112 : decode cX13_become 112 = .ok (.aload_n 0, 1) := by decide +kernel
theorem dX13_become_113 : decode cX13_become 113 = .ok (.aload_n 1, 1) := by decide +kernel
theorem dX13_become_114 : decode cX13_become 114 = .ok (.getfield 34, 3) := by decide +kernel
theorem dX13_become_117 : decode cX13_become 117 = .ok (.aload_n 0, 1) := by decide +kernel
theorem dX13_become_118 : decode cX13_become 118 = .ok (.getfield 34, 3) := by decide +kernel
theorem dX13_become_121 : decode cX13_become 121 = .ok (.invokevirtual 61, 3) := by decide +kernel
theorem dX13_become_124 : decode cX13_become 124 = .ok (.aload_n 0, 1) := by decide +kernel
theorem dX13_become_125 : decode cX13_become 125 = .ok (.aload_n 1, 1) := by decide +kernel
theorem dX13_become_126 : decode cX13_become 126 = .ok (.getfield 37, 3) := by decide +kernel
theorem dX13_become_129 : decode cX13_become 129 = .ok (.aload_n 0, 1) := by decide +kernel
theorem dX13_become_130 : decode cX13_become 130 = .ok (.getfield 37, 3) := by decide +kernel
theorem dX13_become_133 : decode cX13_become 133 = .ok (.invokevirtual 61, 3) := by decide +kernel
theorem dX13_become_136 : decode cX13_become 136 = .ok (.aload_n 0, 1) := by decide +kernel
theorem dX13_become_137 : decode cX13_become 137 = .ok (.aload_n 1, 1) := by decide +kernel
theorem dX13_become_138 : decode cX13_become 138 = .ok (.getfield 40, 3) := by decide +kernel
theorem dX13_become_141 : decode cX13_become 141 = .ok (.aload_n 0, 1) := by decide +kernel
theorem dX13_become_142 : decode cX13_become 142 = .ok (.getfield 40, 3) := by decide +kernel
theorem dX13_become_145 : decode cX13_become 145 = .ok (.invokevirtual 61, 3) := by decide +kernel
theorem dX13_become_148 : decode cX13_become 148 = .ok (.return_, 1) := by decide +kernel
theorem dX13_owes_0 : decode cX13_owes 0 = .ok (.aload_n 0, 1) := by decide +kernel
theorem dX13_owes_1 : decode cX13_owes 1 = .ok (.getfield 34, 3) := by decide +kernel
theorem dX13_owes_4 : decode cX13_owes 4 = .ok (.bipush 6, 2) := by decide +kernel
theorem dX13_owes_6 : decode cX13_owes 6 = .ok (.iload_n 1, 1) := by decide +kernel
theorem dX13_owes_7 : decode cX13_owes 7 = .ok (.imul, 1) := by decide +kernel
theorem dX13_owes_8 : decode cX13_owes 8 = .ok (.iload_n 2, 1) := by decide +kernel
theorem dX13_owes_9 : decode cX13_owes 9 = .ok (.iadd, 1) := by decide +kernel
theorem dX13_owes_10 : decode cX13_owes 10 = .ok (.iaload, 1) := by decide +kernel
theorem dX13_owes_11 : decode cX13_owes 11 = .ok (.ireturn, 1) := by decide +kernel
theorem dX13_debts_0 : decode cX13_debts 0 = .ok (.iconst 0, 1) := by decide +kernel
theorem dX13_debts_1 : decode cX13_debts 1 = .ok (.istore_n 2, 1) := by decide +kernel
theorem dX13_debts_2 : decode cX13_debts 2 = .ok (.iconst 0, 1) := by decide +kernel
theorem dX13_debts_3 : decode cX13_debts 3 = .ok (.istore_n 3, 1) := by decide +kernel
theorem dX13_debts_4 : decode cX13_debts 4 = .ok (.iload_n 3, 1) := by decide +kernel
theorem dX13_debts_5 : decode cX13_debts 5 = .ok (.bipush 6, 2) := by decide +kernel
theorem dX13_debts_7 : decode cX13_debts 7 = .ok (.if_icmp .ge 18, 3) := by decide +kernel
theorem dX13_debts_10 : decode cX13_debts 10 = .ok (.iload_n 2, 1) := by decide +kernel
theorem dX13_debts_11 : decode cX13_debts 11 = .ok (.aload_n 0, 1) := by decide +kernel
theorem dX13_debts_12 : decode cX13_debts 12 = .ok (.iload_n 1, 1) := by decide +kernel
theorem dX13_debts_13 : decode cX13_debts 13 = .ok (.iload_n 3, 1) := by decide +kernel
theorem dX13_debts_14 : decode cX13_debts 14 = .ok (.invokevirtual 65, 3) := by decide +kernel
theorem dX13_debts_17 : decode cX13_debts 17 = .ok (.iadd, 1) := by decide +kernel
theorem dX13_debts_18 : decode cX13_debts 18 = .ok (.istore_n 2, 1) := by decide +kernel
theorem dX13_debts_19 : decode cX13_debts 19 = .ok (.iinc 3 1, 3) := by decide +kernel
theorem dX13_debts_22 : decode cX13_debts 22 = .ok (.goto (-18), 3) := by decide +kernel
theorem dX13_debts_25 : decode cX13_debts 25 = .ok (.iload_n 2, 1) := by decide +kernel
theorem dX13_debts_26 : decode cX13_debts 26 = .ok (.ireturn, 1) := by decide +kernel
theorem dX13_owed_0 : decode cX13_owed 0 = .ok (.iconst 0, 1) := by decide +kernel
theorem dX13_owed_1 : decode cX13_owed 1 = .ok (.istore_n 2, 1) := by decide +kernel
theorem dX13_owed_2 : decode cX13_owed 2 = .ok (.iconst 0, 1) := by decide +kernel
theorem dX13_owed_3 : decode cX13_owed 3 = .ok (.istore_n 3, 1) := by decide +kernel
theorem dX13_owed_4 : decode cX13_owed 4 = .ok (.iload_n 3, 1) := by decide +kernel
theorem dX13_owed_5 : decode cX13_owed 5 = .ok (.bipush 6, 2) := by decide +kernel
theorem dX13_owed_7 : decode cX13_owed 7 = .ok (.if_icmp .ge 18, 3) := by decide +kernel
theorem dX13_owed_10 : decode cX13_owed 10 = .ok (.iload_n 2, 1) := by decide +kernel
theorem dX13_owed_11 : decode cX13_owed 11 = .ok (.aload_n 0, 1) := by decide +kernel
theorem dX13_owed_12 : decode cX13_owed 12 = .ok (.iload_n 3, 1) := by decide +kernel
theorem dX13_owed_13 : decode cX13_owed 13 = .ok (.iload_n 1, 1) := by decide +kernel
theorem dX13_owed_14 : decode cX13_owed 14 = .ok (.invokevirtual 65, 3) := by decide +kernel
theorem dX13_owed_17 : decode cX13_owed 17 = .ok (.iadd, 1) := by decide +kernel
theorem dX13_owed_18 : decode cX13_owed 18 = .ok (.istore_n 2, 1) := by decide +kernel
theorem dX13_owed_19 : decode cX13_owed 19 = .ok (.iinc 3 1, 3) := by decide +kernel
theorem dX13_owed_22 : decode cX13_owed 22 = .ok (.goto (-18), 3) := by decide +kernel
theorem dX13_owed_25 : decode cX13_owed 25 = .ok (.iload_n 2, 1) := by decide +kernel
theorem dX13_owed_26 : decode cX13_owed 26 = .ok (.ireturn, 1) := by decide +kernel
theorem dX13_age_0 : decode cX13_age 0 = .ok (.aload_n 0, 1) := by decide +kernel
theorem dX13_age_1 : decode cX13_age 1 = .ok (.getfield 22, 3) := by decide +kernel
theorem dX13_age_4 : decode cX13_age 4 = .ok (.iload_n 1, 1) := by decide +kernel
theorem dX13_age_5 : decode cX13_age 5 = .ok (.iaload, 1) := by decide +kernel
theorem dX13_age_6 : decode cX13_age 6 = .ok (.iconst (-1), 1) := by decide +kernel
theorem dX13_age_7 : decode cX13_age 7 = .ok (.if_icmp .ne 7, 3) := by decide +kernel
theorem dX13_age_10 : decode cX13_age 10 = .ok (.iconst 0, 1) := by decide +kernel
theorem dX13_age_11 : decode cX13_age 11 = .ok (.goto 14, 3) := by decide +kernel
theorem dX13_age_14 : decode cX13_age 14 = .ok (.aload_n 0, 1) := by decide +kernel
theorem dX13_age_15 : decode cX13_age 15 = .ok (.getfield 49, 3) := by decide +kernel
theorem dX13_age_18 : decode cX13_age 18 = .ok (.aload_n 0, 1) := by decide +kernel
theorem dX13_age_19 : decode cX13_age 19 = .ok (.getfield 28, 3) := by decide +kernel
theorem dX13_age_22 : decode cX13_age 22 = .ok (.iload_n 1, 1) := by decide +kernel
theorem dX13_age_23 : decode cX13_age 23 = .ok (.iaload, 1) := by decide +kernel
theorem dX13_age_24 : decode cX13_age 24 = .ok (.isub, 1) := by decide +kernel
theorem dX13_age_25 : decode cX13_age 25 = .ok (.ireturn, 1) := by decide +kernel
theorem dX13_isFresh_0 : decode cX13_isFresh 0 = .ok (.aload_n 0, 1) := by decide +kernel
theorem dX13_isFresh_1 : decode cX13_isFresh 1 = .ok (.getfield 22, 3) := by decide +kernel
theorem dX13_isFresh_4 : decode cX13_isFresh 4 = .ok (.iload_n 1, 1) := by decide +kernel
theorem dX13_isFresh_5 : decode cX13_isFresh 5 = .ok (.iaload, 1) := by decide +kernel
theorem dX13_isFresh_6 : decode cX13_isFresh 6 = .ok (.iconst (-1), 1) := by decide +kernel
theorem dX13_isFresh_7 : decode cX13_isFresh 7 = .ok (.if_icmp .eq 22, 3) := by decide +kernel
theorem dX13_isFresh_10 : decode cX13_isFresh 10 = .ok (.aload_n 0, 1) := by decide +kernel
theorem dX13_isFresh_11 : decode cX13_isFresh 11 = .ok (.getfield 49, 3) := by decide +kernel
theorem dX13_isFresh_14 : decode cX13_isFresh 14 = .ok (.aload_n 0, 1) := by decide +kernel
theorem dX13_isFresh_15 : decode cX13_isFresh 15 = .ok (.getfield 28, 3) := by decide +kernel
theorem dX13_isFresh_18 : decode cX13_isFresh 18 = .ok (.iload_n 1, 1) := by decide +kernel
theorem dX13_isFresh_19 : decode cX13_isFresh 19 = .ok (.iaload, 1) := by decide +kernel
theorem dX13_isFresh_20 : decode cX13_isFresh 20 = .ok (.isub, 1) := by decide +kernel
theorem dX13_isFresh_21 : decode cX13_isFresh 21 = .ok (.iconst 5, 1) := by decide +kernel
theorem dX13_isFresh_22 : decode cX13_isFresh 22 = .ok (.if_icmp .gt 7, 3) := by decide +kernel
theorem dX13_isFresh_25 : decode cX13_isFresh 25 = .ok (.iconst 1, 1) := by decide +kernel
theorem dX13_isFresh_26 : decode cX13_isFresh 26 = .ok (.goto 4, 3) := by decide +kernel
theorem dX13_isFresh_29 : decode cX13_isFresh 29 = .ok (.iconst 0, 1) := by decide +kernel
theorem dX13_isFresh_30 : decode cX13_isFresh 30 = .ok (.ireturn, 1) := by decide +kernel
theorem dX14_init_0 : decode cX14_init 0 = .ok (.aload_n 0, 1) := by decide +kernel
theorem dX14_init_1 : decode cX14_init 1 = .ok (.invokespecial 1, 3) := by decide +kernel
theorem dX14_init_4 : decode cX14_init 4 = .ok (.aload_n 0, 1) := by decide +kernel
theorem dX14_init_5 : decode cX14_init 5 = .ok (.sipush 2000, 3) := by decide +kernel
theorem dX14_init_8 : decode cX14_init 8 = .ok (.newarray .int, 2) := by decide +kernel
theorem dX14_init_10 : decode cX14_init 10 = .ok (.putfield 9, 3) := by decide +kernel
theorem dX14_init_13 : decode cX14_init 13 = .ok (.aload_n 0, 1) := by decide +kernel
theorem dX14_init_14 : decode cX14_init 14 = .ok (.iconst (-1), 1) := by decide +kernel
theorem dX14_init_15 : decode cX14_init 15 = .ok (.putfield 13, 3) := by decide +kernel
theorem dX14_init_18 : decode cX14_init 18 = .ok (.aload_n 0, 1) := by decide +kernel
theorem dX14_init_19 : decode cX14_init 19 = .ok (.new 17, 3) := by decide +kernel
theorem dX14_init_22 : decode cX14_init 22 = .ok (.dup, 1) := by decide +kernel
theorem dX14_init_23 : decode cX14_init 23 = .ok (.invokespecial 19, 3) := by decide +kernel
theorem dX14_init_26 : decode cX14_init 26 = .ok (.putfield 20, 3) := by decide +kernel
theorem dX14_init_29 : decode cX14_init 29 = .ok (.aload_n 0, 1) := by decide +kernel
theorem dX14_init_30 : decode cX14_init 30 = .ok (.new 24, 3) := by decide +kernel
theorem dX14_init_33 : decode cX14_init 33 = .ok (.dup, 1) := by decide +kernel
theorem dX14_init_34 : decode cX14_init 34 = .ok (.invokespecial 26, 3) := by decide +kernel
theorem dX14_init_37 : decode cX14_init 37 = .ok (.putfield 27, 3) := by decide +kernel
theorem dX14_init_40 : decode cX14_init 40 = .ok (.aload_n 0, 1) := by decide +kernel
theorem dX14_init_41 : decode cX14_init 41 = .ok (.new 24, 3) := by decide +kernel
theorem dX14_init_44 : decode cX14_init 44 = .ok (.dup, 1) := by decide +kernel
theorem dX14_init_45 : decode cX14_init 45 = .ok (.invokespecial 26, 3) := by decide +kernel
theorem dX14_init_48 : decode cX14_init 48 = .ok (.putfield 31, 3) := by decide +kernel
theorem dX14_init_51 : decode cX14_init 51 = .ok (.aload_n 0, 1) := by decide +kernel
theorem dX14_init_52 : decode cX14_init 52 = .ok (.bipush 6, 2) := by decide +kernel
theorem dX14_init_54 : decode cX14_init 54 = .ok (.newarray .int, 2) := by decide +kernel
theorem dX14_init_56 : decode cX14_init 56 = .ok (.putfield 34, 3) := by decide +kernel
theorem dX14_init_59 : decode cX14_init 59 = .ok (.aload_n 0, 1) := by decide +kernel
theorem dX14_init_60 : decode cX14_init 60 = .ok (.aload_n 0, 1) := by decide +kernel
theorem dX14_init_61 : decode cX14_init 61 = .ok (.getfield 27, 3) := by decide +kernel
theorem dX14_init_64 : decode cX14_init 64 = .ok (.putfield 37, 3) := by decide +kernel
theorem dX14_init_67 : decode cX14_init 67 = .ok (.return_, 1) := by decide +kernel
theorem dX14_thrown_0 : decode cX14_thrown 0 = .ok (.aload_n 0, 1) := by decide +kernel
theorem dX14_thrown_1 : decode cX14_thrown 1 = .ok (.getfield 40, 3) := by decide +kernel
theorem dX14_thrown_4 : decode cX14_thrown 4 = .ok (.ireturn, 1) := by decide +kernel
theorem dX14_no_0 : decode cX14_no 0 = .ok (.aload_n 0, 1) := by decide +kernel
theorem dX14_no_1 : decode cX14_no 1 = .ok (.iload_n 1, 1) := by decide +kernel
theorem dX14_no_2 : decode cX14_no 2 = .ok (.putfield 40, 3) := by decide +kernel
theorem dX14_no_5 : decode cX14_no 5 = .ok (.iconst 0, 1) := by decide +kernel
theorem dX14_no_6 : decode cX14_no 6 = .ok (.ireturn, 1) := by decide +kernel
theorem dX14_isIn_0 : decode cX14_isIn 0 = .ok (.iload_n 0, 1) := by decide +kernel
theorem dX14_isIn_1 : decode cX14_isIn 1 = .ok (.iload_n 1, 1) := by decide +kernel
theorem dX14_isIn_2 : decode cX14_isIn 2 = .ok (.if_icmp .lt 12, 3) := by decide +kernel
theorem dX14_isIn_5 : decode cX14_isIn 5 = .ok (.iload_n 0, 1) := by decide +kernel
theorem dX14_isIn_6 : decode cX14_isIn 6 = .ok (.iload_n 2, 1) := by decide +kernel
theorem dX14_isIn_7 : decode cX14_isIn 7 = .ok (.if_icmp .gt 7, 3) := by decide +kernel
theorem dX14_isIn_10 : decode cX14_isIn 10 = .ok (.iconst 1, 1) := by decide +kernel
theorem dX14_isIn_11 : decode cX14_isIn 11 = .ok (.goto 4, 3) := by decide +kernel
theorem dX14_isIn_14 : decode cX14_isIn 14 = .ok (.iconst 0, 1) := by decide +kernel
theorem dX14_isIn_15 : decode cX14_isIn 15 = .ok (.ireturn, 1) := by decide +kernel
theorem dX14_isMerchant_0 : decode cX14_isMerchant 0 = .ok (.iload_n 1, 1) := by decide +kernel
theorem dX14_isMerchant_1 : decode cX14_isMerchant 1 = .ok (.iconst 0, 1) := by decide +kernel
theorem dX14_isMerchant_2 : decode cX14_isMerchant 2 = .ok (.aload_n 0, 1) := by decide +kernel
theorem dX14_isMerchant_3 : decode cX14_isMerchant 3 = .ok (.getfield 20, 3) := by decide +kernel
theorem dX14_isMerchant_6 : decode cX14_isMerchant 6 = .ok (.getfield 43, 3) := by decide +kernel
theorem dX14_isMerchant_9 : decode cX14_isMerchant 9 = .ok (.iconst 1, 1) := by decide +kernel
theorem dX14_isMerchant_10 : decode cX14_isMerchant 10 = .ok (.isub, 1) := by decide +kernel
theorem dX14_isMerchant_11 : decode cX14_isMerchant 11 = .ok (.invokestatic 46, 3) := by decide +kernel
theorem dX14_isMerchant_14 : decode cX14_isMerchant 14 = .ok (.ireturn, 1) := by decide +kernel
theorem dX14_areMerchants_0 : decode cX14_areMerchants 0 = .ok (.aload_n 0, 1) := by decide +kernel
theorem dX14_areMerchants_1 : decode cX14_areMerchants 1 = .ok (.iload_n 1, 1) := by decide +kernel
theorem dX14_areMerchants_2 : decode cX14_areMerchants 2 = .ok (.invokevirtual 50, 3) := by decide +kernel
theorem dX14_areMerchants_5 : decode cX14_areMerchants 5 = .ok (.ifCond .eq 15, 3) := by decide +kernel
theorem dX14_areMerchants_8 : decode cX14_areMerchants 8 = .ok (.aload_n 0, 1) := by decide +kernel
theorem dX14_areMerchants_9 : decode cX14_areMerchants 9 = .ok (.iload_n 2, 1) := by decide +kernel
theorem dX14_areMerchants_10 : decode cX14_areMerchants 10 = .ok (.invokevirtual 50, 3) := by decide +kernel
theorem dX14_areMerchants_13 : decode cX14_areMerchants 13 = .ok (.ifCond .eq 7, 3) := by decide +kernel
theorem dX14_areMerchants_16 : decode cX14_areMerchants 16 = .ok (.iconst 1, 1) := by decide +kernel
theorem dX14_areMerchants_17 : decode cX14_areMerchants 17 = .ok (.goto 4, 3) := by decide +kernel
theorem dX14_areMerchants_20 : decode cX14_areMerchants 20 = .ok (.iconst 0, 1) := by decide +kernel
theorem dX14_areMerchants_21 : decode cX14_areMerchants 21 = .ok (.ireturn, 1) := by decide +kernel
theorem dX14_isLot_0 : decode cX14_isLot 0 = .ok (.iload_n 1, 1) := by decide +kernel
theorem dX14_isLot_1 : decode cX14_isLot 1 = .ok (.iconst 0, 1) := by decide +kernel
theorem dX14_isLot_2 : decode cX14_isLot 2 = .ok (.aload_n 0, 1) := by decide +kernel
theorem dX14_isLot_3 : decode cX14_isLot 3 = .ok (.getfield 20, 3) := by decide +kernel
theorem dX14_isLot_6 : decode cX14_isLot 6 = .ok (.getfield 54, 3) := by decide +kernel
theorem dX14_isLot_9 : decode cX14_isLot 9 = .ok (.iconst 1, 1) := by decide +kernel
theorem dX14_isLot_10 : decode cX14_isLot 10 = .ok (.isub, 1) := by decide +kernel
theorem dX14_isLot_11 : decode cX14_isLot 11 = .ok (.invokestatic 46, 3) := by decide +kernel
theorem dX14_isLot_14 : decode cX14_isLot 14 = .ok (.ireturn, 1) := by decide +kernel
theorem dX14_isLetter_0 : decode cX14_isLetter 0 = .ok (.iload_n 0, 1) := by decide +kernel
theorem dX14_isLetter_1 : decode cX14_isLetter 1 = .ok (.bipush 97, 2) := by decide +kernel
theorem dX14_isLetter_3 : decode cX14_isLetter 3 = .ok (.if_icmp .lt 13, 3) := by decide +kernel
theorem dX14_isLetter_6 : decode cX14_isLetter 6 = .ok (.iload_n 0, 1) := by decide +kernel
theorem dX14_isLetter_7 : decode cX14_isLetter 7 = .ok (.bipush 122, 2) := by decide +kernel
theorem dX14_isLetter_9 : decode cX14_isLetter 9 = .ok (.if_icmp .gt 7, 3) := by decide +kernel
theorem dX14_isLetter_12 : decode cX14_isLetter 12 = .ok (.iconst 1, 1) := by decide +kernel
theorem dX14_isLetter_13 : decode cX14_isLetter 13 = .ok (.goto 4, 3) := by decide +kernel
theorem dX14_isLetter_16 : decode cX14_isLetter 16 = .ok (.iconst 0, 1) := by decide +kernel
theorem dX14_isLetter_17 : decode cX14_isLetter 17 = .ok (.ireturn, 1) := by decide +kernel
theorem dX14_isDigit_0 : decode cX14_isDigit 0 = .ok (.iload_n 0, 1) := by decide +kernel
theorem dX14_isDigit_1 : decode cX14_isDigit 1 = .ok (.bipush 48, 2) := by decide +kernel
theorem dX14_isDigit_3 : decode cX14_isDigit 3 = .ok (.if_icmp .lt 13, 3) := by decide +kernel
theorem dX14_isDigit_6 : decode cX14_isDigit 6 = .ok (.iload_n 0, 1) := by decide +kernel
theorem dX14_isDigit_7 : decode cX14_isDigit 7 = .ok (.bipush 57, 2) := by decide +kernel
theorem dX14_isDigit_9 : decode cX14_isDigit 9 = .ok (.if_icmp .gt 7, 3) := by decide +kernel
theorem dX14_isDigit_12 : decode cX14_isDigit 12 = .ok (.iconst 1, 1) := by decide +kernel
theorem dX14_isDigit_13 : decode cX14_isDigit 13 = .ok (.goto 4, 3) := by decide +kernel
theorem dX14_isDigit_16 : decode cX14_isDigit 16 = .ok (.iconst 0, 1) := by decide +kernel
theorem dX14_isDigit_17 : decode cX14_isDigit 17 = .ok (.ireturn, 1) := by decide +kernel
theorem dX14_byteAt_0 : decode cX14_byteAt 0 = .ok (.iload_n 1, 1) := by decide +kernel
theorem dX14_byteAt_1 : decode cX14_byteAt 1 = .ok (.aload_n 0, 1) := by decide +kernel
theorem dX14_byteAt_2 : decode cX14_byteAt 2 = .ok (.getfield 57, 3) := by decide +kernel
theorem dX14_byteAt_5 : decode cX14_byteAt 5 = .ok (.if_icmp .ge 12, 3) := by decide +kernel
theorem dX14_byteAt_8 : decode cX14_byteAt 8 = .ok (.aload_n 0, 1) := by decide +kernel
theorem dX14_byteAt_9 : decode cX14_byteAt 9 = .ok (.getfield 9, 3) := by decide +kernel
theorem dX14_byteAt_12 : decode cX14_byteAt 12 = .ok (.iload_n 1, 1) := by decide +kernel
theorem dX14_byteAt_13 : decode cX14_byteAt 13 = .ok (.iaload, 1) := by decide +kernel
theorem dX14_byteAt_14 : decode cX14_byteAt 14 = .ok (.goto 4, 3) := by decide +kernel
theorem dX14_byteAt_17 : decode cX14_byteAt 17 = .ok (.iconst (-1), 1) := by decide +kernel
theorem dX14_byteAt_18 : decode cX14_byteAt 18 = .ok (.ireturn, 1) := by decide +kernel
theorem dX14_lengthAt_0 : decode cX14_lengthAt 0 = .ok (.aload_n 0, 1) := by decide +kernel
theorem dX14_lengthAt_1 : decode cX14_lengthAt 1 = .ok (.iload_n 1, 1) := by decide +kernel
theorem dX14_lengthAt_2 : decode cX14_lengthAt 2 = .ok (.invokevirtual 60, 3) := by decide +kernel
theorem dX14_lengthAt_5 : decode cX14_lengthAt 5 = .ok (.istore_n 2, 1) := by decide +kernel
theorem dX14_lengthAt_6 : decode cX14_lengthAt 6 = .ok (.iload_n 1, 1) := by decide +kernel
theorem dX14_lengthAt_7 : decode cX14_lengthAt 7 = .ok (.iconst 1, 1) := by decide +kernel
theorem dX14_lengthAt_8 : decode cX14_lengthAt 8 = .ok (.iadd, 1) := by decide +kernel
theorem dX14_lengthAt_9 : decode cX14_lengthAt 9 = .ok (.istore_n 3, 1) := by decide +kernel
theorem dX14_lengthAt_10 : decode cX14_lengthAt 10 = .ok (.iload_n 2, 1) := by decide +kernel
theorem dX14_lengthAt_11 : decode cX14_lengthAt 11 = .ok (.invokestatic 64, 3) := by decide +kernel
theorem dX14_lengthAt_14 : decode cX14_lengthAt 14 = .ok (.ifCond .ne 10, 3) := by decide +kernel
theorem dX14_lengthAt_17 : decode cX14_lengthAt 17 = .ok (.iload_n 2, 1) := by decide +kernel
theorem dX14_lengthAt_18 : decode cX14_lengthAt 18 = .ok (.invokestatic 67, 3) := by decide +kernel
theorem dX14_lengthAt_21 : decode cX14_lengthAt 21 = .ok (.ifCond .eq 38, 3) := by decide +kernel
theorem dX14_lengthAt_24 : decode cX14_lengthAt 24 = .ok (.aload_n 0, 1) := by decide +kernel
theorem dX14_lengthAt_25 : decode cX14_lengthAt 25 = .ok (.iload_n 3, 1) := by decide +kernel
theorem dX14_lengthAt_26 : decode cX14_lengthAt 26 = .ok (.invokevirtual 60, 3) := by decide +kernel
theorem dX14_lengthAt_29 : decode cX14_lengthAt 29 = .ok (.invokestatic 67, 3) := by decide +kernel
theorem dX14_lengthAt_32 : decode cX14_lengthAt 32 = .ok (.ifCond .ne 21, 3) := by decide +kernel
theorem dX14_lengthAt_35 : decode cX14_lengthAt 35 = .ok (.iload_n 2, 1) := by decide +kernel
theorem dX14_lengthAt_36 : decode cX14_lengthAt 36 = .ok (.invokestatic 64, 3) := by decide +kernel
theorem dX14_lengthAt_39 : decode cX14_lengthAt 39 = .ok (.ifCond .eq 45, 3) := by decide +kernel
theorem dX14_lengthAt_42 : decode cX14_lengthAt 42 = .ok (.aload_n 0, 1) := by decide +kernel
theorem dX14_lengthAt_43 : decode cX14_lengthAt 43 = .ok (.iload_n 3, 1) := by decide +kernel
theorem dX14_lengthAt_44 : decode cX14_lengthAt 44 = .ok (.invokevirtual 60, 3) := by decide +kernel
theorem dX14_lengthAt_47 : decode cX14_lengthAt 47 = .ok (.invokestatic 64, 3) := by decide +kernel
theorem dX14_lengthAt_50 : decode cX14_lengthAt 50 = .ok (.ifCond .eq 34, 3) := by decide +kernel
theorem dX14_lengthAt_53 : decode cX14_lengthAt 53 = .ok (.iinc 3 1, 3) := by decide +kernel
theorem dX14_lengthAt_56 : decode cX14_lengthAt 56 = .ok (.goto (-32), 3) := by decide +kernel
theorem dX14_lengthAt_59 : decode cX14_lengthAt 59 = .ok (.iload_n 2, 1) := by decide +kernel
theorem dX14_lengthAt_60 : decode cX14_lengthAt 60 = .ok (.bipush 60, 2) := by decide +kernel
theorem dX14_lengthAt_62 : decode cX14_lengthAt 62 = .ok (.if_icmp .eq 9, 3) := by decide +kernel
theorem dX14_lengthAt_65 : decode cX14_lengthAt 65 = .ok (.iload_n 2, 1) := by decide +kernel
theorem dX14_lengthAt_66 : decode cX14_lengthAt 66 = .ok (.bipush 62, 2) := by decide +kernel
theorem dX14_lengthAt_68 : decode cX14_lengthAt 68 = .ok (.if_icmp .ne 16, 3) := by decide +kernel
theorem dX14_lengthAt_71 : decode cX14_lengthAt 71 = .ok (.aload_n 0, 1) := by decide +kernel
theorem dX14_lengthAt_72 : decode cX14_lengthAt 72 = .ok (.iload_n 3, 1) := by decide +kernel
theorem dX14_lengthAt_73 : decode cX14_lengthAt 73 = .ok (.invokevirtual 60, 3) := by decide +kernel
theorem dX14_lengthAt_76 : decode cX14_lengthAt 76 = .ok (.bipush 61, 2) := by decide +kernel
theorem dX14_lengthAt_78 : decode cX14_lengthAt 78 = .ok (.if_icmp .ne 6, 3) := by decide +kernel
theorem dX14_lengthAt_81 : decode cX14_lengthAt 81 = .ok (.iinc 3 1, 3) := by decide +kernel
theorem dX14_lengthAt_84 : decode cX14_lengthAt 84 = .ok (.iload_n 3, 1) := by decide +kernel
theorem dX14_lengthAt_85 : decode cX14_lengthAt 85 = .ok (.iload_n 1, 1) := by decide +kernel
theorem dX14_lengthAt_86 : decode cX14_lengthAt 86 = .ok (.isub, 1) := by decide +kernel
theorem dX14_lengthAt_87 : decode cX14_lengthAt 87 = .ok (.ireturn, 1) := by decide +kernel
theorem dX14_kindAt_0 : decode cX14_kindAt 0 = .ok (.aload_n 0, 1) := by decide +kernel
theorem dX14_kindAt_1 : decode cX14_kindAt 1 = .ok (.iload_n 1, 1) := by decide +kernel
theorem dX14_kindAt_2 : decode cX14_kindAt 2 = .ok (.invokevirtual 60, 3) := by decide +kernel
theorem dX14_kindAt_5 : decode cX14_kindAt 5 = .ok (.istore_n 3, 1) := by decide +kernel
theorem dX14_kindAt_6 : decode cX14_kindAt 6 = .ok (.iload_n 3, 1) := by decide +kernel
theorem dX14_kindAt_7 : decode cX14_kindAt 7 = .ok (.iconst (-1), 1) := by decide +kernel
theorem dX14_kindAt_8 : decode cX14_kindAt 8 = .ok (.if_icmp .ne 6, 3) := by decide +kernel
theorem dX14_kindAt_11 : decode cX14_kindAt 11 = .ok (.bipush 70, 2) := by decide +kernel
theorem dX14_kindAt_13 : decode cX14_kindAt 13 = .ok (.ireturn, 1) := by decide +kernel
theorem dX14_kindAt_14 : decode cX14_kindAt 14 = .ok (.iload_n 3, 1) := by decide +kernel
theorem dX14_kindAt_15 : decode cX14_kindAt 15 = .ok (.invokestatic 67, 3) := by decide +kernel
theorem dX14_kindAt_18 : decode cX14_kindAt 18 = .ok (.ifCond .eq 17, 3) := by decide +kernel
theorem dX14_kindAt_21 : decode cX14_kindAt 21 = .ok (.iload_n 2, 1) := by decide +kernel
theorem dX14_kindAt_22 : decode cX14_kindAt 22 = .ok (.bipush 6, 2) := by decide +kernel
theorem dX14_kindAt_24 : decode cX14_kindAt 24 = .ok (.if_icmp .le 8, 3) := by decide +kernel
theorem dX14_kindAt_27 : decode cX14_kindAt 27 = .ok (.bipush 71, 2) := by decide +kernel
theorem dX14_kindAt_29 : decode cX14_kindAt 29 = .ok (.goto 5, 3) := by decide +kernel
theorem dX14_kindAt_32 : decode cX14_kindAt 32 = .ok (.bipush 36, 2) := by decide +kernel
theorem dX14_kindAt_34 : decode cX14_kindAt 34 = .ok (.ireturn, 1) := by decide +kernel
theorem dX14_kindAt_35 : decode cX14_kindAt 35 = .ok (.iload_n 3, 1) := by decide +kernel
theorem dX14_kindAt_36 : decode cX14_kindAt 36 = .ok (.invokestatic 64, 3) := by decide +kernel
theorem dX14_kindAt_39 : decode cX14_kindAt 39 = .ok (.ifCond .eq 21, 3) := by decide +kernel
theorem dX14_kindAt_42 : decode cX14_kindAt 42 = .ok (.iload_n 2, 1) := by decide +kernel
theorem dX14_kindAt_43 : decode cX14_kindAt 43 = .ok (.bipush 10, 2) := by decide +kernel
theorem dX14_kindAt_45 : decode cX14_kindAt 45 = .ok (.if_icmp .le 8, 3) := by decide +kernel
theorem dX14_kindAt_48 : decode cX14_kindAt 48 = .ok (.bipush 71, 2) := by decide +kernel
theorem dX14_kindAt_50 : decode cX14_kindAt 50 = .ok (.goto 9, 3) := by decide +kernel
theorem dX14_kindAt_53 : decode cX14_kindAt 53 = .ok (.aload_n 0, 1) := by decide +kernel
theorem dX14_kindAt_54 : decode cX14_kindAt 54 = .ok (.iload_n 1, 1) := by decide +kernel
theorem dX14_kindAt_55 : decode cX14_kindAt 55 = .ok (.iload_n 2, 1) := by decide +kernel
theorem dX14_kindAt_56 : decode cX14_kindAt 56 = .ok (.invokevirtual 70, 3) := by decide +kernel
theorem dX14_kindAt_59 : decode cX14_kindAt 59 = .ok (.ireturn, 1) := by decide +kernel
theorem dX14_kindAt_60 : decode cX14_kindAt 60 = .ok (.iload_n 2, 1) := by decide +kernel
theorem dX14_kindAt_61 : decode cX14_kindAt 61 = .ok (.iconst 2, 1) := by decide +kernel
theorem dX14_kindAt_62 : decode cX14_kindAt 62 = .ok (.if_icmp .ne 17, 3) := by decide +kernel
theorem dX14_kindAt_65 : decode cX14_kindAt 65 = .ok (.iload_n 3, 1) := by decide +kernel
theorem dX14_kindAt_66 : decode cX14_kindAt 66 = .ok (.bipush 60, 2) := by decide +kernel
theorem dX14_kindAt_68 : decode cX14_kindAt 68 = .ok (.if_icmp .ne 8, 3) := by decide +kernel
theorem dX14_kindAt_71 : decode cX14_kindAt 71 = .ok (.bipush 53, 2) := by decide +kernel
theorem dX14_kindAt_73 : decode cX14_kindAt 73 = .ok (.goto 5, 3) := by decide +kernel
theorem dX14_kindAt_76 : decode cX14_kindAt 76 = .ok (.bipush 54, 2) := by decide +kernel
theorem dX14_kindAt_78 : decode cX14_kindAt 78 = .ok (.ireturn, 1) := by decide +kernel
theorem dX14_kindAt_79 : decode cX14_kindAt 79 = .ok (.ldc 74, 2) := by decide +kernel
theorem dX14_kindAt_81 : decode cX14_kindAt 81 = .ok (.iload_n 3, 1) := by decide +kernel
theorem dX14_kindAt_82 : decode cX14_kindAt 82 = .ok (.invokevirtual 76, 3) := by decide +kernel
theorem dX14_kindAt_85 : decode cX14_kindAt 85 = .ok (.istore 4, 2) := by decide +kernel
theorem dX14_kindAt_87 : decode cX14_kindAt 87 = .ok (.iload 4, 2) := by decide +kernel
theorem dX14_kindAt_89 : decode cX14_kindAt 89 = .ok (.ifCond .ge 8, 3) := by decide +kernel
theorem dX14_kindAt_92 : decode cX14_kindAt 92 = .ok (.bipush 71, 2) := by decide +kernel
theorem dX14_kindAt_94 : decode cX14_kindAt 94 = .ok (.goto 8, 3) := by decide +kernel
theorem dX14_kindAt_97 : decode cX14_kindAt 97 = .ok (.bipush 40, 2) := by decide +kernel
theorem dX14_kindAt_99 : decode cX14_kindAt 99 = .ok (.iload 4, 2) := by decide +kernel
theorem dX14_kindAt_101 : decode cX14_kindAt 101 = .ok (.iadd, 1) := by decide +kernel
theorem dX14_kindAt_102 : decode cX14_kindAt 102 = .ok (.ireturn, 1) := by decide +kernel
theorem dX14_wordAt_0 : decode cX14_wordAt 0 = .ok (.iconst 0, 1) := by decide +kernel
theorem dX14_wordAt_1 : decode cX14_wordAt 1 = .ok (.istore_n 3, 1) := by decide +kernel
theorem dX14_wordAt_2 : decode cX14_wordAt 2 = .ok (.iload_n 3, 1) := by decide +kernel
theorem dX14_wordAt_3 : decode cX14_wordAt 3 = .ok (.getstatic 81, 3) := by decide +kernel
theorem dX14_wordAt_6 : decode cX14_wordAt 6 = .ok (.arraylength, 1) := by decide +kernel
theorem dX14_wordAt_7 : decode cX14_wordAt 7 = .ok (.if_icmp .ge 80, 3) := by decide +kernel
theorem dX14_wordAt_10 : decode cX14_wordAt 10 = .ok (.iconst 0, 1) := by decide +kernel
theorem dX14_wordAt_11 : decode cX14_wordAt 11 = .ok (.istore 4, 2) := by decide +kernel
theorem dX14_wordAt_13 : decode cX14_wordAt 13 = .ok (.iload 4, 2) := by decide +kernel
theorem dX14_wordAt_15 : decode cX14_wordAt 15 = .ok (.iload_n 2, 1) := by decide +kernel
theorem dX14_wordAt_16 : decode cX14_wordAt 16 = .ok (.if_icmp .ge 44, 3) := by decide +kernel
theorem dX14_wordAt_19 : decode cX14_wordAt 19 = .ok (.iload 4, 2) := by decide +kernel
theorem dX14_wordAt_21 : decode cX14_wordAt 21 = .ok (.getstatic 81, 3) := by decide +kernel
theorem dX14_wordAt_24 : decode cX14_wordAt 24 = .ok (.iload_n 3, 1) := by decide +kernel
theorem dX14_wordAt_25 : decode cX14_wordAt 25 = .ok (.aaload, 1) := by decide +kernel
theorem dX14_wordAt_26 : decode cX14_wordAt 26 = .ok (.invokevirtual 85, 3) := by decide +kernel
theorem dX14_wordAt_29 : decode cX14_wordAt 29 = .ok (.if_icmp .ge 31, 3) := by decide +kernel
theorem dX14_wordAt_32 : decode cX14_wordAt 32 = .ok (.getstatic 81, 3) := by decide +kernel
theorem dX14_wordAt_35 : decode cX14_wordAt 35 = .ok (.iload_n 3, 1) := by decide +kernel
theorem dX14_wordAt_36 : decode cX14_wordAt 36 = .ok (.aaload, 1) := by decide +kernel
theorem dX14_wordAt_37 : decode cX14_wordAt 37 = .ok (.iload 4, 2) := by decide +kernel
theorem dX14_wordAt_39 : decode cX14_wordAt 39 = .ok (.invokevirtual 89, 3) := by decide +kernel
theorem dX14_wordAt_42 : decode cX14_wordAt 42 = .ok (.aload_n 0, 1) := by decide +kernel
theorem dX14_wordAt_43 : decode cX14_wordAt 43 = .ok (.getfield 9, 3) := by decide +kernel
theorem dX14_wordAt_46 : decode cX14_wordAt 46 = .ok (.iload_n 1, 1) := by decide +kernel
theorem dX14_wordAt_47 : decode cX14_wordAt 47 = .ok (.iload 4, 2) := by decide +kernel
theorem dX14_wordAt_49 : decode cX14_wordAt 49 = .ok (.iadd, 1) := by decide +kernel
theorem dX14_wordAt_50 : decode cX14_wordAt 50 = .ok (.iaload, 1) := by decide +kernel
theorem dX14_wordAt_51 : decode cX14_wordAt 51 = .ok (.if_icmp .ne 9, 3) := by decide +kernel
theorem dX14_wordAt_54 : decode cX14_wordAt 54 = .ok (.iinc 4 1, 3) := by decide +kernel
theorem dX14_wordAt_57 : decode cX14_wordAt 57 = .ok (.goto (-44), 3) := by decide +kernel
theorem dX14_wordAt_60 : decode cX14_wordAt 60 = .ok (.iload 4, 2) := by decide +kernel
theorem dX14_wordAt_62 : decode cX14_wordAt 62 = .ok (.iload_n 2, 1) := by decide +kernel
theorem dX14_wordAt_63 : decode cX14_wordAt 63 = .ok (.if_icmp .ne 18, 3) := by decide +kernel
theorem dX14_wordAt_66 : decode cX14_wordAt 66 = .ok (.iload 4, 2) := by decide +kernel
theorem dX14_wordAt_68 : decode cX14_wordAt 68 = .ok (.getstatic 81, 3) := by decide +kernel
theorem dX14_wordAt_71 : decode cX14_wordAt 71 = .ok (.iload_n 3, 1) := by decide +kernel
theorem dX14_wordAt_72 : decode cX14_wordAt 72 = .ok (.aaload, 1) := by decide +kernel
theorem dX14_wordAt_73 : decode cX14_wordAt 73 = .ok (.invokevirtual 85, 3) := by decide +kernel
theorem dX14_wordAt_76 : decode cX14_wordAt 76 = .ok (.if_icmp .ne 5, 3) := by decide +kernel
theorem dX14_wordAt_79 : decode cX14_wordAt 79 = .ok (.iload_n 3, 1) := by decide +kernel
theorem dX14_wordAt_80 : decode cX14_wordAt 80 = .ok (.ireturn, 1) := by decide +kernel
theorem dX14_wordAt_81 : decode cX14_wordAt 81 = .ok (.iinc 3 1, 3) := by decide +kernel
theorem dX14_wordAt_84 : decode cX14_wordAt 84 = .ok (.goto (-82), 3) := by decide +kernel
theorem dX14_wordAt_87 : decode cX14_wordAt 87 = .ok (.bipush 35, 2) := by decide +kernel
theorem dX14_wordAt_89 : decode cX14_wordAt 89 = .ok (.ireturn, 1) := by decide +kernel
theorem dX14_cut_0 : decode cX14_cut 0 = .ok (.iconst 0, 1) := by decide +kernel
theorem dX14_cut_1 : decode cX14_cut 1 = .ok (.istore_n 2, 1) := by decide +kernel
theorem dX14_cut_2 : decode cX14_cut 2 = .ok (.iconst 0, 1) := by decide +kernel
theorem dX14_cut_3 : decode cX14_cut 3 = .ok (.istore_n 3, 1) := by decide +kernel
theorem dX14_cut_4 : decode cX14_cut 4 = .ok (.iload_n 3, 1) := by decide +kernel
theorem dX14_cut_5 : decode cX14_cut 5 = .ok (.sipush 400, 3) := by decide +kernel
theorem dX14_cut_8 : decode cX14_cut 8 = .ok (.if_icmp .gt 117, 3) := by decide +kernel
theorem dX14_cut_11 : decode cX14_cut 11 = .ok (.aload_n 0, 1) := by decide +kernel
theorem dX14_cut_12 : decode cX14_cut 12 = .ok (.iload_n 2, 1) := by decide +kernel
theorem dX14_cut_13 : decode cX14_cut 13 = .ok (.invokevirtual 60, 3) := by decide +kernel
theorem dX14_cut_16 : decode cX14_cut 16 = .ok (.bipush 32, 2) := by decide +kernel
theorem dX14_cut_18 : decode cX14_cut 18 = .ok (.if_icmp .eq 13, 3) := by decide +kernel
theorem dX14_cut_21 : decode cX14_cut 21 = .ok (.aload_n 0, 1) := by decide +kernel
theorem dX14_cut_22 : decode cX14_cut 22 = .ok (.iload_n 2, 1) := by decide +kernel
theorem dX14_cut_23 : decode cX14_cut 23 = .ok (.invokevirtual 60, 3) := by decide +kernel
theorem dX14_cut_26 : decode cX14_cut 26 = .ok (.bipush 10, 2) := by decide +kernel
theorem dX14_cut_28 : decode cX14_cut 28 = .ok (.if_icmp .ne 9, 3) := by decide +kernel
theorem dX14_cut_31 : decode cX14_cut 31 = .ok (.iinc 2 1, 3) := by decide +kernel
theorem dX14_cut_34 : decode cX14_cut 34 = .ok (.goto (-23), 3) := by decide +kernel
theorem dX14_cut_37 : decode cX14_cut 37 = .ok (.aload_n 1, 1) := by decide +kernel
theorem dX14_cut_38 : decode cX14_cut 38 = .ok (.getfield 93, 3) := by decide +kernel
theorem dX14_cut_41 : decode cX14_cut 41 = .ok (.iload_n 3, 1) := by decide +kernel
theorem dX14_cut_42 : decode cX14_cut 42 = .ok (.iload_n 2, 1) := by decide +kernel
theorem dX14_cut_43 : decode cX14_cut 43 = .ok (.iastore, 1) := by decide +kernel
theorem dX14_cut_44 : decode cX14_cut 44 = .ok (.aload_n 1, 1) := by decide +kernel
theorem dX14_cut_45 : decode cX14_cut 45 = .ok (.getfield 96, 3) := by decide +kernel
theorem dX14_cut_48 : decode cX14_cut 48 = .ok (.iload_n 3, 1) := by decide +kernel
theorem dX14_cut_49 : decode cX14_cut 49 = .ok (.aload_n 0, 1) := by decide +kernel
theorem dX14_cut_50 : decode cX14_cut 50 = .ok (.iload_n 2, 1) := by decide +kernel
theorem dX14_cut_51 : decode cX14_cut 51 = .ok (.invokevirtual 99, 3) := by decide +kernel
theorem dX14_cut_54 : decode cX14_cut 54 = .ok (.iastore, 1) := by decide +kernel
theorem dX14_cut_55 : decode cX14_cut 55 = .ok (.aload_n 1, 1) := by decide +kernel
theorem dX14_cut_56 : decode cX14_cut 56 = .ok (.getfield 102, 3) := by decide +kernel
theorem dX14_cut_59 : decode cX14_cut 59 = .ok (.iload_n 3, 1) := by decide +kernel
theorem dX14_cut_60 : decode cX14_cut 60 = .ok (.aload_n 0, 1) := by decide +kernel
theorem dX14_cut_61 : decode cX14_cut 61 = .ok (.iload_n 2, 1) := by decide +kernel
theorem dX14_cut_62 : decode cX14_cut 62 = .ok (.aload_n 1, 1) := by decide +kernel
theorem dX14_cut_63 : decode cX14_cut 63 = .ok (.getfield 96, 3) := by decide +kernel
theorem dX14_cut_66 : decode cX14_cut 66 = .ok (.iload_n 3, 1) := by decide +kernel
theorem dX14_cut_67 : decode cX14_cut 67 = .ok (.iaload, 1) := by decide +kernel
theorem dX14_cut_68 : decode cX14_cut 68 = .ok (.invokevirtual 105, 3) := by decide +kernel
theorem dX14_cut_71 : decode cX14_cut 71 = .ok (.iastore, 1) := by decide +kernel
theorem dX14_cut_72 : decode cX14_cut 72 = .ok (.iload_n 3, 1) := by decide +kernel
theorem dX14_cut_73 : decode cX14_cut 73 = .ok (.sipush 400, 3) := by decide +kernel
theorem dX14_cut_76 : decode cX14_cut 76 = .ok (.if_icmp .ne 22, 3) := by decide +kernel
theorem dX14_cut_79 : decode cX14_cut 79 = .ok (.aload_n 1, 1) := by decide +kernel
theorem dX14_cut_80 : decode cX14_cut 80 = .ok (.getfield 102, 3) := by decide +kernel
theorem dX14_cut_83 : decode cX14_cut 83 = .ok (.iload_n 3, 1) := by decide +kernel
theorem dX14_cut_84 : decode cX14_cut 84 = .ok (.iaload, 1) := by decide +kernel
theorem dX14_cut_85 : decode cX14_cut 85 = .ok (.bipush 70, 2) := by decide +kernel
theorem dX14_cut_87 : decode cX14_cut 87 = .ok (.if_icmp .eq 11, 3) := by decide +kernel
theorem dX14_cut_90 : decode cX14_cut 90 = .ok (.aload_n 1, 1) := by decide +kernel
theorem dX14_cut_91 : decode cX14_cut 91 = .ok (.getfield 102, 3) := by decide +kernel
theorem dX14_cut_94 : decode cX14_cut 94 = .ok (.iload_n 3, 1) := by decide +kernel
theorem dX14_cut_95 : decode cX14_cut 95 = .ok (.bipush 71, 2) := by decide +kernel
theorem dX14_cut_97 : decode cX14_cut 97 = .ok (.iastore, 1) := by decide +kernel
theorem dX14_cut_98 : decode cX14_cut 98 = .ok (.aload_n 1, 1) := by decide +kernel
theorem dX14_cut_99 : decode cX14_cut 99 = .ok (.getfield 102, 3) := by decide +kernel
theorem dX14_cut_102 : decode cX14_cut 102 = .ok (.iload_n 3, 1) := by decide +kernel
theorem dX14_cut_103 : decode cX14_cut 103 = .ok (.iaload, 1) := by decide +kernel
theorem dX14_cut_104 : decode cX14_cut 104 = .ok (.bipush 70, 2) := by decide +kernel
theorem dX14_cut_106 : decode cX14_cut 106 = .ok (.if_icmp .lt 4, 3) := by decide +kernel
theorem dX14_cut_109 : decode cX14_cut 109 = .ok (.return_, 1) := by decide +kernel
theorem dX14_cut_110 : decode cX14_cut 110 = .ok (.iload_n 2, 1) := by decide +kernel
theorem dX14_cut_111 : decode cX14_cut 111 = .ok (.aload_n 1, 1) := by decide +kernel
theorem dX14_cut_112 : decode cX14_cut 112 = .ok (.getfield 96, 3) := by decide +kernel
theorem dX14_cut_115 : decode cX14_cut 115 = .ok (.iload_n 3, 1) := by decide +kernel
theorem dX14_cut_116 : decode cX14_cut 116 = .ok (.iaload, 1) := by decide +kernel
theorem dX14_cut_117 : decode cX14_cut 117 = .ok (.iadd, 1) := by decide +kernel
theorem dX14_cut_118 : decode cX14_cut 118 = .ok (.istore_n 2, 1) := by decide +kernel
theorem dX14_cut_119 : decode cX14_cut 119 = .ok (.iinc 3 1, 3) := by decide +kernel
theorem dX14_cut_122 : decode cX14_cut 122 = .ok (.goto (-118), 3) := by decide +kernel
theorem dX14_cut_125 : decode cX14_cut 125 = .ok (.return_, 1) := by decide +kernel
theorem dX14_eat_0 : decode cX14_eat 0 = .ok (.aload_n 1, 1) := by decide +kernel
theorem dX14_eat_1 : decode cX14_eat 1 = .ok (.getfield 102, 3) := by decide +kernel
theorem dX14_eat_4 : decode cX14_eat 4 = .ok (.aload_n 0, 1) := by decide +kernel
theorem dX14_eat_5 : decode cX14_eat 5 = .ok (.getfield 108, 3) := by decide +kernel
theorem dX14_eat_8 : decode cX14_eat 8 = .ok (.iaload, 1) := by decide +kernel
theorem dX14_eat_9 : decode cX14_eat 9 = .ok (.iload_n 2, 1) := by decide +kernel
theorem dX14_eat_10 : decode cX14_eat 10 = .ok (.if_icmp .eq 5, 3) := by decide +kernel
theorem dX14_eat_13 : decode cX14_eat 13 = .ok (.iconst 0, 1) := by decide +kernel
theorem dX14_eat_14 : decode cX14_eat 14 = .ok (.ireturn, 1) := by decide +kernel
theorem dX14_eat_15 : decode cX14_eat 15 = .ok (.aload_n 0, 1) := by decide +kernel
theorem dX14_eat_16 : decode cX14_eat 16 = .ok (.dup, 1) := by decide +kernel
theorem dX14_eat_17 : decode cX14_eat 17 = .ok (.getfield 108, 3) := by decide +kernel
theorem dX14_eat_20 : decode cX14_eat 20 = .ok (.iconst 1, 1) := by decide +kernel
theorem dX14_eat_21 : decode cX14_eat 21 = .ok (.iadd, 1) := by decide +kernel
theorem dX14_eat_22 : decode cX14_eat 22 = .ok (.putfield 108, 3) := by decide +kernel
theorem dX14_eat_25 : decode cX14_eat 25 = .ok (.iconst 1, 1) := by decide +kernel
theorem dX14_eat_26 : decode cX14_eat 26 = .ok (.ireturn, 1) := by decide +kernel
theorem dX14_eatIn_0 : decode cX14_eatIn 0 = .ok (.aload_n 1, 1) := by decide +kernel
theorem dX14_eatIn_1 : decode cX14_eatIn 1 = .ok (.getfield 102, 3) := by decide +kernel
theorem dX14_eatIn_4 : decode cX14_eatIn 4 = .ok (.aload_n 0, 1) := by decide +kernel
theorem dX14_eatIn_5 : decode cX14_eatIn 5 = .ok (.getfield 108, 3) := by decide +kernel
theorem dX14_eatIn_8 : decode cX14_eatIn 8 = .ok (.iaload, 1) := by decide +kernel
theorem dX14_eatIn_9 : decode cX14_eatIn 9 = .ok (.iload_n 2, 1) := by decide +kernel
theorem dX14_eatIn_10 : decode cX14_eatIn 10 = .ok (.iload_n 3, 1) := by decide +kernel
theorem dX14_eatIn_11 : decode cX14_eatIn 11 = .ok (.invokestatic 46, 3) := by decide +kernel
theorem dX14_eatIn_14 : decode cX14_eatIn 14 = .ok (.ifCond .ne 5, 3) := by decide +kernel
theorem dX14_eatIn_17 : decode cX14_eatIn 17 = .ok (.iconst 0, 1) := by decide +kernel
theorem dX14_eatIn_18 : decode cX14_eatIn 18 = .ok (.ireturn, 1) := by decide +kernel
theorem dX14_eatIn_19 : decode cX14_eatIn 19 = .ok (.aload_n 0, 1) := by decide +kernel
theorem dX14_eatIn_20 : decode cX14_eatIn 20 = .ok (.dup, 1) := by decide +kernel
theorem dX14_eatIn_21 : decode cX14_eatIn 21 = .ok (.getfield 108, 3) := by decide +kernel
theorem dX14_eatIn_24 : decode cX14_eatIn 24 = .ok (.iconst 1, 1) := by decide +kernel
theorem dX14_eatIn_25 : decode cX14_eatIn 25 = .ok (.iadd, 1) := by decide +kernel
theorem dX14_eatIn_26 : decode cX14_eatIn 26 = .ok (.putfield 108, 3) := by decide +kernel
theorem dX14_eatIn_29 : decode cX14_eatIn 29 = .ok (.iconst 1, 1) := by decide +kernel
theorem dX14_eatIn_30 : decode cX14_eatIn 30 = .ok (.ireturn, 1) := by decide +kernel
theorem dX14_goDown_0 : decode cX14_goDown 0 = .ok (.aload_n 1, 1) := by decide +kernel
theorem dX14_goDown_1 : decode cX14_goDown 1 = .ok (.getfield 102, 3) := by decide +kernel
theorem dX14_goDown_4 : decode cX14_goDown 4 = .ok (.aload_n 0, 1) := by decide +kernel
theorem dX14_goDown_5 : decode cX14_goDown 5 = .ok (.getfield 108, 3) := by decide +kernel
theorem dX14_goDown_8 : decode cX14_goDown 8 = .ok (.iaload, 1) := by decide +kernel
theorem dX14_goDown_9 : decode cX14_goDown 9 = .ok (.iload_n 2, 1) := by decide +kernel
theorem dX14_goDown_10 : decode cX14_goDown 10 = .ok (.if_icmp .ne 12, 3) := by decide +kernel
theorem dX14_goDown_13 : decode cX14_goDown 13 = .ok (.aload_n 0, 1) := by decide +kernel
theorem dX14_goDown_14 : decode cX14_goDown 14 = .ok (.getfield 111, 3) := by decide +kernel
theorem dX14_goDown_17 : decode cX14_goDown 17 = .ok (.bipush 8, 2) := by decide +kernel
theorem dX14_goDown_19 : decode cX14_goDown 19 = .ok (.if_icmp .ne 5, 3) := by decide +kernel
theorem dX14_goDown_22 : decode cX14_goDown 22 = .ok (.iconst 0, 1) := by decide +kernel
theorem dX14_goDown_23 : decode cX14_goDown 23 = .ok (.ireturn, 1) := by decide +kernel
theorem dX14_goDown_24 : decode cX14_goDown 24 = .ok (.aload_n 0, 1) := by decide +kernel
theorem dX14_goDown_25 : decode cX14_goDown 25 = .ok (.dup, 1) := by decide +kernel
theorem dX14_goDown_26 : decode cX14_goDown 26 = .ok (.getfield 111, 3) := by decide +kernel
theorem dX14_goDown_29 : decode cX14_goDown 29 = .ok (.iconst 1, 1) := by decide +kernel
theorem dX14_goDown_30 : decode cX14_goDown 30 = .ok (.iadd, 1) := by decide +kernel
theorem dX14_goDown_31 : decode cX14_goDown 31 = .ok (.putfield 111, 3) := by decide +kernel
theorem dX14_goDown_34 : decode cX14_goDown 34 = .ok (.aload_n 0, 1) := by decide +kernel
theorem dX14_goDown_35 : decode cX14_goDown 35 = .ok (.dup, 1) := by decide +kernel
theorem dX14_goDown_36 : decode cX14_goDown 36 = .ok (.getfield 108, 3) := by decide +kernel
theorem dX14_goDown_39 : decode cX14_goDown 39 = .ok (.iconst 1, 1) := by decide +kernel
theorem dX14_goDown_40 : decode cX14_goDown 40 = .ok (.iadd, 1) := by decide +kernel
theorem dX14_goDown_41 : decode cX14_goDown 41 = .ok (.putfield 108, 3) := by decide +kernel
theorem dX14_goDown_44 : decode cX14_goDown 44 = .ok (.iconst 1, 1) := by decide +kernel
theorem dX14_goDown_45 : decode cX14_goDown 45 = .ok (.ireturn, 1) := by decide +kernel
theorem dX14_isList_0 : decode cX14_isList 0 = .ok (.aload_n 1, 1) := by decide +kernel
theorem dX14_isList_1 : decode cX14_isList 1 = .ok (.getfield 102, 3) := by decide +kernel
theorem dX14_isList_4 : decode cX14_isList 4 = .ok (.aload_n 0, 1) := by decide +kernel
theorem dX14_isList_5 : decode cX14_isList 5 = .ok (.getfield 108, 3) := by decide +kernel
theorem dX14_isList_8 : decode cX14_isList 8 = .ok (.iaload, 1) := by decide +kernel
theorem dX14_isList_9 : decode cX14_isList 9 = .ok (.bipush 70, 2) := by decide +kernel
theorem dX14_isList_11 : decode cX14_isList 11 = .ok (.if_icmp .eq 23, 3) := by decide +kernel
theorem dX14_isList_14 : decode cX14_isList 14 = .ok (.aload_n 0, 1) := by decide +kernel
theorem dX14_isList_15 : decode cX14_isList 15 = .ok (.aload_n 1, 1) := by decide +kernel
theorem dX14_isList_16 : decode cX14_isList 16 = .ok (.invokevirtual 114, 3) := by decide +kernel
theorem dX14_isList_19 : decode cX14_isList 19 = .ok (.ifCond .eq 13, 3) := by decide +kernel
theorem dX14_isList_22 : decode cX14_isList 22 = .ok (.aload_n 0, 1) := by decide +kernel
theorem dX14_isList_23 : decode cX14_isList 23 = .ok (.aload_n 1, 1) := by decide +kernel
theorem dX14_isList_24 : decode cX14_isList 24 = .ok (.bipush 44, 2) := by decide +kernel
theorem dX14_isList_26 : decode cX14_isList 26 = .ok (.invokevirtual 118, 3) := by decide +kernel
theorem dX14_isList_29 : decode cX14_isList 29 = .ok (.ifCond .ne (-29), 3) := by decide +kernel
theorem dX14_isList_32 : decode cX14_isList 32 = .ok (.iconst 0, 1) := by decide +kernel
theorem dX14_isList_33 : decode cX14_isList 33 = .ok (.ireturn, 1) := by decide +kernel
theorem dX14_isList_34 : decode cX14_isList 34 = .ok (.iconst 1, 1) := by decide +kernel
theorem dX14_isList_35 : decode cX14_isList 35 = .ok (.ireturn, 1) := by decide +kernel
theorem dX14_isNumber_0 : decode cX14_isNumber 0 = .ok (.aload_n 0, 1) := by decide +kernel
theorem dX14_isNumber_1 : decode cX14_isNumber 1 = .ok (.aload_n 1, 1) := by decide +kernel
theorem dX14_isNumber_2 : decode cX14_isNumber 2 = .ok (.iload_n 2, 1) := by decide +kernel
theorem dX14_isNumber_3 : decode cX14_isNumber 3 = .ok (.invokevirtual 118, 3) := by decide +kernel
theorem dX14_isNumber_6 : decode cX14_isNumber 6 = .ok (.ifCond .eq 17, 3) := by decide +kernel
theorem dX14_isNumber_9 : decode cX14_isNumber 9 = .ok (.aload_n 0, 1) := by decide +kernel
theorem dX14_isNumber_10 : decode cX14_isNumber 10 = .ok (.aload_n 1, 1) := by decide +kernel
theorem dX14_isNumber_11 : decode cX14_isNumber 11 = .ok (.bipush 36, 2) := by decide +kernel
theorem dX14_isNumber_13 : decode cX14_isNumber 13 = .ok (.invokevirtual 118, 3) := by decide +kernel
theorem dX14_isNumber_16 : decode cX14_isNumber 16 = .ok (.ifCond .eq 7, 3) := by decide +kernel
theorem dX14_isNumber_19 : decode cX14_isNumber 19 = .ok (.iconst 1, 1) := by decide +kernel
theorem dX14_isNumber_20 : decode cX14_isNumber 20 = .ok (.goto 4, 3) := by decide +kernel
theorem dX14_isNumber_23 : decode cX14_isNumber 23 = .ok (.iconst 0, 1) := by decide +kernel
theorem dX14_isNumber_24 : decode cX14_isNumber 24 = .ok (.ireturn, 1) := by decide +kernel
theorem dX14_isName_0 : decode cX14_isName 0 = .ok (.aload_n 0, 1) := by decide +kernel
theorem dX14_isName_1 : decode cX14_isName 1 = .ok (.aload_n 1, 1) := by decide +kernel
theorem dX14_isName_2 : decode cX14_isName 2 = .ok (.iload_n 2, 1) := by decide +kernel
theorem dX14_isName_3 : decode cX14_isName 3 = .ok (.invokevirtual 118, 3) := by decide +kernel
theorem dX14_isName_6 : decode cX14_isName 6 = .ok (.ifCond .eq 17, 3) := by decide +kernel
theorem dX14_isName_9 : decode cX14_isName 9 = .ok (.aload_n 0, 1) := by decide +kernel
theorem dX14_isName_10 : decode cX14_isName 10 = .ok (.aload_n 1, 1) := by decide +kernel
theorem dX14_isName_11 : decode cX14_isName 11 = .ok (.bipush 35, 2) := by decide +kernel
theorem dX14_isName_13 : decode cX14_isName 13 = .ok (.invokevirtual 118, 3) := by decide +kernel
theorem dX14_isName_16 : decode cX14_isName 16 = .ok (.ifCond .eq 7, 3) := by decide +kernel
theorem dX14_isName_19 : decode cX14_isName 19 = .ok (.iconst 1, 1) := by decide +kernel
theorem dX14_isName_20 : decode cX14_isName 20 = .ok (.goto 4, 3) := by decide +kernel
theorem dX14_isName_23 : decode cX14_isName 23 = .ok (.iconst 0, 1) := by decide +kernel
theorem dX14_isName_24 : decode cX14_isName 24 = .ok (.ireturn, 1) := by decide +kernel
theorem dX14_mayTest_0 : decode cX14_mayTest 0 = .ok (.aload_n 0, 1) := by decide +kernel
theorem dX14_mayTest_1 : decode cX14_mayTest 1 = .ok (.aload_n 1, 1) := by decide +kernel
theorem dX14_mayTest_2 : decode cX14_mayTest 2 = .ok (.bipush 18, 2) := by decide +kernel
theorem dX14_mayTest_4 : decode cX14_mayTest 4 = .ok (.invokevirtual 118, 3) := by decide +kernel
theorem dX14_mayTest_7 : decode cX14_mayTest 7 = .ok (.ifCond .eq 11, 3) := by decide +kernel
theorem dX14_mayTest_10 : decode cX14_mayTest 10 = .ok (.aload_n 0, 1) := by decide +kernel
theorem dX14_mayTest_11 : decode cX14_mayTest 11 = .ok (.aload_n 1, 1) := by decide +kernel
theorem dX14_mayTest_12 : decode cX14_mayTest 12 = .ok (.invokevirtual 122, 3) := by decide +kernel
theorem dX14_mayTest_15 : decode cX14_mayTest 15 = .ok (.ifCond .eq 7, 3) := by decide +kernel
theorem dX14_mayTest_18 : decode cX14_mayTest 18 = .ok (.iconst 1, 1) := by decide +kernel
theorem dX14_mayTest_19 : decode cX14_mayTest 19 = .ok (.goto 4, 3) := by decide +kernel
theorem dX14_mayTest_22 : decode cX14_mayTest 22 = .ok (.iconst 0, 1) := by decide +kernel
theorem dX14_mayTest_23 : decode cX14_mayTest 23 = .ok (.ireturn, 1) := by decide +kernel
theorem dX14_isLine_0 : decode cX14_isLine 0 = .ok (.aload_n 1, 1) := by decide +kernel
theorem dX14_isLine_1 : decode cX14_isLine 1 = .ok (.getfield 102, 3) := by decide +kernel
theorem dX14_isLine_4 : decode cX14_isLine 4 = .ok (.aload_n 0, 1) := by decide +kernel
theorem dX14_isLine_5 : decode cX14_isLine 5 = .ok (.getfield 108, 3) := by decide +kernel
theorem dX14_isLine_8 : decode cX14_isLine 8 = .ok (.iaload, 1) := by decide +kernel
theorem dX14_isLine_9 : decode cX14_isLine 9 = .ok (.tableswitch 299 0 14 #[75, 299, 99, 299, 299, 132, 299, 299, 167, 299, 299, 299, 213, 299, 247], 75) := by decide +kernel
theorem dX14_isLine_84 : decode cX14_isLine 84 = .ok (.aload_n 0, 1) := by decide +kernel
theorem dX14_isLine_85 : decode cX14_isLine 85 = .ok (.aload_n 1, 1) := by decide +kernel
theorem dX14_isLine_86 : decode cX14_isLine 86 = .ok (.iconst 0, 1) := by decide +kernel
theorem dX14_isLine_87 : decode cX14_isLine 87 = .ok (.invokevirtual 125, 3) := by decide +kernel
theorem dX14_isLine_90 : decode cX14_isLine 90 = .ok (.ifCond .eq 16, 3) := by decide +kernel
theorem dX14_isLine_93 : decode cX14_isLine 93 = .ok (.aload_n 0, 1) := by decide +kernel
theorem dX14_isLine_94 : decode cX14_isLine 94 = .ok (.aload_n 1, 1) := by decide +kernel
theorem dX14_isLine_95 : decode cX14_isLine 95 = .ok (.iconst 1, 1) := by decide +kernel
theorem dX14_isLine_96 : decode cX14_isLine 96 = .ok (.invokevirtual 128, 3) := by decide +kernel
theorem dX14_isLine_99 : decode cX14_isLine 99 = .ok (.ifCond .eq 7, 3) := by decide +kernel
theorem dX14_isLine_102 : decode cX14_isLine 102 = .ok (.iconst 1, 1) := by decide +kernel
theorem dX14_isLine_103 : decode cX14_isLine 103 = .ok (.goto 4, 3) := by decide +kernel
theorem dX14_isLine_106 : decode cX14_isLine 106 = .ok (.iconst 0, 1) := by decide +kernel
theorem dX14_isLine_107 : decode cX14_isLine 107 = .ok (.ireturn, 1) := by decide +kernel
theorem dX14_isLine_108 : decode cX14_isLine 108 = .ok (.aload_n 0, 1) := by decide +kernel
theorem dX14_isLine_109 : decode cX14_isLine 109 = .ok (.aload_n 1, 1) := by decide +kernel
theorem dX14_isLine_110 : decode cX14_isLine 110 = .ok (.iconst 2, 1) := by decide +kernel
theorem dX14_isLine_111 : decode cX14_isLine 111 = .ok (.invokevirtual 125, 3) := by decide +kernel
theorem dX14_isLine_114 : decode cX14_isLine 114 = .ok (.ifCond .eq 25, 3) := by decide +kernel
theorem dX14_isLine_117 : decode cX14_isLine 117 = .ok (.aload_n 0, 1) := by decide +kernel
theorem dX14_isLine_118 : decode cX14_isLine 118 = .ok (.aload_n 1, 1) := by decide +kernel
theorem dX14_isLine_119 : decode cX14_isLine 119 = .ok (.iconst 3, 1) := by decide +kernel
theorem dX14_isLine_120 : decode cX14_isLine 120 = .ok (.invokevirtual 128, 3) := by decide +kernel
theorem dX14_isLine_123 : decode cX14_isLine 123 = .ok (.ifCond .eq 16, 3) := by decide +kernel
theorem dX14_isLine_126 : decode cX14_isLine 126 = .ok (.aload_n 0, 1) := by decide +kernel
theorem dX14_isLine_127 : decode cX14_isLine 127 = .ok (.aload_n 1, 1) := by decide +kernel
theorem dX14_isLine_128 : decode cX14_isLine 128 = .ok (.iconst 4, 1) := by decide +kernel
theorem dX14_isLine_129 : decode cX14_isLine 129 = .ok (.invokevirtual 128, 3) := by decide +kernel
theorem dX14_isLine_132 : decode cX14_isLine 132 = .ok (.ifCond .eq 7, 3) := by decide +kernel
theorem dX14_isLine_135 : decode cX14_isLine 135 = .ok (.iconst 1, 1) := by decide +kernel
theorem dX14_isLine_136 : decode cX14_isLine 136 = .ok (.goto 4, 3) := by decide +kernel
theorem dX14_isLine_139 : decode cX14_isLine 139 = .ok (.iconst 0, 1) := by decide +kernel
theorem dX14_isLine_140 : decode cX14_isLine 140 = .ok (.ireturn, 1) := by decide +kernel
theorem dX14_isLine_141 : decode cX14_isLine 141 = .ok (.aload_n 0, 1) := by decide +kernel
theorem dX14_isLine_142 : decode cX14_isLine 142 = .ok (.aload_n 1, 1) := by decide +kernel
theorem dX14_isLine_143 : decode cX14_isLine 143 = .ok (.iconst 5, 1) := by decide +kernel
theorem dX14_isLine_144 : decode cX14_isLine 144 = .ok (.invokevirtual 125, 3) := by decide +kernel
theorem dX14_isLine_147 : decode cX14_isLine 147 = .ok (.ifCond .eq 27, 3) := by decide +kernel
theorem dX14_isLine_150 : decode cX14_isLine 150 = .ok (.aload_n 0, 1) := by decide +kernel
theorem dX14_isLine_151 : decode cX14_isLine 151 = .ok (.aload_n 1, 1) := by decide +kernel
theorem dX14_isLine_152 : decode cX14_isLine 152 = .ok (.bipush 6, 2) := by decide +kernel
theorem dX14_isLine_154 : decode cX14_isLine 154 = .ok (.invokevirtual 128, 3) := by decide +kernel
theorem dX14_isLine_157 : decode cX14_isLine 157 = .ok (.ifCond .eq 17, 3) := by decide +kernel
theorem dX14_isLine_160 : decode cX14_isLine 160 = .ok (.aload_n 0, 1) := by decide +kernel
theorem dX14_isLine_161 : decode cX14_isLine 161 = .ok (.aload_n 1, 1) := by decide +kernel
theorem dX14_isLine_162 : decode cX14_isLine 162 = .ok (.bipush 7, 2) := by decide +kernel
theorem dX14_isLine_164 : decode cX14_isLine 164 = .ok (.invokevirtual 128, 3) := by decide +kernel
theorem dX14_isLine_167 : decode cX14_isLine 167 = .ok (.ifCond .eq 7, 3) := by decide +kernel
theorem dX14_isLine_170 : decode cX14_isLine 170 = .ok (.iconst 1, 1) := by decide +kernel
theorem dX14_isLine_171 : decode cX14_isLine 171 = .ok (.goto 4, 3) := by decide +kernel
theorem dX14_isLine_174 : decode cX14_isLine 174 = .ok (.iconst 0, 1) := by decide +kernel
theorem dX14_isLine_175 : decode cX14_isLine 175 = .ok (.ireturn, 1) := by decide +kernel
theorem dX14_isLine_176 : decode cX14_isLine 176 = .ok (.aload_n 0, 1) := by decide +kernel
theorem dX14_isLine_177 : decode cX14_isLine 177 = .ok (.aload_n 1, 1) := by decide +kernel
theorem dX14_isLine_178 : decode cX14_isLine 178 = .ok (.bipush 8, 2) := by decide +kernel
theorem dX14_isLine_180 : decode cX14_isLine 180 = .ok (.invokevirtual 125, 3) := by decide +kernel
theorem dX14_isLine_183 : decode cX14_isLine 183 = .ok (.ifCond .eq 37, 3) := by decide +kernel
theorem dX14_isLine_186 : decode cX14_isLine 186 = .ok (.aload_n 0, 1) := by decide +kernel
theorem dX14_isLine_187 : decode cX14_isLine 187 = .ok (.aload_n 1, 1) := by decide +kernel
theorem dX14_isLine_188 : decode cX14_isLine 188 = .ok (.bipush 9, 2) := by decide +kernel
theorem dX14_isLine_190 : decode cX14_isLine 190 = .ok (.invokevirtual 125, 3) := by decide +kernel
theorem dX14_isLine_193 : decode cX14_isLine 193 = .ok (.ifCond .eq 27, 3) := by decide +kernel
theorem dX14_isLine_196 : decode cX14_isLine 196 = .ok (.aload_n 0, 1) := by decide +kernel
theorem dX14_isLine_197 : decode cX14_isLine 197 = .ok (.aload_n 1, 1) := by decide +kernel
theorem dX14_isLine_198 : decode cX14_isLine 198 = .ok (.bipush 10, 2) := by decide +kernel
theorem dX14_isLine_200 : decode cX14_isLine 200 = .ok (.invokevirtual 128, 3) := by decide +kernel
theorem dX14_isLine_203 : decode cX14_isLine 203 = .ok (.ifCond .eq 17, 3) := by decide +kernel
theorem dX14_isLine_206 : decode cX14_isLine 206 = .ok (.aload_n 0, 1) := by decide +kernel
theorem dX14_isLine_207 : decode cX14_isLine 207 = .ok (.aload_n 1, 1) := by decide +kernel
theorem dX14_isLine_208 : decode cX14_isLine 208 = .ok (.bipush 11, 2) := by decide +kernel
theorem dX14_isLine_210 : decode cX14_isLine 210 = .ok (.invokevirtual 125, 3) := by decide +kernel
theorem dX14_isLine_213 : decode cX14_isLine 213 = .ok (.ifCond .eq 7, 3) := by decide +kernel
theorem dX14_isLine_216 : decode cX14_isLine 216 = .ok (.iconst 1, 1) := by decide +kernel
theorem dX14_isLine_217 : decode cX14_isLine 217 = .ok (.goto 4, 3) := by decide +kernel
theorem dX14_isLine_220 : decode cX14_isLine 220 = .ok (.iconst 0, 1) := by decide +kernel
theorem dX14_isLine_221 : decode cX14_isLine 221 = .ok (.ireturn, 1) := by decide +kernel
theorem dX14_isLine_222 : decode cX14_isLine 222 = .ok (.aload_n 0, 1) := by decide +kernel
theorem dX14_isLine_223 : decode cX14_isLine 223 = .ok (.aload_n 1, 1) := by decide +kernel
theorem dX14_isLine_224 : decode cX14_isLine 224 = .ok (.bipush 12, 2) := by decide +kernel
theorem dX14_isLine_226 : decode cX14_isLine 226 = .ok (.invokevirtual 125, 3) := by decide +kernel
theorem dX14_isLine_229 : decode cX14_isLine 229 = .ok (.ifCond .eq 25, 3) := by decide +kernel
theorem dX14_isLine_232 : decode cX14_isLine 232 = .ok (.aload_n 0, 1) := by decide +kernel
theorem dX14_isLine_233 : decode cX14_isLine 233 = .ok (.aload_n 1, 1) := by decide +kernel
theorem dX14_isLine_234 : decode cX14_isLine 234 = .ok (.bipush 13, 2) := by decide +kernel
theorem dX14_isLine_236 : decode cX14_isLine 236 = .ok (.invokevirtual 125, 3) := by decide +kernel
theorem dX14_isLine_239 : decode cX14_isLine 239 = .ok (.ifCond .eq 15, 3) := by decide +kernel
theorem dX14_isLine_242 : decode cX14_isLine 242 = .ok (.aload_n 0, 1) := by decide +kernel
theorem dX14_isLine_243 : decode cX14_isLine 243 = .ok (.aload_n 1, 1) := by decide +kernel
theorem dX14_isLine_244 : decode cX14_isLine 244 = .ok (.invokevirtual 131, 3) := by decide +kernel
theorem dX14_isLine_247 : decode cX14_isLine 247 = .ok (.ifCond .eq 7, 3) := by decide +kernel
theorem dX14_isLine_250 : decode cX14_isLine 250 = .ok (.iconst 1, 1) := by decide +kernel
theorem dX14_isLine_251 : decode cX14_isLine 251 = .ok (.goto 4, 3) := by decide +kernel
theorem dX14_isLine_254 : decode cX14_isLine 254 = .ok (.iconst 0, 1) := by decide +kernel
theorem dX14_isLine_255 : decode cX14_isLine 255 = .ok (.ireturn, 1) := by decide +kernel
theorem dX14_isLine_256 : decode cX14_isLine 256 = .ok (.aload_n 0, 1) := by decide +kernel
theorem dX14_isLine_257 : decode cX14_isLine 257 = .ok (.aload_n 1, 1) := by decide +kernel
theorem dX14_isLine_258 : decode cX14_isLine 258 = .ok (.bipush 14, 2) := by decide +kernel
theorem dX14_isLine_260 : decode cX14_isLine 260 = .ok (.invokevirtual 125, 3) := by decide +kernel
theorem dX14_isLine_263 : decode cX14_isLine 263 = .ok (.ifCond .eq 43, 3) := by decide +kernel
theorem dX14_isLine_266 : decode cX14_isLine 266 = .ok (.aload_n 0, 1) := by decide +kernel
theorem dX14_isLine_267 : decode cX14_isLine 267 = .ok (.aload_n 1, 1) := by decide +kernel
theorem dX14_isLine_268 : decode cX14_isLine 268 = .ok (.bipush 15, 2) := by decide +kernel
theorem dX14_isLine_270 : decode cX14_isLine 270 = .ok (.invokevirtual 125, 3) := by decide +kernel
theorem dX14_isLine_273 : decode cX14_isLine 273 = .ok (.ifCond .eq 33, 3) := by decide +kernel
theorem dX14_isLine_276 : decode cX14_isLine 276 = .ok (.aload_n 0, 1) := by decide +kernel
theorem dX14_isLine_277 : decode cX14_isLine 277 = .ok (.aload_n 1, 1) := by decide +kernel
theorem dX14_isLine_278 : decode cX14_isLine 278 = .ok (.bipush 17, 2) := by decide +kernel
theorem dX14_isLine_280 : decode cX14_isLine 280 = .ok (.invokevirtual 118, 3) := by decide +kernel
theorem dX14_isLine_283 : decode cX14_isLine 283 = .ok (.ifCond .eq 23, 3) := by decide +kernel
theorem dX14_isLine_286 : decode cX14_isLine 286 = .ok (.aload_n 0, 1) := by decide +kernel
theorem dX14_isLine_287 : decode cX14_isLine 287 = .ok (.aload_n 1, 1) := by decide +kernel
theorem dX14_isLine_288 : decode cX14_isLine 288 = .ok (.invokevirtual 134, 3) := by decide +kernel
theorem dX14_isLine_291 : decode cX14_isLine 291 = .ok (.ifCond .eq 15, 3) := by decide +kernel
theorem dX14_isLine_294 : decode cX14_isLine 294 = .ok (.aload_n 0, 1) := by decide +kernel
theorem dX14_isLine_295 : decode cX14_isLine 295 = .ok (.aload_n 1, 1) := by decide +kernel
theorem dX14_isLine_296 : decode cX14_isLine 296 = .ok (.invokevirtual 131, 3) := by decide +kernel
theorem dX14_isLine_299 : decode cX14_isLine 299 = .ok (.ifCond .eq 7, 3) := by decide +kernel
theorem dX14_isLine_302 : decode cX14_isLine 302 = .ok (.iconst 1, 1) := by decide +kernel
theorem dX14_isLine_303 : decode cX14_isLine 303 = .ok (.goto 4, 3) := by decide +kernel
theorem dX14_isLine_306 : decode cX14_isLine 306 = .ok (.iconst 0, 1) := by decide +kernel
theorem dX14_isLine_307 : decode cX14_isLine 307 = .ok (.ireturn, 1) := by decide +kernel
theorem dX14_isLine_308 : decode cX14_isLine 308 = .ok (.aload_n 0, 1) := by decide +kernel
theorem dX14_isLine_309 : decode cX14_isLine 309 = .ok (.aload_n 1, 1) := by decide +kernel
theorem dX14_isLine_310 : decode cX14_isLine 310 = .ok (.bipush 16, 2) := by decide +kernel
theorem dX14_isLine_312 : decode cX14_isLine 312 = .ok (.invokevirtual 125, 3) := by decide +kernel
theorem dX14_isLine_315 : decode cX14_isLine 315 = .ok (.ifCond .eq 43, 3) := by decide +kernel
theorem dX14_isLine_318 : decode cX14_isLine 318 = .ok (.aload_n 0, 1) := by decide +kernel
theorem dX14_isLine_319 : decode cX14_isLine 319 = .ok (.aload_n 1, 1) := by decide +kernel
theorem dX14_isLine_320 : decode cX14_isLine 320 = .ok (.bipush 15, 2) := by decide +kernel
theorem dX14_isLine_322 : decode cX14_isLine 322 = .ok (.invokevirtual 125, 3) := by decide +kernel
theorem dX14_isLine_325 : decode cX14_isLine 325 = .ok (.ifCond .eq 33, 3) := by decide +kernel
theorem dX14_isLine_328 : decode cX14_isLine 328 = .ok (.aload_n 0, 1) := by decide +kernel
theorem dX14_isLine_329 : decode cX14_isLine 329 = .ok (.aload_n 1, 1) := by decide +kernel
theorem dX14_isLine_330 : decode cX14_isLine 330 = .ok (.bipush 17, 2) := by decide +kernel
theorem dX14_isLine_332 : decode cX14_isLine 332 = .ok (.invokevirtual 118, 3) := by decide +kernel
theorem dX14_isLine_335 : decode cX14_isLine 335 = .ok (.ifCond .eq 23, 3) := by decide +kernel
theorem dX14_isLine_338 : decode cX14_isLine 338 = .ok (.aload_n 0, 1) := by decide +kernel
theorem dX14_isLine_339 : decode cX14_isLine 339 = .ok (.aload_n 1, 1) := by decide +kernel
theorem dX14_isLine_340 : decode cX14_isLine 340 = .ok (.invokevirtual 134, 3) := by decide +kernel
theorem dX14_isLine_343 : decode cX14_isLine 343 = .ok (.ifCond .eq 15, 3) := by decide +kernel
theorem dX14_isLine_346 : decode cX14_isLine 346 = .ok (.aload_n 0, 1) := by decide +kernel
theorem dX14_isLine_347 : decode cX14_isLine 347 = .ok (.aload_n 1, 1) := by decide +kernel
theorem dX14_isLine_348 : decode cX14_isLine 348 = .ok (.invokevirtual 131, 3) := by decide +kernel
theorem dX14_isLine_351 : decode cX14_isLine 351 = .ok (.ifCond .eq 7, 3) := by decide +kernel
theorem dX14_isLine_354 : decode cX14_isLine 354 = .ok (.iconst 1, 1) := by decide +kernel
theorem dX14_isLine_355 : decode cX14_isLine 355 = .ok (.goto 4, 3) := by decide +kernel
theorem dX14_isLine_358 : decode cX14_isLine 358 = .ok (.iconst 0, 1) := by decide +kernel
theorem dX14_isLine_359 : decode cX14_isLine 359 = .ok (.ireturn, 1) := by decide +kernel
theorem dX14_isTest_0 : decode cX14_isTest 0 = .ok (.aload_n 0, 1) := by decide +kernel
theorem dX14_isTest_1 : decode cX14_isTest 1 = .ok (.aload_n 1, 1) := by decide +kernel
theorem dX14_isTest_2 : decode cX14_isTest 2 = .ok (.invokevirtual 137, 3) := by decide +kernel
theorem dX14_isTest_5 : decode cX14_isTest 5 = .ok (.ifCond .ne 5, 3) := by decide +kernel
theorem dX14_isTest_8 : decode cX14_isTest 8 = .ok (.iconst 0, 1) := by decide +kernel
theorem dX14_isTest_9 : decode cX14_isTest 9 = .ok (.ireturn, 1) := by decide +kernel
theorem dX14_isTest_10 : decode cX14_isTest 10 = .ok (.aload_n 0, 1) := by decide +kernel
theorem dX14_isTest_11 : decode cX14_isTest 11 = .ok (.aload_n 1, 1) := by decide +kernel
theorem dX14_isTest_12 : decode cX14_isTest 12 = .ok (.bipush 29, 2) := by decide +kernel
theorem dX14_isTest_14 : decode cX14_isTest 14 = .ok (.invokevirtual 118, 3) := by decide +kernel
theorem dX14_isTest_17 : decode cX14_isTest 17 = .ok (.ifCond .ne (-17), 3) := by decide +kernel
theorem dX14_isTest_20 : decode cX14_isTest 20 = .ok (.iconst 1, 1) := by decide +kernel
theorem dX14_isTest_21 : decode cX14_isTest 21 = .ok (.ireturn, 1) := by decide +kernel
theorem dX14_isBoth_0 : decode cX14_isBoth 0 = .ok (.aload_n 0, 1) := by decide +kernel
theorem dX14_isBoth_1 : decode cX14_isBoth 1 = .ok (.aload_n 1, 1) := by decide +kernel
theorem dX14_isBoth_2 : decode cX14_isBoth 2 = .ok (.invokevirtual 140, 3) := by decide +kernel
theorem dX14_isBoth_5 : decode cX14_isBoth 5 = .ok (.ifCond .ne 5, 3) := by decide +kernel
theorem dX14_isBoth_8 : decode cX14_isBoth 8 = .ok (.iconst 0, 1) := by decide +kernel
theorem dX14_isBoth_9 : decode cX14_isBoth 9 = .ok (.ireturn, 1) := by decide +kernel
theorem dX14_isBoth_10 : decode cX14_isBoth 10 = .ok (.aload_n 0, 1) := by decide +kernel
theorem dX14_isBoth_11 : decode cX14_isBoth 11 = .ok (.aload_n 1, 1) := by decide +kernel
theorem dX14_isBoth_12 : decode cX14_isBoth 12 = .ok (.bipush 28, 2) := by decide +kernel
theorem dX14_isBoth_14 : decode cX14_isBoth 14 = .ok (.invokevirtual 118, 3) := by decide +kernel
theorem dX14_isBoth_17 : decode cX14_isBoth 17 = .ok (.ifCond .ne (-17), 3) := by decide +kernel
theorem dX14_isBoth_20 : decode cX14_isBoth 20 = .ok (.iconst 1, 1) := by decide +kernel
theorem dX14_isBoth_21 : decode cX14_isBoth 21 = .ok (.ireturn, 1) := by decide +kernel
theorem dX14_isSingle_0 : decode cX14_isSingle 0 = .ok (.aload_n 1, 1) := by decide +kernel
theorem dX14_isSingle_1 : decode cX14_isSingle 1 = .ok (.getfield 102, 3) := by decide +kernel
theorem dX14_isSingle_4 : decode cX14_isSingle 4 = .ok (.aload_n 0, 1) := by decide +kernel
theorem dX14_isSingle_5 : decode cX14_isSingle 5 = .ok (.getfield 108, 3) := by decide +kernel
theorem dX14_isSingle_8 : decode cX14_isSingle 8 = .ok (.iaload, 1) := by decide +kernel
theorem dX14_isSingle_9 : decode cX14_isSingle 9 = .ok (.bipush 27, 2) := by decide +kernel
theorem dX14_isSingle_11 : decode cX14_isSingle 11 = .ok (.if_icmp .ne 35, 3) := by decide +kernel
theorem dX14_isSingle_14 : decode cX14_isSingle 14 = .ok (.aload_n 0, 1) := by decide +kernel
theorem dX14_isSingle_15 : decode cX14_isSingle 15 = .ok (.aload_n 1, 1) := by decide +kernel
theorem dX14_isSingle_16 : decode cX14_isSingle 16 = .ok (.bipush 27, 2) := by decide +kernel
theorem dX14_isSingle_18 : decode cX14_isSingle 18 = .ok (.invokevirtual 143, 3) := by decide +kernel
theorem dX14_isSingle_21 : decode cX14_isSingle 21 = .ok (.ifCond .eq 11, 3) := by decide +kernel
theorem dX14_isSingle_24 : decode cX14_isSingle 24 = .ok (.aload_n 0, 1) := by decide +kernel
theorem dX14_isSingle_25 : decode cX14_isSingle 25 = .ok (.aload_n 1, 1) := by decide +kernel
theorem dX14_isSingle_26 : decode cX14_isSingle 26 = .ok (.invokevirtual 140, 3) := by decide +kernel
theorem dX14_isSingle_29 : decode cX14_isSingle 29 = .ok (.ifCond .ne 5, 3) := by decide +kernel
theorem dX14_isSingle_32 : decode cX14_isSingle 32 = .ok (.iconst 0, 1) := by decide +kernel
theorem dX14_isSingle_33 : decode cX14_isSingle 33 = .ok (.ireturn, 1) := by decide +kernel
theorem dX14_isSingle_34 : decode cX14_isSingle 34 = .ok (.aload_n 0, 1) := by decide +kernel
theorem dX14_isSingle_35 : decode cX14_isSingle 35 = .ok (.dup, 1) := by decide +kernel
theorem dX14_isSingle_36 : decode cX14_isSingle 36 = .ok (.getfield 111, 3) := by decide +kernel
theorem dX14_isSingle_39 : decode cX14_isSingle 39 = .ok (.iconst 1, 1) := by decide +kernel
theorem dX14_isSingle_40 : decode cX14_isSingle 40 = .ok (.isub, 1) := by decide +kernel
theorem dX14_isSingle_41 : decode cX14_isSingle 41 = .ok (.putfield 111, 3) := by decide +kernel
theorem dX14_isSingle_44 : decode cX14_isSingle 44 = .ok (.iconst 1, 1) := by decide +kernel
theorem dX14_isSingle_45 : decode cX14_isSingle 45 = .ok (.ireturn, 1) := by decide +kernel
theorem dX14_isSingle_46 : decode cX14_isSingle 46 = .ok (.aload_n 1, 1) := by decide +kernel
theorem dX14_isSingle_47 : decode cX14_isSingle 47 = .ok (.getfield 102, 3) := by decide +kernel
theorem dX14_isSingle_50 : decode cX14_isSingle 50 = .ok (.aload_n 0, 1) := by decide +kernel
theorem dX14_isSingle_51 : decode cX14_isSingle 51 = .ok (.getfield 108, 3) := by decide +kernel
theorem dX14_isSingle_54 : decode cX14_isSingle 54 = .ok (.iaload, 1) := by decide +kernel
theorem dX14_isSingle_55 : decode cX14_isSingle 55 = .ok (.bipush 42, 2) := by decide +kernel
theorem dX14_isSingle_57 : decode cX14_isSingle 57 = .ok (.if_icmp .ne 45, 3) := by decide +kernel
theorem dX14_isSingle_60 : decode cX14_isSingle 60 = .ok (.aload_n 0, 1) := by decide +kernel
theorem dX14_isSingle_61 : decode cX14_isSingle 61 = .ok (.aload_n 1, 1) := by decide +kernel
theorem dX14_isSingle_62 : decode cX14_isSingle 62 = .ok (.bipush 42, 2) := by decide +kernel
theorem dX14_isSingle_64 : decode cX14_isSingle 64 = .ok (.invokevirtual 143, 3) := by decide +kernel
theorem dX14_isSingle_67 : decode cX14_isSingle 67 = .ok (.ifCond .eq 21, 3) := by decide +kernel
theorem dX14_isSingle_70 : decode cX14_isSingle 70 = .ok (.aload_n 0, 1) := by decide +kernel
theorem dX14_isSingle_71 : decode cX14_isSingle 71 = .ok (.aload_n 1, 1) := by decide +kernel
theorem dX14_isSingle_72 : decode cX14_isSingle 72 = .ok (.invokevirtual 122, 3) := by decide +kernel
theorem dX14_isSingle_75 : decode cX14_isSingle 75 = .ok (.ifCond .eq 13, 3) := by decide +kernel
theorem dX14_isSingle_78 : decode cX14_isSingle 78 = .ok (.aload_n 0, 1) := by decide +kernel
theorem dX14_isSingle_79 : decode cX14_isSingle 79 = .ok (.aload_n 1, 1) := by decide +kernel
theorem dX14_isSingle_80 : decode cX14_isSingle 80 = .ok (.bipush 43, 2) := by decide +kernel
theorem dX14_isSingle_82 : decode cX14_isSingle 82 = .ok (.invokevirtual 118, 3) := by decide +kernel
theorem dX14_isSingle_85 : decode cX14_isSingle 85 = .ok (.ifCond .ne 5, 3) := by decide +kernel
theorem dX14_isSingle_88 : decode cX14_isSingle 88 = .ok (.iconst 0, 1) := by decide +kernel
theorem dX14_isSingle_89 : decode cX14_isSingle 89 = .ok (.ireturn, 1) := by decide +kernel
theorem dX14_isSingle_90 : decode cX14_isSingle 90 = .ok (.aload_n 0, 1) := by decide +kernel
theorem dX14_isSingle_91 : decode cX14_isSingle 91 = .ok (.dup, 1) := by decide +kernel
theorem dX14_isSingle_92 : decode cX14_isSingle 92 = .ok (.getfield 111, 3) := by decide +kernel
theorem dX14_isSingle_95 : decode cX14_isSingle 95 = .ok (.iconst 1, 1) := by decide +kernel
theorem dX14_isSingle_96 : decode cX14_isSingle 96 = .ok (.isub, 1) := by decide +kernel
theorem dX14_isSingle_97 : decode cX14_isSingle 97 = .ok (.putfield 111, 3) := by decide +kernel
theorem dX14_isSingle_100 : decode cX14_isSingle 100 = .ok (.iconst 1, 1) := by decide +kernel
theorem dX14_isSingle_101 : decode cX14_isSingle 101 = .ok (.ireturn, 1) := by decide +kernel
theorem dX14_isSingle_102 : decode cX14_isSingle 102 = .ok (.aload_n 0, 1) := by decide +kernel
theorem dX14_isSingle_103 : decode cX14_isSingle 103 = .ok (.aload_n 1, 1) := by decide +kernel
theorem dX14_isSingle_104 : decode cX14_isSingle 104 = .ok (.bipush 26, 2) := by decide +kernel
theorem dX14_isSingle_106 : decode cX14_isSingle 106 = .ok (.invokevirtual 118, 3) := by decide +kernel
theorem dX14_isSingle_109 : decode cX14_isSingle 109 = .ok (.ifCond .eq 29, 3) := by decide +kernel
theorem dX14_isSingle_112 : decode cX14_isSingle 112 = .ok (.aload_n 0, 1) := by decide +kernel
theorem dX14_isSingle_113 : decode cX14_isSingle 113 = .ok (.aload_n 1, 1) := by decide +kernel
theorem dX14_isSingle_114 : decode cX14_isSingle 114 = .ok (.bipush 35, 2) := by decide +kernel
theorem dX14_isSingle_116 : decode cX14_isSingle 116 = .ok (.invokevirtual 118, 3) := by decide +kernel
theorem dX14_isSingle_119 : decode cX14_isSingle 119 = .ok (.ifCond .eq 17, 3) := by decide +kernel
theorem dX14_isSingle_122 : decode cX14_isSingle 122 = .ok (.aload_n 0, 1) := by decide +kernel
theorem dX14_isSingle_123 : decode cX14_isSingle 123 = .ok (.aload_n 1, 1) := by decide +kernel
theorem dX14_isSingle_124 : decode cX14_isSingle 124 = .ok (.bipush 35, 2) := by decide +kernel
theorem dX14_isSingle_126 : decode cX14_isSingle 126 = .ok (.invokevirtual 118, 3) := by decide +kernel
theorem dX14_isSingle_129 : decode cX14_isSingle 129 = .ok (.ifCond .eq 7, 3) := by decide +kernel
theorem dX14_isSingle_132 : decode cX14_isSingle 132 = .ok (.iconst 1, 1) := by decide +kernel
theorem dX14_isSingle_133 : decode cX14_isSingle 133 = .ok (.goto 4, 3) := by decide +kernel
theorem dX14_isSingle_136 : decode cX14_isSingle 136 = .ok (.iconst 0, 1) := by decide +kernel
theorem dX14_isSingle_137 : decode cX14_isSingle 137 = .ok (.ireturn, 1) := by decide +kernel
theorem dX14_isSingle_138 : decode cX14_isSingle 138 = .ok (.aload_n 0, 1) := by decide +kernel
theorem dX14_isSingle_139 : decode cX14_isSingle 139 = .ok (.aload_n 1, 1) := by decide +kernel
theorem dX14_isSingle_140 : decode cX14_isSingle 140 = .ok (.invokevirtual 134, 3) := by decide +kernel
theorem dX14_isSingle_143 : decode cX14_isSingle 143 = .ok (.ifCond .eq 27, 3) := by decide +kernel
theorem dX14_isSingle_146 : decode cX14_isSingle 146 = .ok (.aload_n 0, 1) := by decide +kernel
theorem dX14_isSingle_147 : decode cX14_isSingle 147 = .ok (.aload_n 1, 1) := by decide +kernel
theorem dX14_isSingle_148 : decode cX14_isSingle 148 = .ok (.bipush 50, 2) := by decide +kernel
theorem dX14_isSingle_150 : decode cX14_isSingle 150 = .ok (.bipush 54, 2) := by decide +kernel
theorem dX14_isSingle_152 : decode cX14_isSingle 152 = .ok (.invokevirtual 146, 3) := by decide +kernel
theorem dX14_isSingle_155 : decode cX14_isSingle 155 = .ok (.ifCond .eq 15, 3) := by decide +kernel
theorem dX14_isSingle_158 : decode cX14_isSingle 158 = .ok (.aload_n 0, 1) := by decide +kernel
theorem dX14_isSingle_159 : decode cX14_isSingle 159 = .ok (.aload_n 1, 1) := by decide +kernel
theorem dX14_isSingle_160 : decode cX14_isSingle 160 = .ok (.invokevirtual 134, 3) := by decide +kernel
theorem dX14_isSingle_163 : decode cX14_isSingle 163 = .ok (.ifCond .eq 7, 3) := by decide +kernel
theorem dX14_isSingle_166 : decode cX14_isSingle 166 = .ok (.iconst 1, 1) := by decide +kernel
theorem dX14_isSingle_167 : decode cX14_isSingle 167 = .ok (.goto 4, 3) := by decide +kernel
theorem dX14_isSingle_170 : decode cX14_isSingle 170 = .ok (.iconst 0, 1) := by decide +kernel
theorem dX14_isSingle_171 : decode cX14_isSingle 171 = .ok (.ireturn, 1) := by decide +kernel
theorem dX14_isSum_0 : decode cX14_isSum 0 = .ok (.aload_n 0, 1) := by decide +kernel
theorem dX14_isSum_1 : decode cX14_isSum 1 = .ok (.aload_n 1, 1) := by decide +kernel
theorem dX14_isSum_2 : decode cX14_isSum 2 = .ok (.invokevirtual 150, 3) := by decide +kernel
theorem dX14_isSum_5 : decode cX14_isSum 5 = .ok (.ifCond .ne 5, 3) := by decide +kernel
theorem dX14_isSum_8 : decode cX14_isSum 8 = .ok (.iconst 0, 1) := by decide +kernel
theorem dX14_isSum_9 : decode cX14_isSum 9 = .ok (.ireturn, 1) := by decide +kernel
theorem dX14_isSum_10 : decode cX14_isSum 10 = .ok (.aload_n 0, 1) := by decide +kernel
theorem dX14_isSum_11 : decode cX14_isSum 11 = .ok (.aload_n 1, 1) := by decide +kernel
theorem dX14_isSum_12 : decode cX14_isSum 12 = .ok (.bipush 46, 2) := by decide +kernel
theorem dX14_isSum_14 : decode cX14_isSum 14 = .ok (.bipush 47, 2) := by decide +kernel
theorem dX14_isSum_16 : decode cX14_isSum 16 = .ok (.invokevirtual 146, 3) := by decide +kernel
theorem dX14_isSum_19 : decode cX14_isSum 19 = .ok (.ifCond .ne (-19), 3) := by decide +kernel
theorem dX14_isSum_22 : decode cX14_isSum 22 = .ok (.iconst 1, 1) := by decide +kernel
theorem dX14_isSum_23 : decode cX14_isSum 23 = .ok (.ireturn, 1) := by decide +kernel
theorem dX14_isProduct_0 : decode cX14_isProduct 0 = .ok (.aload_n 0, 1) := by decide +kernel
theorem dX14_isProduct_1 : decode cX14_isProduct 1 = .ok (.aload_n 1, 1) := by decide +kernel
theorem dX14_isProduct_2 : decode cX14_isProduct 2 = .ok (.invokevirtual 153, 3) := by decide +kernel
theorem dX14_isProduct_5 : decode cX14_isProduct 5 = .ok (.ifCond .ne 5, 3) := by decide +kernel
theorem dX14_isProduct_8 : decode cX14_isProduct 8 = .ok (.iconst 0, 1) := by decide +kernel
theorem dX14_isProduct_9 : decode cX14_isProduct 9 = .ok (.ireturn, 1) := by decide +kernel
theorem dX14_isProduct_10 : decode cX14_isProduct 10 = .ok (.aload_n 0, 1) := by decide +kernel
theorem dX14_isProduct_11 : decode cX14_isProduct 11 = .ok (.aload_n 1, 1) := by decide +kernel
theorem dX14_isProduct_12 : decode cX14_isProduct 12 = .ok (.bipush 48, 2) := by decide +kernel
theorem dX14_isProduct_14 : decode cX14_isProduct 14 = .ok (.bipush 49, 2) := by decide +kernel
theorem dX14_isProduct_16 : decode cX14_isProduct 16 = .ok (.invokevirtual 146, 3) := by decide +kernel
theorem dX14_isProduct_19 : decode cX14_isProduct 19 = .ok (.ifCond .ne (-19), 3) := by decide +kernel
theorem dX14_isProduct_22 : decode cX14_isProduct 22 = .ok (.iconst 1, 1) := by decide +kernel
theorem dX14_isProduct_23 : decode cX14_isProduct 23 = .ok (.ireturn, 1) := by decide +kernel
theorem dX14_isValue_0 : decode cX14_isValue 0 = .ok (.aload_n 1, 1) := by decide +kernel
theorem dX14_isValue_1 : decode cX14_isValue 1 = .ok (.getfield 102, 3) := by decide +kernel
theorem dX14_isValue_4 : decode cX14_isValue 4 = .ok (.aload_n 0, 1) := by decide +kernel
theorem dX14_isValue_5 : decode cX14_isValue 5 = .ok (.getfield 108, 3) := by decide +kernel
theorem dX14_isValue_8 : decode cX14_isValue 8 = .ok (.iaload, 1) := by decide +kernel
theorem dX14_isValue_9 : decode cX14_isValue 9 = .ok (.bipush 47, 2) := by decide +kernel
theorem dX14_isValue_11 : decode cX14_isValue 11 = .ok (.if_icmp .ne 35, 3) := by decide +kernel
theorem dX14_isValue_14 : decode cX14_isValue 14 = .ok (.aload_n 0, 1) := by decide +kernel
theorem dX14_isValue_15 : decode cX14_isValue 15 = .ok (.aload_n 1, 1) := by decide +kernel
theorem dX14_isValue_16 : decode cX14_isValue 16 = .ok (.bipush 47, 2) := by decide +kernel
theorem dX14_isValue_18 : decode cX14_isValue 18 = .ok (.invokevirtual 143, 3) := by decide +kernel
theorem dX14_isValue_21 : decode cX14_isValue 21 = .ok (.ifCond .eq 11, 3) := by decide +kernel
theorem dX14_isValue_24 : decode cX14_isValue 24 = .ok (.aload_n 0, 1) := by decide +kernel
theorem dX14_isValue_25 : decode cX14_isValue 25 = .ok (.aload_n 1, 1) := by decide +kernel
theorem dX14_isValue_26 : decode cX14_isValue 26 = .ok (.invokevirtual 153, 3) := by decide +kernel
theorem dX14_isValue_29 : decode cX14_isValue 29 = .ok (.ifCond .ne 5, 3) := by decide +kernel
theorem dX14_isValue_32 : decode cX14_isValue 32 = .ok (.iconst 0, 1) := by decide +kernel
theorem dX14_isValue_33 : decode cX14_isValue 33 = .ok (.ireturn, 1) := by decide +kernel
theorem dX14_isValue_34 : decode cX14_isValue 34 = .ok (.aload_n 0, 1) := by decide +kernel
theorem dX14_isValue_35 : decode cX14_isValue 35 = .ok (.dup, 1) := by decide +kernel
theorem dX14_isValue_36 : decode cX14_isValue 36 = .ok (.getfield 111, 3) := by decide +kernel
theorem dX14_isValue_39 : decode cX14_isValue 39 = .ok (.iconst 1, 1) := by decide +kernel
theorem dX14_isValue_40 : decode cX14_isValue 40 = .ok (.isub, 1) := by decide +kernel
theorem dX14_isValue_41 : decode cX14_isValue 41 = .ok (.putfield 111, 3) := by decide +kernel
theorem dX14_isValue_44 : decode cX14_isValue 44 = .ok (.iconst 1, 1) := by decide +kernel
theorem dX14_isValue_45 : decode cX14_isValue 45 = .ok (.ireturn, 1) := by decide +kernel
theorem dX14_isValue_46 : decode cX14_isValue 46 = .ok (.aload_n 0, 1) := by decide +kernel
theorem dX14_isValue_47 : decode cX14_isValue 47 = .ok (.aload_n 1, 1) := by decide +kernel
theorem dX14_isValue_48 : decode cX14_isValue 48 = .ok (.bipush 36, 2) := by decide +kernel
theorem dX14_isValue_50 : decode cX14_isValue 50 = .ok (.invokevirtual 118, 3) := by decide +kernel
theorem dX14_isValue_53 : decode cX14_isValue 53 = .ok (.ifCond .ne 15, 3) := by decide +kernel
theorem dX14_isValue_56 : decode cX14_isValue 56 = .ok (.aload_n 0, 1) := by decide +kernel
theorem dX14_isValue_57 : decode cX14_isValue 57 = .ok (.aload_n 1, 1) := by decide +kernel
theorem dX14_isValue_58 : decode cX14_isValue 58 = .ok (.bipush 19, 2) := by decide +kernel
theorem dX14_isValue_60 : decode cX14_isValue 60 = .ok (.bipush 20, 2) := by decide +kernel
theorem dX14_isValue_62 : decode cX14_isValue 62 = .ok (.invokevirtual 146, 3) := by decide +kernel
theorem dX14_isValue_65 : decode cX14_isValue 65 = .ok (.ifCond .eq 5, 3) := by decide +kernel
theorem dX14_isValue_68 : decode cX14_isValue 68 = .ok (.iconst 1, 1) := by decide +kernel
theorem dX14_isValue_69 : decode cX14_isValue 69 = .ok (.ireturn, 1) := by decide +kernel
theorem dX14_isValue_70 : decode cX14_isValue 70 = .ok (.aload_n 0, 1) := by decide +kernel
theorem dX14_isValue_71 : decode cX14_isValue 71 = .ok (.aload_n 1, 1) := by decide +kernel
theorem dX14_isValue_72 : decode cX14_isValue 72 = .ok (.bipush 21, 2) := by decide +kernel
theorem dX14_isValue_74 : decode cX14_isValue 74 = .ok (.bipush 24, 2) := by decide +kernel
theorem dX14_isValue_76 : decode cX14_isValue 76 = .ok (.invokevirtual 146, 3) := by decide +kernel
theorem dX14_isValue_79 : decode cX14_isValue 79 = .ok (.ifCond .ne 13, 3) := by decide +kernel
theorem dX14_isValue_82 : decode cX14_isValue 82 = .ok (.aload_n 0, 1) := by decide +kernel
theorem dX14_isValue_83 : decode cX14_isValue 83 = .ok (.aload_n 1, 1) := by decide +kernel
theorem dX14_isValue_84 : decode cX14_isValue 84 = .ok (.bipush 6, 2) := by decide +kernel
theorem dX14_isValue_86 : decode cX14_isValue 86 = .ok (.invokevirtual 118, 3) := by decide +kernel
theorem dX14_isValue_89 : decode cX14_isValue 89 = .ok (.ifCond .eq 11, 3) := by decide +kernel
theorem dX14_isValue_92 : decode cX14_isValue 92 = .ok (.aload_n 0, 1) := by decide +kernel
theorem dX14_isValue_93 : decode cX14_isValue 93 = .ok (.aload_n 1, 1) := by decide +kernel
theorem dX14_isValue_94 : decode cX14_isValue 94 = .ok (.bipush 35, 2) := by decide +kernel
theorem dX14_isValue_96 : decode cX14_isValue 96 = .ok (.invokevirtual 118, 3) := by decide +kernel
theorem dX14_isValue_99 : decode cX14_isValue 99 = .ok (.ireturn, 1) := by decide +kernel
theorem dX14_isValue_100 : decode cX14_isValue 100 = .ok (.aload_n 0, 1) := by decide +kernel
theorem dX14_isValue_101 : decode cX14_isValue 101 = .ok (.aload_n 1, 1) := by decide +kernel
theorem dX14_isValue_102 : decode cX14_isValue 102 = .ok (.bipush 25, 2) := by decide +kernel
theorem dX14_isValue_104 : decode cX14_isValue 104 = .ok (.invokevirtual 118, 3) := by decide +kernel
theorem dX14_isValue_107 : decode cX14_isValue 107 = .ok (.ifCond .eq 29, 3) := by decide +kernel
theorem dX14_isValue_110 : decode cX14_isValue 110 = .ok (.aload_n 0, 1) := by decide +kernel
theorem dX14_isValue_111 : decode cX14_isValue 111 = .ok (.aload_n 1, 1) := by decide +kernel
theorem dX14_isValue_112 : decode cX14_isValue 112 = .ok (.bipush 35, 2) := by decide +kernel
theorem dX14_isValue_114 : decode cX14_isValue 114 = .ok (.invokevirtual 118, 3) := by decide +kernel
theorem dX14_isValue_117 : decode cX14_isValue 117 = .ok (.ifCond .eq 17, 3) := by decide +kernel
theorem dX14_isValue_120 : decode cX14_isValue 120 = .ok (.aload_n 0, 1) := by decide +kernel
theorem dX14_isValue_121 : decode cX14_isValue 121 = .ok (.aload_n 1, 1) := by decide +kernel
theorem dX14_isValue_122 : decode cX14_isValue 122 = .ok (.bipush 35, 2) := by decide +kernel
theorem dX14_isValue_124 : decode cX14_isValue 124 = .ok (.invokevirtual 118, 3) := by decide +kernel
theorem dX14_isValue_127 : decode cX14_isValue 127 = .ok (.ifCond .eq 7, 3) := by decide +kernel
theorem dX14_isValue_130 : decode cX14_isValue 130 = .ok (.iconst 1, 1) := by decide +kernel
theorem dX14_isValue_131 : decode cX14_isValue 131 = .ok (.goto 4, 3) := by decide +kernel
theorem dX14_isValue_134 : decode cX14_isValue 134 = .ok (.iconst 0, 1) := by decide +kernel
theorem dX14_isValue_135 : decode cX14_isValue 135 = .ok (.ireturn, 1) := by decide +kernel
theorem dX14_isValue_136 : decode cX14_isValue 136 = .ok (.aload_n 0, 1) := by decide +kernel
theorem dX14_isValue_137 : decode cX14_isValue 137 = .ok (.aload_n 1, 1) := by decide +kernel
theorem dX14_isValue_138 : decode cX14_isValue 138 = .ok (.bipush 30, 2) := by decide +kernel
theorem dX14_isValue_140 : decode cX14_isValue 140 = .ok (.bipush 31, 2) := by decide +kernel
theorem dX14_isValue_142 : decode cX14_isValue 142 = .ok (.invokevirtual 146, 3) := by decide +kernel
theorem dX14_isValue_145 : decode cX14_isValue 145 = .ok (.istore_n 2, 1) := by decide +kernel
theorem dX14_isValue_146 : decode cX14_isValue 146 = .ok (.aload_n 0, 1) := by decide +kernel
theorem dX14_isValue_147 : decode cX14_isValue 147 = .ok (.aload_n 1, 1) := by decide +kernel
theorem dX14_isValue_148 : decode cX14_isValue 148 = .ok (.bipush 40, 2) := by decide +kernel
theorem dX14_isValue_150 : decode cX14_isValue 150 = .ok (.invokevirtual 143, 3) := by decide +kernel
theorem dX14_isValue_153 : decode cX14_isValue 153 = .ok (.ifCond .eq 43, 3) := by decide +kernel
theorem dX14_isValue_156 : decode cX14_isValue 156 = .ok (.aload_n 0, 1) := by decide +kernel
theorem dX14_isValue_157 : decode cX14_isValue 157 = .ok (.aload_n 1, 1) := by decide +kernel
theorem dX14_isValue_158 : decode cX14_isValue 158 = .ok (.invokevirtual 134, 3) := by decide +kernel
theorem dX14_isValue_161 : decode cX14_isValue 161 = .ok (.ifCond .eq 35, 3) := by decide +kernel
theorem dX14_isValue_164 : decode cX14_isValue 164 = .ok (.iload_n 2, 1) := by decide +kernel
theorem dX14_isValue_165 : decode cX14_isValue 165 = .ok (.ifCond .eq 21, 3) := by decide +kernel
theorem dX14_isValue_168 : decode cX14_isValue 168 = .ok (.aload_n 0, 1) := by decide +kernel
theorem dX14_isValue_169 : decode cX14_isValue 169 = .ok (.aload_n 1, 1) := by decide +kernel
theorem dX14_isValue_170 : decode cX14_isValue 170 = .ok (.bipush 45, 2) := by decide +kernel
theorem dX14_isValue_172 : decode cX14_isValue 172 = .ok (.invokevirtual 118, 3) := by decide +kernel
theorem dX14_isValue_175 : decode cX14_isValue 175 = .ok (.ifCond .eq 21, 3) := by decide +kernel
theorem dX14_isValue_178 : decode cX14_isValue 178 = .ok (.aload_n 0, 1) := by decide +kernel
theorem dX14_isValue_179 : decode cX14_isValue 179 = .ok (.aload_n 1, 1) := by decide +kernel
theorem dX14_isValue_180 : decode cX14_isValue 180 = .ok (.invokevirtual 134, 3) := by decide +kernel
theorem dX14_isValue_183 : decode cX14_isValue 183 = .ok (.ifCond .eq 13, 3) := by decide +kernel
theorem dX14_isValue_186 : decode cX14_isValue 186 = .ok (.aload_n 0, 1) := by decide +kernel
theorem dX14_isValue_187 : decode cX14_isValue 187 = .ok (.aload_n 1, 1) := by decide +kernel
theorem dX14_isValue_188 : decode cX14_isValue 188 = .ok (.bipush 41, 2) := by decide +kernel
theorem dX14_isValue_190 : decode cX14_isValue 190 = .ok (.invokevirtual 118, 3) := by decide +kernel
theorem dX14_isValue_193 : decode cX14_isValue 193 = .ok (.ifCond .ne 5, 3) := by decide +kernel
theorem dX14_isValue_196 : decode cX14_isValue 196 = .ok (.iconst 0, 1) := by decide +kernel
theorem dX14_isValue_197 : decode cX14_isValue 197 = .ok (.ireturn, 1) := by decide +kernel
theorem dX14_isValue_198 : decode cX14_isValue 198 = .ok (.aload_n 0, 1) := by decide +kernel
theorem dX14_isValue_199 : decode cX14_isValue 199 = .ok (.dup, 1) := by decide +kernel
theorem dX14_isValue_200 : decode cX14_isValue 200 = .ok (.getfield 111, 3) := by decide +kernel
theorem dX14_isValue_203 : decode cX14_isValue 203 = .ok (.iconst 1, 1) := by decide +kernel
theorem dX14_isValue_204 : decode cX14_isValue 204 = .ok (.isub, 1) := by decide +kernel
theorem dX14_isValue_205 : decode cX14_isValue 205 = .ok (.putfield 111, 3) := by decide +kernel
theorem dX14_isValue_208 : decode cX14_isValue 208 = .ok (.iconst 1, 1) := by decide +kernel
theorem dX14_isValue_209 : decode cX14_isValue 209 = .ok (.ireturn, 1) := by decide +kernel
theorem dX14_number_0 : decode cX14_number 0 = .ok (.iconst 0, 1) := by decide +kernel
theorem dX14_number_1 : decode cX14_number 1 = .ok (.istore_n 3, 1) := by decide +kernel
theorem dX14_number_2 : decode cX14_number 2 = .ok (.iconst 0, 1) := by decide +kernel
theorem dX14_number_3 : decode cX14_number 3 = .ok (.istore 4, 2) := by decide +kernel
theorem dX14_number_5 : decode cX14_number 5 = .ok (.iload 4, 2) := by decide +kernel
theorem dX14_number_7 : decode cX14_number 7 = .ok (.aload_n 1, 1) := by decide +kernel
theorem dX14_number_8 : decode cX14_number 8 = .ok (.getfield 96, 3) := by decide +kernel
theorem dX14_number_11 : decode cX14_number 11 = .ok (.iload_n 2, 1) := by decide +kernel
theorem dX14_number_12 : decode cX14_number 12 = .ok (.iaload, 1) := by decide +kernel
theorem dX14_number_13 : decode cX14_number 13 = .ok (.if_icmp .ge 32, 3) := by decide +kernel
theorem dX14_number_16 : decode cX14_number 16 = .ok (.bipush 10, 2) := by decide +kernel
theorem dX14_number_18 : decode cX14_number 18 = .ok (.iload_n 3, 1) := by decide +kernel
theorem dX14_number_19 : decode cX14_number 19 = .ok (.imul, 1) := by decide +kernel
theorem dX14_number_20 : decode cX14_number 20 = .ok (.aload_n 0, 1) := by decide +kernel
theorem dX14_number_21 : decode cX14_number 21 = .ok (.getfield 9, 3) := by decide +kernel
theorem dX14_number_24 : decode cX14_number 24 = .ok (.aload_n 1, 1) := by decide +kernel
theorem dX14_number_25 : decode cX14_number 25 = .ok (.getfield 93, 3) := by decide +kernel
theorem dX14_number_28 : decode cX14_number 28 = .ok (.iload_n 2, 1) := by decide +kernel
theorem dX14_number_29 : decode cX14_number 29 = .ok (.iaload, 1) := by decide +kernel
theorem dX14_number_30 : decode cX14_number 30 = .ok (.iload 4, 2) := by decide +kernel
theorem dX14_number_32 : decode cX14_number 32 = .ok (.iadd, 1) := by decide +kernel
theorem dX14_number_33 : decode cX14_number 33 = .ok (.iaload, 1) := by decide +kernel
theorem dX14_number_34 : decode cX14_number 34 = .ok (.iadd, 1) := by decide +kernel
theorem dX14_number_35 : decode cX14_number 35 = .ok (.bipush 48, 2) := by decide +kernel
theorem dX14_number_37 : decode cX14_number 37 = .ok (.isub, 1) := by decide +kernel
theorem dX14_number_38 : decode cX14_number 38 = .ok (.istore_n 3, 1) := by decide +kernel
theorem dX14_number_39 : decode cX14_number 39 = .ok (.iinc 4 1, 3) := by decide +kernel
theorem dX14_number_42 : decode cX14_number 42 = .ok (.goto (-37), 3) := by decide +kernel
theorem dX14_number_45 : decode cX14_number 45 = .ok (.iload_n 3, 1) := by decide +kernel
theorem dX14_number_46 : decode cX14_number 46 = .ok (.ireturn, 1) := by decide +kernel
theorem dX14_areSame_0 : decode cX14_areSame 0 = .ok (.aload_n 1, 1) := by decide +kernel
theorem dX14_areSame_1 : decode cX14_areSame 1 = .ok (.getfield 96, 3) := by decide +kernel
theorem dX14_areSame_4 : decode cX14_areSame 4 = .ok (.iload_n 2, 1) := by decide +kernel
theorem dX14_areSame_5 : decode cX14_areSame 5 = .ok (.iaload, 1) := by decide +kernel
theorem dX14_areSame_6 : decode cX14_areSame 6 = .ok (.aload_n 1, 1) := by decide +kernel
theorem dX14_areSame_7 : decode cX14_areSame 7 = .ok (.getfield 96, 3) := by decide +kernel
theorem dX14_areSame_10 : decode cX14_areSame 10 = .ok (.iload_n 3, 1) := by decide +kernel
theorem dX14_areSame_11 : decode cX14_areSame 11 = .ok (.iaload, 1) := by decide +kernel
theorem dX14_areSame_12 : decode cX14_areSame 12 = .ok (.if_icmp .ne 7, 3) := by decide +kernel
theorem dX14_areSame_15 : decode cX14_areSame 15 = .ok (.iconst 1, 1) := by decide +kernel
theorem dX14_areSame_16 : decode cX14_areSame 16 = .ok (.goto 4, 3) := by decide +kernel
theorem dX14_areSame_19 : decode cX14_areSame 19 = .ok (.iconst 0, 1) := by decide +kernel
theorem dX14_areSame_20 : decode cX14_areSame 20 = .ok (.istore 4, 2) := by decide +kernel
theorem dX14_areSame_22 : decode cX14_areSame 22 = .ok (.iconst 0, 1) := by decide +kernel
theorem dX14_areSame_23 : decode cX14_areSame 23 = .ok (.istore 5, 2) := by decide +kernel
theorem dX14_areSame_25 : decode cX14_areSame 25 = .ok (.iload 4, 2) := by decide +kernel
theorem dX14_areSame_27 : decode cX14_areSame 27 = .ok (.ifCond .eq 58, 3) := by decide +kernel
theorem dX14_areSame_30 : decode cX14_areSame 30 = .ok (.iload 5, 2) := by decide +kernel
theorem dX14_areSame_32 : decode cX14_areSame 32 = .ok (.aload_n 1, 1) := by decide +kernel
theorem dX14_areSame_33 : decode cX14_areSame 33 = .ok (.getfield 96, 3) := by decide +kernel
theorem dX14_areSame_36 : decode cX14_areSame 36 = .ok (.iload_n 2, 1) := by decide +kernel
theorem dX14_areSame_37 : decode cX14_areSame 37 = .ok (.iaload, 1) := by decide +kernel
theorem dX14_areSame_38 : decode cX14_areSame 38 = .ok (.if_icmp .ge 47, 3) := by decide +kernel
theorem dX14_areSame_41 : decode cX14_areSame 41 = .ok (.aload_n 0, 1) := by decide +kernel
theorem dX14_areSame_42 : decode cX14_areSame 42 = .ok (.getfield 9, 3) := by decide +kernel
theorem dX14_areSame_45 : decode cX14_areSame 45 = .ok (.aload_n 1, 1) := by decide +kernel
theorem dX14_areSame_46 : decode cX14_areSame 46 = .ok (.getfield 93, 3) := by decide +kernel
theorem dX14_areSame_49 : decode cX14_areSame 49 = .ok (.iload_n 2, 1) := by decide +kernel
theorem dX14_areSame_50 : decode cX14_areSame 50 = .ok (.iaload, 1) := by decide +kernel
theorem dX14_areSame_51 : decode cX14_areSame 51 = .ok (.iload 5, 2) := by decide +kernel
theorem dX14_areSame_53 : decode cX14_areSame 53 = .ok (.iadd, 1) := by decide +kernel
theorem dX14_areSame_54 : decode cX14_areSame 54 = .ok (.iaload, 1) := by decide +kernel
theorem dX14_areSame_55 : decode cX14_areSame 55 = .ok (.aload_n 0, 1) := by decide +kernel
theorem dX14_areSame_56 : decode cX14_areSame 56 = .ok (.getfield 9, 3) := by decide +kernel
theorem dX14_areSame_59 : decode cX14_areSame 59 = .ok (.aload_n 1, 1) := by decide +kernel
theorem dX14_areSame_60 : decode cX14_areSame 60 = .ok (.getfield 93, 3) := by decide +kernel
theorem dX14_areSame_63 : decode cX14_areSame 63 = .ok (.iload_n 3, 1) := by decide +kernel
theorem dX14_areSame_64 : decode cX14_areSame 64 = .ok (.iaload, 1) := by decide +kernel
theorem dX14_areSame_65 : decode cX14_areSame 65 = .ok (.iload 5, 2) := by decide +kernel
theorem dX14_areSame_67 : decode cX14_areSame 67 = .ok (.iadd, 1) := by decide +kernel
theorem dX14_areSame_68 : decode cX14_areSame 68 = .ok (.iaload, 1) := by decide +kernel
theorem dX14_areSame_69 : decode cX14_areSame 69 = .ok (.if_icmp .ne 7, 3) := by decide +kernel
theorem dX14_areSame_72 : decode cX14_areSame 72 = .ok (.iconst 1, 1) := by decide +kernel
theorem dX14_areSame_73 : decode cX14_areSame 73 = .ok (.goto 4, 3) := by decide +kernel
theorem dX14_areSame_76 : decode cX14_areSame 76 = .ok (.iconst 0, 1) := by decide +kernel
theorem dX14_areSame_77 : decode cX14_areSame 77 = .ok (.istore 4, 2) := by decide +kernel
theorem dX14_areSame_79 : decode cX14_areSame 79 = .ok (.iinc 5 1, 3) := by decide +kernel
theorem dX14_areSame_82 : decode cX14_areSame 82 = .ok (.goto (-57), 3) := by decide +kernel
theorem dX14_areSame_85 : decode cX14_areSame 85 = .ok (.iload 4, 2) := by decide +kernel
theorem dX14_areSame_87 : decode cX14_areSame 87 = .ok (.ireturn, 1) := by decide +kernel
theorem dX14_find_0 : decode cX14_find 0 = .ok (.iconst 0, 1) := by decide +kernel
theorem dX14_find_1 : decode cX14_find 1 = .ok (.istore 5, 2) := by decide +kernel
theorem dX14_find_3 : decode cX14_find 3 = .ok (.iload 5, 2) := by decide +kernel
theorem dX14_find_5 : decode cX14_find 5 = .ok (.iload_n 3, 1) := by decide +kernel
theorem dX14_find_6 : decode cX14_find 6 = .ok (.if_icmp .ge 26, 3) := by decide +kernel
theorem dX14_find_9 : decode cX14_find 9 = .ok (.aload_n 0, 1) := by decide +kernel
theorem dX14_find_10 : decode cX14_find 10 = .ok (.aload_n 1, 1) := by decide +kernel
theorem dX14_find_11 : decode cX14_find 11 = .ok (.aload_n 2, 1) := by decide +kernel
theorem dX14_find_12 : decode cX14_find 12 = .ok (.iload 5, 2) := by decide +kernel
theorem dX14_find_14 : decode cX14_find 14 = .ok (.iaload, 1) := by decide +kernel
theorem dX14_find_15 : decode cX14_find 15 = .ok (.iload 4, 2) := by decide +kernel
theorem dX14_find_17 : decode cX14_find 17 = .ok (.invokevirtual 156, 3) := by decide +kernel
theorem dX14_find_20 : decode cX14_find 20 = .ok (.ifCond .eq 6, 3) := by decide +kernel
theorem dX14_find_23 : decode cX14_find 23 = .ok (.iload 5, 2) := by decide +kernel
theorem dX14_find_25 : decode cX14_find 25 = .ok (.ireturn, 1) := by decide +kernel
theorem dX14_find_26 : decode cX14_find 26 = .ok (.iinc 5 1, 3) := by decide +kernel
theorem dX14_find_29 : decode cX14_find 29 = .ok (.goto (-26), 3) := by decide +kernel
theorem dX14_find_32 : decode cX14_find 32 = .ok (.iconst (-1), 1) := by decide +kernel
theorem dX14_find_33 : decode cX14_find 33 = .ok (.ireturn, 1) := by decide +kernel
theorem dX14_namesOf_0 : decode cX14_namesOf 0 = .ok (.iload_n 2, 1) := by decide +kernel
theorem dX14_namesOf_1 : decode cX14_namesOf 1 = .ok (.ifCond .ne 10, 3) := by decide +kernel
theorem dX14_namesOf_4 : decode cX14_namesOf 4 = .ok (.aload_n 1, 1) := by decide +kernel
theorem dX14_namesOf_5 : decode cX14_namesOf 5 = .ok (.getfield 159, 3) := by decide +kernel
theorem dX14_namesOf_8 : decode cX14_namesOf 8 = .ok (.goto 31, 3) := by decide +kernel
theorem dX14_namesOf_11 : decode cX14_namesOf 11 = .ok (.iload_n 2, 1) := by decide +kernel
theorem dX14_namesOf_12 : decode cX14_namesOf 12 = .ok (.iconst 2, 1) := by decide +kernel
theorem dX14_namesOf_13 : decode cX14_namesOf 13 = .ok (.if_icmp .ne 10, 3) := by decide +kernel
theorem dX14_namesOf_16 : decode cX14_namesOf 16 = .ok (.aload_n 1, 1) := by decide +kernel
theorem dX14_namesOf_17 : decode cX14_namesOf 17 = .ok (.getfield 162, 3) := by decide +kernel
theorem dX14_namesOf_20 : decode cX14_namesOf 20 = .ok (.goto 19, 3) := by decide +kernel
theorem dX14_namesOf_23 : decode cX14_namesOf 23 = .ok (.iload_n 2, 1) := by decide +kernel
theorem dX14_namesOf_24 : decode cX14_namesOf 24 = .ok (.iconst 5, 1) := by decide +kernel
theorem dX14_namesOf_25 : decode cX14_namesOf 25 = .ok (.if_icmp .ne 10, 3) := by decide +kernel
theorem dX14_namesOf_28 : decode cX14_namesOf 28 = .ok (.aload_n 1, 1) := by decide +kernel
theorem dX14_namesOf_29 : decode cX14_namesOf 29 = .ok (.getfield 165, 3) := by decide +kernel
theorem dX14_namesOf_32 : decode cX14_namesOf 32 = .ok (.goto 7, 3) := by decide +kernel
theorem dX14_namesOf_35 : decode cX14_namesOf 35 = .ok (.aload_n 1, 1) := by decide +kernel
theorem dX14_namesOf_36 : decode cX14_namesOf 36 = .ok (.getfield 168, 3) := by decide +kernel
theorem dX14_namesOf_39 : decode cX14_namesOf 39 = .ok (.areturn, 1) := by decide +kernel
theorem dX14_manyOf_0 : decode cX14_manyOf 0 = .ok (.iload_n 2, 1) := by decide +kernel
theorem dX14_manyOf_1 : decode cX14_manyOf 1 = .ok (.ifCond .ne 10, 3) := by decide +kernel
theorem dX14_manyOf_4 : decode cX14_manyOf 4 = .ok (.aload_n 1, 1) := by decide +kernel
theorem dX14_manyOf_5 : decode cX14_manyOf 5 = .ok (.getfield 171, 3) := by decide +kernel
theorem dX14_manyOf_8 : decode cX14_manyOf 8 = .ok (.goto 31, 3) := by decide +kernel
theorem dX14_manyOf_11 : decode cX14_manyOf 11 = .ok (.iload_n 2, 1) := by decide +kernel
theorem dX14_manyOf_12 : decode cX14_manyOf 12 = .ok (.iconst 2, 1) := by decide +kernel
