theorem dX1_init_14 : decode cX1_init 14 = .ok (.putfield 16, 3) := by decide +kernel
theorem dX1_init_17 : decode cX1_init 17 = .ok (.aload_n 0, 1) := by decide +kernel
theorem dX1_init_18 : decode cX1_init 18 = .ok (.new 9, 3) := by decide +kernel
theorem dX1_init_21 : decode cX1_init 21 = .ok (.dup, 1) := by decide +kernel
theorem dX1_init_22 : decode cX1_init 22 = .ok (.bipush 6, 2) := by decide +kernel
theorem dX1_init_24 : decode cX1_init 24 = .ok (.invokespecial 13, 3) := by decide +kernel
theorem dX1_init_27 : decode cX1_init 27 = .ok (.putfield 20, 3) := by decide +kernel
theorem dX1_init_30 : decode cX1_init 30 = .ok (.return_, 1) := by decide +kernel
theorem dX1_forget_0 : decode cX1_forget 0 = .ok (.aload_n 0, 1) := by decide +kernel
theorem dX1_forget_1 : decode cX1_forget 1 = .ok (.getfield 16, 3) := by decide +kernel
theorem dX1_forget_4 : decode cX1_forget 4 = .ok (.iconst 0, 1) := by decide +kernel
theorem dX1_forget_5 : decode cX1_forget 5 = .ok (.invokevirtual 23, 3) := by decide +kernel
theorem dX1_forget_8 : decode cX1_forget 8 = .ok (.return_, 1) := by decide +kernel
theorem dX1_copyFrom_0 : decode cX1_copyFrom 0 = .ok (.aload_n 0, 1) := by decide +kernel
theorem dX1_copyFrom_1 : decode cX1_copyFrom 1 = .ok (.getfield 16, 3) := by decide +kernel
theorem dX1_copyFrom_4 : decode cX1_copyFrom 4 = .ok (.aload_n 1, 1) := by decide +kernel
theorem dX1_copyFrom_5 : decode cX1_copyFrom 5 = .ok (.getfield 16, 3) := by decide +kernel
theorem dX1_copyFrom_8 : decode cX1_copyFrom 8 = .ok (.invokevirtual 26, 3) := by decide +kernel
theorem dX1_copyFrom_11 : decode cX1_copyFrom 11 = .ok (.return_, 1) := by decide +kernel
theorem dX1_between_0 : decode cX1_between 0 = .ok (.aload_n 0, 1) := by decide +kernel
theorem dX1_between_1 : decode cX1_between 1 = .ok (.getfield 16, 3) := by decide +kernel
theorem dX1_between_4 : decode cX1_between 4 = .ok (.iload_n 1, 1) := by decide +kernel
theorem dX1_between_5 : decode cX1_between 5 = .ok (.bipush 6, 2) := by decide +kernel
theorem dX1_between_7 : decode cX1_between 7 = .ok (.imul, 1) := by decide +kernel
theorem dX1_between_8 : decode cX1_between 8 = .ok (.iload_n 2, 1) := by decide +kernel
theorem dX1_between_9 : decode cX1_between 9 = .ok (.iadd, 1) := by decide +kernel
theorem dX1_between_10 : decode cX1_between 10 = .ok (.invokevirtual 30, 3) := by decide +kernel
theorem dX1_between_13 : decode cX1_between 13 = .ok (.ireturn, 1) := by decide +kernel
theorem dX1_grow_0 : decode cX1_grow 0 = .ok (.aload_n 0, 1) := by decide +kernel
theorem dX1_grow_1 : decode cX1_grow 1 = .ok (.getfield 16, 3) := by decide +kernel
theorem dX1_grow_4 : decode cX1_grow 4 = .ok (.iload_n 1, 1) := by decide +kernel
theorem dX1_grow_5 : decode cX1_grow 5 = .ok (.bipush 6, 2) := by decide +kernel
theorem dX1_grow_7 : decode cX1_grow 7 = .ok (.imul, 1) := by decide +kernel
theorem dX1_grow_8 : decode cX1_grow 8 = .ok (.iload_n 2, 1) := by decide +kernel
theorem dX1_grow_9 : decode cX1_grow 9 = .ok (.iadd, 1) := by decide +kernel
theorem dX1_grow_10 : decode cX1_grow 10 = .ok (.ldc 34, 2) := by decide +kernel
theorem dX1_grow_12 : decode cX1_grow 12 = .ok (.aload_n 0, 1) := by decide +kernel
theorem dX1_grow_13 : decode cX1_grow 13 = .ok (.getfield 16, 3) := by decide +kernel
theorem dX1_grow_16 : decode cX1_grow 16 = .ok (.iload_n 1, 1) := by decide +kernel
theorem dX1_grow_17 : decode cX1_grow 17 = .ok (.bipush 6, 2) := by decide +kernel
theorem dX1_grow_19 : decode cX1_grow 19 = .ok (.imul, 1) := by decide +kernel
theorem dX1_grow_20 : decode cX1_grow 20 = .ok (.iload_n 2, 1) := by decide +kernel
theorem dX1_grow_21 : decode cX1_grow 21 = .ok (.iadd, 1) := by decide +kernel
theorem dX1_grow_22 : decode cX1_grow 22 = .ok (.invokevirtual 30, 3) := by decide +kernel
theorem dX1_grow_25 : decode cX1_grow 25 = .ok (.iload_n 3, 1) := by decide +kernel
theorem dX1_grow_26 : decode cX1_grow 26 = .ok (.iadd, 1) := by decide +kernel
theorem dX1_grow_27 : decode cX1_grow 27 = .ok (.invokestatic 35, 3) := by decide +kernel
theorem dX1_grow_30 : decode cX1_grow 30 = .ok (.invokevirtual 41, 3) := by decide +kernel
theorem dX1_grow_33 : decode cX1_grow 33 = .ok (.return_, 1) := by decide +kernel
theorem dX1_growAll_0 : decode cX1_growAll 0 = .ok (.iconst 0, 1) := by decide +kernel
theorem dX1_growAll_1 : decode cX1_growAll 1 = .ok (.istore_n 1, 1) := by decide +kernel
theorem dX1_growAll_2 : decode cX1_growAll 2 = .ok (.iload_n 1, 1) := by decide +kernel
theorem dX1_growAll_3 : decode cX1_growAll 3 = .ok (.bipush 36, 2) := by decide +kernel
theorem dX1_growAll_5 : decode cX1_growAll 5 = .ok (.if_icmp .ge 44, 3) := by decide +kernel
theorem dX1_growAll_8 : decode cX1_growAll 8 = .ok (.aload_n 0, 1) := by decide +kernel
theorem dX1_growAll_9 : decode cX1_growAll 9 = .ok (.getfield 16, 3) := by decide +kernel
theorem dX1_growAll_12 : decode cX1_growAll 12 = .ok (.iload_n 1, 1) := by decide +kernel
theorem dX1_growAll_13 : decode cX1_growAll 13 = .ok (.invokevirtual 30, 3) := by decide +kernel
theorem dX1_growAll_16 : decode cX1_growAll 16 = .ok (.istore_n 2, 1) := by decide +kernel
theorem dX1_growAll_17 : decode cX1_growAll 17 = .ok (.iload_n 2, 1) := by decide +kernel
theorem dX1_growAll_18 : decode cX1_growAll 18 = .ok (.iconst 1, 1) := by decide +kernel
theorem dX1_growAll_19 : decode cX1_growAll 19 = .ok (.if_icmp .lt 24, 3) := by decide +kernel
theorem dX1_growAll_22 : decode cX1_growAll 22 = .ok (.aload_n 0, 1) := by decide +kernel
theorem dX1_growAll_23 : decode cX1_growAll 23 = .ok (.getfield 16, 3) := by decide +kernel
theorem dX1_growAll_26 : decode cX1_growAll 26 = .ok (.iload_n 1, 1) := by decide +kernel
theorem dX1_growAll_27 : decode cX1_growAll 27 = .ok (.ldc 34, 2) := by decide +kernel
theorem dX1_growAll_29 : decode cX1_growAll 29 = .ok (.iload_n 2, 1) := by decide +kernel
theorem dX1_growAll_30 : decode cX1_growAll 30 = .ok (.iload_n 2, 1) := by decide +kernel
theorem dX1_growAll_31 : decode cX1_growAll 31 = .ok (.bipush 20, 2) := by decide +kernel
theorem dX1_growAll_33 : decode cX1_growAll 33 = .ok (.idiv, 1) := by decide +kernel
theorem dX1_growAll_34 : decode cX1_growAll 34 = .ok (.iadd, 1) := by decide +kernel
theorem dX1_growAll_35 : decode cX1_growAll 35 = .ok (.iconst 1, 1) := by decide +kernel
theorem dX1_growAll_36 : decode cX1_growAll 36 = .ok (.iadd, 1) := by decide +kernel
theorem dX1_growAll_37 : decode cX1_growAll 37 = .ok (.invokestatic 35, 3) := by decide +kernel
theorem dX1_growAll_40 : decode cX1_growAll 40 = .ok (.invokevirtual 41, 3) := by decide +kernel
theorem dX1_growAll_43 : decode cX1_growAll 43 = .ok (.iinc 1 1, 3) := by decide +kernel
theorem dX1_growAll_46 : decode cX1_growAll 46 = .ok (.goto (-44), 3) := by decide +kernel
theorem dX1_growAll_49 : decode cX1_growAll 49 = .ok (.return_, 1) := by decide +kernel
theorem dX1_sumOf_0 : decode cX1_sumOf 0 = .ok (.iconst 0, 1) := by decide +kernel
theorem dX1_sumOf_1 : decode cX1_sumOf 1 = .ok (.istore_n 2, 1) := by decide +kernel
theorem dX1_sumOf_2 : decode cX1_sumOf 2 = .ok (.iconst 0, 1) := by decide +kernel
theorem dX1_sumOf_3 : decode cX1_sumOf 3 = .ok (.istore_n 3, 1) := by decide +kernel
theorem dX1_sumOf_4 : decode cX1_sumOf 4 = .ok (.iload_n 3, 1) := by decide +kernel
theorem dX1_sumOf_5 : decode cX1_sumOf 5 = .ok (.bipush 6, 2) := by decide +kernel
theorem dX1_sumOf_7 : decode cX1_sumOf 7 = .ok (.if_icmp .ge 25, 3) := by decide +kernel
theorem dX1_sumOf_10 : decode cX1_sumOf 10 = .ok (.iload_n 2, 1) := by decide +kernel
theorem dX1_sumOf_11 : decode cX1_sumOf 11 = .ok (.aload_n 0, 1) := by decide +kernel
theorem dX1_sumOf_12 : decode cX1_sumOf 12 = .ok (.getfield 16, 3) := by decide +kernel
theorem dX1_sumOf_15 : decode cX1_sumOf 15 = .ok (.iload_n 1, 1) := by decide +kernel
theorem dX1_sumOf_16 : decode cX1_sumOf 16 = .ok (.bipush 6, 2) := by decide +kernel
theorem dX1_sumOf_18 : decode cX1_sumOf 18 = .ok (.imul, 1) := by decide +kernel
theorem dX1_sumOf_19 : decode cX1_sumOf 19 = .ok (.iload_n 3, 1) := by decide +kernel
theorem dX1_sumOf_20 : decode cX1_sumOf 20 = .ok (.iadd, 1) := by decide +kernel
theorem dX1_sumOf_21 : decode cX1_sumOf 21 = .ok (.invokevirtual 30, 3) := by decide +kernel
theorem dX1_sumOf_24 : decode cX1_sumOf 24 = .ok (.iadd, 1) := by decide +kernel
theorem dX1_sumOf_25 : decode cX1_sumOf 25 = .ok (.istore_n 2, 1) := by decide +kernel
theorem dX1_sumOf_26 : decode cX1_sumOf 26 = .ok (.iinc 3 1, 3) := by decide +kernel
theorem dX1_sumOf_29 : decode cX1_sumOf 29 = .ok (.goto (-25), 3) := by decide +kernel
theorem dX1_sumOf_32 : decode cX1_sumOf 32 = .ok (.iload_n 2, 1) := by decide +kernel
theorem dX1_sumOf_33 : decode cX1_sumOf 33 = .ok (.ireturn, 1) := by decide +kernel
theorem dX1_sumOwedTo_0 : decode cX1_sumOwedTo 0 = .ok (.iconst 0, 1) := by decide +kernel
theorem dX1_sumOwedTo_1 : decode cX1_sumOwedTo 1 = .ok (.istore_n 2, 1) := by decide +kernel
theorem dX1_sumOwedTo_2 : decode cX1_sumOwedTo 2 = .ok (.iconst 0, 1) := by decide +kernel
theorem dX1_sumOwedTo_3 : decode cX1_sumOwedTo 3 = .ok (.istore_n 3, 1) := by decide +kernel
theorem dX1_sumOwedTo_4 : decode cX1_sumOwedTo 4 = .ok (.iload_n 3, 1) := by decide +kernel
theorem dX1_sumOwedTo_5 : decode cX1_sumOwedTo 5 = .ok (.bipush 6, 2) := by decide +kernel
theorem dX1_sumOwedTo_7 : decode cX1_sumOwedTo 7 = .ok (.if_icmp .ge 25, 3) := by decide +kernel
theorem dX1_sumOwedTo_10 : decode cX1_sumOwedTo 10 = .ok (.iload_n 2, 1) := by decide +kernel
theorem dX1_sumOwedTo_11 : decode cX1_sumOwedTo 11 = .ok (.aload_n 0, 1) := by decide +kernel
theorem dX1_sumOwedTo_12 : decode cX1_sumOwedTo 12 = .ok (.getfield 16, 3) := by decide +kernel
theorem dX1_sumOwedTo_15 : decode cX1_sumOwedTo 15 = .ok (.iload_n 3, 1) := by decide +kernel
theorem dX1_sumOwedTo_16 : decode cX1_sumOwedTo 16 = .ok (.bipush 6, 2) := by decide +kernel
theorem dX1_sumOwedTo_18 : decode cX1_sumOwedTo 18 = .ok (.imul, 1) := by decide +kernel
theorem dX1_sumOwedTo_19 : decode cX1_sumOwedTo 19 = .ok (.iload_n 1, 1) := by decide +kernel
theorem dX1_sumOwedTo_20 : decode cX1_sumOwedTo 20 = .ok (.iadd, 1) := by decide +kernel
theorem dX1_sumOwedTo_21 : decode cX1_sumOwedTo 21 = .ok (.invokevirtual 30, 3) := by decide +kernel
theorem dX1_sumOwedTo_24 : decode cX1_sumOwedTo 24 = .ok (.iadd, 1) := by decide +kernel
theorem dX1_sumOwedTo_25 : decode cX1_sumOwedTo 25 = .ok (.istore_n 2, 1) := by decide +kernel
theorem dX1_sumOwedTo_26 : decode cX1_sumOwedTo 26 = .ok (.iinc 3 1, 3) := by decide +kernel
theorem dX1_sumOwedTo_29 : decode cX1_sumOwedTo 29 = .ok (.goto (-25), 3) := by decide +kernel
theorem dX1_sumOwedTo_32 : decode cX1_sumOwedTo 32 = .ok (.iload_n 2, 1) := by decide +kernel
theorem dX1_sumOwedTo_33 : decode cX1_sumOwedTo 33 = .ok (.ireturn, 1) := by decide +kernel
theorem dX1_sumOfAll_0 : decode cX1_sumOfAll 0 = .ok (.aload_n 0, 1) := by decide +kernel
theorem dX1_sumOfAll_1 : decode cX1_sumOfAll 1 = .ok (.getfield 16, 3) := by decide +kernel
theorem dX1_sumOfAll_4 : decode cX1_sumOfAll 4 = .ok (.invokevirtual 45, 3) := by decide +kernel
theorem dX1_sumOfAll_7 : decode cX1_sumOfAll 7 = .ok (.ireturn, 1) := by decide +kernel
theorem dX1_fewestFromTo_0 : decode cX1_fewestFromTo 0 = .ok (.aload_n 0, 1) := by decide +kernel
theorem dX1_fewestFromTo_1 : decode cX1_fewestFromTo 1 = .ok (.getfield 20, 3) := by decide +kernel
theorem dX1_fewestFromTo_4 : decode cX1_fewestFromTo 4 = .ok (.iconst (-1), 1) := by decide +kernel
theorem dX1_fewestFromTo_5 : decode cX1_fewestFromTo 5 = .ok (.invokevirtual 23, 3) := by decide +kernel
theorem dX1_fewestFromTo_8 : decode cX1_fewestFromTo 8 = .ok (.aload_n 0, 1) := by decide +kernel
theorem dX1_fewestFromTo_9 : decode cX1_fewestFromTo 9 = .ok (.getfield 20, 3) := by decide +kernel
theorem dX1_fewestFromTo_12 : decode cX1_fewestFromTo 12 = .ok (.iload_n 1, 1) := by decide +kernel
theorem dX1_fewestFromTo_13 : decode cX1_fewestFromTo 13 = .ok (.iconst 0, 1) := by decide +kernel
theorem dX1_fewestFromTo_14 : decode cX1_fewestFromTo 14 = .ok (.invokevirtual 41, 3) := by decide +kernel
theorem dX1_fewestFromTo_17 : decode cX1_fewestFromTo 17 = .ok (.iconst 1, 1) := by decide +kernel
theorem dX1_fewestFromTo_18 : decode cX1_fewestFromTo 18 = .ok (.istore_n 3, 1) := by decide +kernel
theorem dX1_fewestFromTo_19 : decode cX1_fewestFromTo 19 = .ok (.iload_n 3, 1) := by decide +kernel
theorem dX1_fewestFromTo_20 : decode cX1_fewestFromTo 20 = .ok (.bipush 6, 2) := by decide +kernel
theorem dX1_fewestFromTo_22 : decode cX1_fewestFromTo 22 = .ok (.if_icmp .ge 14, 3) := by decide +kernel
theorem dX1_fewestFromTo_25 : decode cX1_fewestFromTo 25 = .ok (.aload_n 0, 1) := by decide +kernel
theorem dX1_fewestFromTo_26 : decode cX1_fewestFromTo 26 = .ok (.iload_n 3, 1) := by decide +kernel
theorem dX1_fewestFromTo_27 : decode cX1_fewestFromTo 27 = .ok (.invokevirtual 49, 3) := by decide +kernel
theorem dX1_fewestFromTo_30 : decode cX1_fewestFromTo 30 = .ok (.iinc 3 1, 3) := by decide +kernel
theorem dX1_fewestFromTo_33 : decode cX1_fewestFromTo 33 = .ok (.goto (-14), 3) := by decide +kernel
theorem dX1_fewestFromTo_36 : decode cX1_fewestFromTo 36 = .ok (.aload_n 0, 1) := by decide +kernel
theorem dX1_fewestFromTo_37 : decode cX1_fewestFromTo 37 = .ok (.getfield 20, 3) := by decide +kernel
theorem dX1_fewestFromTo_40 : decode cX1_fewestFromTo 40 = .ok (.iload_n 2, 1) := by decide +kernel
theorem dX1_fewestFromTo_41 : decode cX1_fewestFromTo 41 = .ok (.invokevirtual 30, 3) := by decide +kernel
theorem dX1_fewestFromTo_44 : decode cX1_fewestFromTo 44 = .ok (.ireturn, 1) := by decide +kernel
theorem dX1_reachBy_0 : decode cX1_reachBy 0 = .ok (.iconst 0, 1) := by decide +kernel
theorem dX1_reachBy_1 : decode cX1_reachBy 1 = .ok (.istore_n 2, 1) := by decide +kernel
theorem dX1_reachBy_2 : decode cX1_reachBy 2 = .ok (.iload_n 2, 1) := by decide +kernel
theorem dX1_reachBy_3 : decode cX1_reachBy 3 = .ok (.bipush 6, 2) := by decide +kernel
theorem dX1_reachBy_5 : decode cX1_reachBy 5 = .ok (.if_icmp .ge 66, 3) := by decide +kernel
theorem dX1_reachBy_8 : decode cX1_reachBy 8 = .ok (.iconst 0, 1) := by decide +kernel
theorem dX1_reachBy_9 : decode cX1_reachBy 9 = .ok (.istore_n 3, 1) := by decide +kernel
theorem dX1_reachBy_10 : decode cX1_reachBy 10 = .ok (.iload_n 3, 1) := by decide +kernel
theorem dX1_reachBy_11 : decode cX1_reachBy 11 = .ok (.bipush 6, 2) := by decide +kernel
theorem dX1_reachBy_13 : decode cX1_reachBy 13 = .ok (.if_icmp .ge 52, 3) := by decide +kernel
theorem dX1_reachBy_16 : decode cX1_reachBy 16 = .ok (.aload_n 0, 1) := by decide +kernel
theorem dX1_reachBy_17 : decode cX1_reachBy 17 = .ok (.getfield 20, 3) := by decide +kernel
theorem dX1_reachBy_20 : decode cX1_reachBy 20 = .ok (.iload_n 2, 1) := by decide +kernel
theorem dX1_reachBy_21 : decode cX1_reachBy 21 = .ok (.invokevirtual 30, 3) := by decide +kernel
theorem dX1_reachBy_24 : decode cX1_reachBy 24 = .ok (.iload_n 1, 1) := by decide +kernel
theorem dX1_reachBy_25 : decode cX1_reachBy 25 = .ok (.iconst 1, 1) := by decide +kernel
theorem dX1_reachBy_26 : decode cX1_reachBy 26 = .ok (.isub, 1) := by decide +kernel
theorem dX1_reachBy_27 : decode cX1_reachBy 27 = .ok (.if_icmp .ne 32, 3) := by decide +kernel
theorem dX1_reachBy_30 : decode cX1_reachBy 30 = .ok (.aload_n 0, 1) := by decide +kernel
theorem dX1_reachBy_31 : decode cX1_reachBy 31 = .ok (.getfield 20, 3) := by decide +kernel
theorem dX1_reachBy_34 : decode cX1_reachBy 34 = .ok (.iload_n 3, 1) := by decide +kernel
theorem dX1_reachBy_35 : decode cX1_reachBy 35 = .ok (.invokevirtual 30, 3) := by decide +kernel
theorem dX1_reachBy_38 : decode cX1_reachBy 38 = .ok (.ifCond .ge 21, 3) := by decide +kernel
theorem dX1_reachBy_41 : decode cX1_reachBy 41 = .ok (.aload_n 0, 1) := by decide +kernel
theorem dX1_reachBy_42 : decode cX1_reachBy 42 = .ok (.iload_n 2, 1) := by decide +kernel
theorem dX1_reachBy_43 : decode cX1_reachBy 43 = .ok (.iload_n 3, 1) := by decide +kernel
theorem dX1_reachBy_44 : decode cX1_reachBy 44 = .ok (.invokevirtual 52, 3) := by decide +kernel
theorem dX1_reachBy_47 : decode cX1_reachBy 47 = .ok (.ifCond .le 12, 3) := by decide +kernel
theorem dX1_reachBy_50 : decode cX1_reachBy 50 = .ok (.aload_n 0, 1) := by decide +kernel
theorem dX1_reachBy_51 : decode cX1_reachBy 51 = .ok (.getfield 20, 3) := by decide +kernel
theorem dX1_reachBy_54 : decode cX1_reachBy 54 = .ok (.iload_n 3, 1) := by decide +kernel
theorem dX1_reachBy_55 : decode cX1_reachBy 55 = .ok (.iload_n 1, 1) := by decide +kernel
theorem dX1_reachBy_56 : decode cX1_reachBy 56 = .ok (.invokevirtual 41, 3) := by decide +kernel
theorem dX1_reachBy_59 : decode cX1_reachBy 59 = .ok (.iinc 3 1, 3) := by decide +kernel
theorem dX1_reachBy_62 : decode cX1_reachBy 62 = .ok (.goto (-52), 3) := by decide +kernel
theorem dX1_reachBy_65 : decode cX1_reachBy 65 = .ok (.iinc 2 1, 3) := by decide +kernel
theorem dX1_reachBy_68 : decode cX1_reachBy 68 = .ok (.goto (-66), 3) := by decide +kernel
theorem dX1_reachBy_71 : decode cX1_reachBy 71 = .ok (.return_, 1) := by decide +kernel
theorem dX1_widestRing_0 : decode cX1_widestRing 0 = .ok (.iconst 0, 1) := by decide +kernel
theorem dX1_widestRing_1 : decode cX1_widestRing 1 = .ok (.istore_n 2, 1) := by decide +kernel
theorem dX1_widestRing_2 : decode cX1_widestRing 2 = .ok (.iload_n 2, 1) := by decide +kernel
theorem dX1_widestRing_3 : decode cX1_widestRing 3 = .ok (.bipush 6, 2) := by decide +kernel
theorem dX1_widestRing_5 : decode cX1_widestRing 5 = .ok (.if_icmp .ge 23, 3) := by decide +kernel
theorem dX1_widestRing_8 : decode cX1_widestRing 8 = .ok (.aload_n 0, 1) := by decide +kernel
theorem dX1_widestRing_9 : decode cX1_widestRing 9 = .ok (.getfield 20, 3) := by decide +kernel
theorem dX1_widestRing_12 : decode cX1_widestRing 12 = .ok (.iload_n 2, 1) := by decide +kernel
theorem dX1_widestRing_13 : decode cX1_widestRing 13 = .ok (.aload_n 0, 1) := by decide +kernel
theorem dX1_widestRing_14 : decode cX1_widestRing 14 = .ok (.iload_n 1, 1) := by decide +kernel
theorem dX1_widestRing_15 : decode cX1_widestRing 15 = .ok (.iload_n 2, 1) := by decide +kernel
theorem dX1_widestRing_16 : decode cX1_widestRing 16 = .ok (.invokevirtual 52, 3) := by decide +kernel
theorem dX1_widestRing_19 : decode cX1_widestRing 19 = .ok (.invokevirtual 41, 3) := by decide +kernel
theorem dX1_widestRing_22 : decode cX1_widestRing 22 = .ok (.iinc 2 1, 3) := by decide +kernel
theorem dX1_widestRing_25 : decode cX1_widestRing 25 = .ok (.goto (-23), 3) := by decide +kernel
theorem dX1_widestRing_28 : decode cX1_widestRing 28 = .ok (.iconst 2, 1) := by decide +kernel
theorem dX1_widestRing_29 : decode cX1_widestRing 29 = .ok (.istore_n 2, 1) := by decide +kernel
theorem dX1_widestRing_30 : decode cX1_widestRing 30 = .ok (.iload_n 2, 1) := by decide +kernel
theorem dX1_widestRing_31 : decode cX1_widestRing 31 = .ok (.bipush 6, 2) := by decide +kernel
theorem dX1_widestRing_33 : decode cX1_widestRing 33 = .ok (.if_icmp .ge 13, 3) := by decide +kernel
theorem dX1_widestRing_36 : decode cX1_widestRing 36 = .ok (.aload_n 0, 1) := by decide +kernel
theorem dX1_widestRing_37 : decode cX1_widestRing 37 = .ok (.invokevirtual 55, 3) := by decide +kernel
theorem dX1_widestRing_40 : decode cX1_widestRing 40 = .ok (.iinc 2 1, 3) := by decide +kernel
theorem dX1_widestRing_43 : decode cX1_widestRing 43 = .ok (.goto (-13), 3) := by decide +kernel
theorem dX1_widestRing_46 : decode cX1_widestRing 46 = .ok (.iconst 0, 1) := by decide +kernel
theorem dX1_widestRing_47 : decode cX1_widestRing 47 = .ok (.istore_n 2, 1) := by decide +kernel
theorem dX1_widestRing_48 : decode cX1_widestRing 48 = .ok (.iconst 0, 1) := by decide +kernel
theorem dX1_widestRing_49 : decode cX1_widestRing 49 = .ok (.istore_n 3, 1) := by decide +kernel
theorem dX1_widestRing_50 : decode cX1_widestRing 50 = .ok (.iload_n 3, 1) := by decide +kernel
theorem dX1_widestRing_51 : decode cX1_widestRing 51 = .ok (.bipush 6, 2) := by decide +kernel
theorem dX1_widestRing_53 : decode cX1_widestRing 53 = .ok (.if_icmp .ge 31, 3) := by decide +kernel
theorem dX1_widestRing_56 : decode cX1_widestRing 56 = .ok (.iload_n 2, 1) := by decide +kernel
theorem dX1_widestRing_57 : decode cX1_widestRing 57 = .ok (.aload_n 0, 1) := by decide +kernel
theorem dX1_widestRing_58 : decode cX1_widestRing 58 = .ok (.getfield 20, 3) := by decide +kernel
theorem dX1_widestRing_61 : decode cX1_widestRing 61 = .ok (.iload_n 3, 1) := by decide +kernel
theorem dX1_widestRing_62 : decode cX1_widestRing 62 = .ok (.invokevirtual 30, 3) := by decide +kernel
theorem dX1_widestRing_65 : decode cX1_widestRing 65 = .ok (.aload_n 0, 1) := by decide +kernel
theorem dX1_widestRing_66 : decode cX1_widestRing 66 = .ok (.iload_n 3, 1) := by decide +kernel
theorem dX1_widestRing_67 : decode cX1_widestRing 67 = .ok (.iload_n 1, 1) := by decide +kernel
theorem dX1_widestRing_68 : decode cX1_widestRing 68 = .ok (.invokevirtual 52, 3) := by decide +kernel
theorem dX1_widestRing_71 : decode cX1_widestRing 71 = .ok (.invokestatic 35, 3) := by decide +kernel
theorem dX1_widestRing_74 : decode cX1_widestRing 74 = .ok (.invokestatic 58, 3) := by decide +kernel
theorem dX1_widestRing_77 : decode cX1_widestRing 77 = .ok (.istore_n 2, 1) := by decide +kernel
theorem dX1_widestRing_78 : decode cX1_widestRing 78 = .ok (.iinc 3 1, 3) := by decide +kernel
theorem dX1_widestRing_81 : decode cX1_widestRing 81 = .ok (.goto (-31), 3) := by decide +kernel
theorem dX1_widestRing_84 : decode cX1_widestRing 84 = .ok (.iload_n 2, 1) := by decide +kernel
theorem dX1_widestRing_85 : decode cX1_widestRing 85 = .ok (.ireturn, 1) := by decide +kernel
theorem dX1_widen_0 : decode cX1_widen 0 = .ok (.iconst 0, 1) := by decide +kernel
theorem dX1_widen_1 : decode cX1_widen 1 = .ok (.istore_n 1, 1) := by decide +kernel
theorem dX1_widen_2 : decode cX1_widen 2 = .ok (.iload_n 1, 1) := by decide +kernel
theorem dX1_widen_3 : decode cX1_widen 3 = .ok (.bipush 6, 2) := by decide +kernel
theorem dX1_widen_5 : decode cX1_widen 5 = .ok (.if_icmp .ge 61, 3) := by decide +kernel
theorem dX1_widen_8 : decode cX1_widen 8 = .ok (.iconst 0, 1) := by decide +kernel
theorem dX1_widen_9 : decode cX1_widen 9 = .ok (.istore_n 2, 1) := by decide +kernel
theorem dX1_widen_10 : decode cX1_widen 10 = .ok (.iload_n 2, 1) := by decide +kernel
theorem dX1_widen_11 : decode cX1_widen 11 = .ok (.bipush 6, 2) := by decide +kernel
theorem dX1_widen_13 : decode cX1_widen 13 = .ok (.if_icmp .ge 47, 3) := by decide +kernel
theorem dX1_widen_16 : decode cX1_widen 16 = .ok (.aload_n 0, 1) := by decide +kernel
theorem dX1_widen_17 : decode cX1_widen 17 = .ok (.getfield 20, 3) := by decide +kernel
theorem dX1_widen_20 : decode cX1_widen 20 = .ok (.iload_n 1, 1) := by decide +kernel
theorem dX1_widen_21 : decode cX1_widen 21 = .ok (.invokevirtual 30, 3) := by decide +kernel
theorem dX1_widen_24 : decode cX1_widen 24 = .ok (.aload_n 0, 1) := by decide +kernel
theorem dX1_widen_25 : decode cX1_widen 25 = .ok (.iload_n 1, 1) := by decide +kernel
theorem dX1_widen_26 : decode cX1_widen 26 = .ok (.iload_n 2, 1) := by decide +kernel
theorem dX1_widen_27 : decode cX1_widen 27 = .ok (.invokevirtual 52, 3) := by decide +kernel
theorem dX1_widen_30 : decode cX1_widen 30 = .ok (.invokestatic 35, 3) := by decide +kernel
theorem dX1_widen_33 : decode cX1_widen 33 = .ok (.istore_n 3, 1) := by decide +kernel
theorem dX1_widen_34 : decode cX1_widen 34 = .ok (.aload_n 0, 1) := by decide +kernel
theorem dX1_widen_35 : decode cX1_widen 35 = .ok (.getfield 20, 3) := by decide +kernel
theorem dX1_widen_38 : decode cX1_widen 38 = .ok (.iload_n 2, 1) := by decide +kernel
theorem dX1_widen_39 : decode cX1_widen 39 = .ok (.aload_n 0, 1) := by decide +kernel
theorem dX1_widen_40 : decode cX1_widen 40 = .ok (.getfield 20, 3) := by decide +kernel
theorem dX1_widen_43 : decode cX1_widen 43 = .ok (.iload_n 2, 1) := by decide +kernel
theorem dX1_widen_44 : decode cX1_widen 44 = .ok (.invokevirtual 30, 3) := by decide +kernel
theorem dX1_widen_47 : decode cX1_widen 47 = .ok (.iload_n 3, 1) := by decide +kernel
theorem dX1_widen_48 : decode cX1_widen 48 = .ok (.invokestatic 58, 3) := by decide +kernel
theorem dX1_widen_51 : decode cX1_widen 51 = .ok (.invokevirtual 41, 3) := by decide +kernel
theorem dX1_widen_54 : decode cX1_widen 54 = .ok (.iinc 2 1, 3) := by decide +kernel
theorem dX1_widen_57 : decode cX1_widen 57 = .ok (.goto (-47), 3) := by decide +kernel
theorem dX1_widen_60 : decode cX1_widen 60 = .ok (.iinc 1 1, 3) := by decide +kernel
theorem dX1_widen_63 : decode cX1_widen 63 = .ok (.goto (-61), 3) := by decide +kernel
theorem dX1_widen_66 : decode cX1_widen 66 = .ok (.return_, 1) := by decide +kernel
theorem dX10_init_0 : decode cX10_init 0 = .ok (.aload_n 0, 1) := by decide +kernel
theorem dX10_init_1 : decode cX10_init 1 = .ok (.invokespecial 1, 3) := by decide +kernel
theorem dX10_init_4 : decode cX10_init 4 = .ok (.aload_n 0, 1) := by decide +kernel
theorem dX10_init_5 : decode cX10_init 5 = .ok (.aload_n 1, 1) := by decide +kernel
theorem dX10_init_6 : decode cX10_init 6 = .ok (.putfield 7, 3) := by decide +kernel
theorem dX10_init_9 : decode cX10_init 9 = .ok (.aload_n 0, 1) := by decide +kernel
theorem dX10_init_10 : decode cX10_init 10 = .ok (.new 13, 3) := by decide +kernel
theorem dX10_init_13 : decode cX10_init 13 = .ok (.dup, 1) := by decide +kernel
theorem dX10_init_14 : decode cX10_init 14 = .ok (.sipush 401, 3) := by decide +kernel
theorem dX10_init_17 : decode cX10_init 17 = .ok (.invokespecial 15, 3) := by decide +kernel
theorem dX10_init_20 : decode cX10_init 20 = .ok (.putfield 18, 3) := by decide +kernel
theorem dX10_init_23 : decode cX10_init 23 = .ok (.aload_n 0, 1) := by decide +kernel
theorem dX10_init_24 : decode cX10_init 24 = .ok (.new 13, 3) := by decide +kernel
theorem dX10_init_27 : decode cX10_init 27 = .ok (.dup, 1) := by decide +kernel
theorem dX10_init_28 : decode cX10_init 28 = .ok (.sipush 401, 3) := by decide +kernel
theorem dX10_init_31 : decode cX10_init 31 = .ok (.invokespecial 15, 3) := by decide +kernel
theorem dX10_init_34 : decode cX10_init 34 = .ok (.putfield 21, 3) := by decide +kernel
theorem dX10_init_37 : decode cX10_init 37 = .ok (.aload_n 0, 1) := by decide +kernel
theorem dX10_init_38 : decode cX10_init 38 = .ok (.new 13, 3) := by decide +kernel
theorem dX10_init_41 : decode cX10_init 41 = .ok (.dup, 1) := by decide +kernel
theorem dX10_init_42 : decode cX10_init 42 = .ok (.sipush 401, 3) := by decide +kernel
theorem dX10_init_45 : decode cX10_init 45 = .ok (.invokespecial 15, 3) := by decide +kernel
theorem dX10_init_48 : decode cX10_init 48 = .ok (.putfield 24, 3) := by decide +kernel
theorem dX10_init_51 : decode cX10_init 51 = .ok (.aload_n 0, 1) := by decide +kernel
theorem dX10_init_52 : decode cX10_init 52 = .ok (.new 13, 3) := by decide +kernel
theorem dX10_init_55 : decode cX10_init 55 = .ok (.dup, 1) := by decide +kernel
theorem dX10_init_56 : decode cX10_init 56 = .ok (.sipush 401, 3) := by decide +kernel
theorem dX10_init_59 : decode cX10_init 59 = .ok (.invokespecial 15, 3) := by decide +kernel
theorem dX10_init_62 : decode cX10_init 62 = .ok (.putfield 27, 3) := by decide +kernel
theorem dX10_init_65 : decode cX10_init 65 = .ok (.aload_n 0, 1) := by decide +kernel
theorem dX10_init_66 : decode cX10_init 66 = .ok (.iconst 0, 1) := by decide +kernel
theorem dX10_init_67 : decode cX10_init 67 = .ok (.putfield 30, 3) := by decide +kernel
theorem dX10_init_70 : decode cX10_init 70 = .ok (.aload_n 0, 1) := by decide +kernel
theorem dX10_init_71 : decode cX10_init 71 = .ok (.iconst 0, 1) := by decide +kernel
theorem dX10_init_72 : decode cX10_init 72 = .ok (.putfield 34, 3) := by decide +kernel
theorem dX10_init_75 : decode cX10_init 75 = .ok (.return_, 1) := by decide +kernel
theorem dX10_scan_0 : decode cX10_scan 0 = .ok (.aload_n 0, 1) := by decide +kernel
theorem dX10_scan_1 : decode cX10_scan 1 = .ok (.iload_n 1, 1) := by decide +kernel
theorem dX10_scan_2 : decode cX10_scan 2 = .ok (.putfield 30, 3) := by decide +kernel
theorem dX10_scan_5 : decode cX10_scan 5 = .ok (.aload_n 0, 1) := by decide +kernel
theorem dX10_scan_6 : decode cX10_scan 6 = .ok (.iconst 0, 1) := by decide +kernel
theorem dX10_scan_7 : decode cX10_scan 7 = .ok (.putfield 34, 3) := by decide +kernel
theorem dX10_scan_10 : decode cX10_scan 10 = .ok (.aload_n 0, 1) := by decide +kernel
theorem dX10_scan_11 : decode cX10_scan 11 = .ok (.iconst 0, 1) := by decide +kernel
theorem dX10_scan_12 : decode cX10_scan 12 = .ok (.invokevirtual 37, 3) := by decide +kernel
theorem dX10_scan_15 : decode cX10_scan 15 = .ok (.istore_n 2, 1) := by decide +kernel
theorem dX10_scan_16 : decode cX10_scan 16 = .ok (.iconst 0, 1) := by decide +kernel
theorem dX10_scan_17 : decode cX10_scan 17 = .ok (.istore_n 3, 1) := by decide +kernel
theorem dX10_scan_18 : decode cX10_scan 18 = .ok (.iload_n 3, 1) := by decide +kernel
theorem dX10_scan_19 : decode cX10_scan 19 = .ok (.sipush 400, 3) := by decide +kernel
theorem dX10_scan_22 : decode cX10_scan 22 = .ok (.if_icmp .ge 42, 3) := by decide +kernel
theorem dX10_scan_25 : decode cX10_scan 25 = .ok (.iload_n 2, 1) := by decide +kernel
theorem dX10_scan_26 : decode cX10_scan 26 = .ok (.iload_n 1, 1) := by decide +kernel
theorem dX10_scan_27 : decode cX10_scan 27 = .ok (.if_icmp .ge 37, 3) := by decide +kernel
theorem dX10_scan_30 : decode cX10_scan 30 = .ok (.aload_n 0, 1) := by decide +kernel
theorem dX10_scan_31 : decode cX10_scan 31 = .ok (.iload_n 2, 1) := by decide +kernel
theorem dX10_scan_32 : decode cX10_scan 32 = .ok (.invokevirtual 41, 3) := by decide +kernel
theorem dX10_scan_35 : decode cX10_scan 35 = .ok (.ifCond .eq 29, 3) := by decide +kernel
theorem dX10_scan_38 : decode cX10_scan 38 = .ok (.aload_n 0, 1) := by decide +kernel
theorem dX10_scan_39 : decode cX10_scan 39 = .ok (.iload_n 2, 1) := by decide +kernel
theorem dX10_scan_40 : decode cX10_scan 40 = .ok (.aload_n 0, 1) := by decide +kernel
theorem dX10_scan_41 : decode cX10_scan 41 = .ok (.getfield 24, 3) := by decide +kernel
theorem dX10_scan_44 : decode cX10_scan 44 = .ok (.aload_n 0, 1) := by decide +kernel
theorem dX10_scan_45 : decode cX10_scan 45 = .ok (.getfield 34, 3) := by decide +kernel
theorem dX10_scan_48 : decode cX10_scan 48 = .ok (.iconst 1, 1) := by decide +kernel
theorem dX10_scan_49 : decode cX10_scan 49 = .ok (.isub, 1) := by decide +kernel
theorem dX10_scan_50 : decode cX10_scan 50 = .ok (.invokevirtual 45, 3) := by decide +kernel
theorem dX10_scan_53 : decode cX10_scan 53 = .ok (.iadd, 1) := by decide +kernel
theorem dX10_scan_54 : decode cX10_scan 54 = .ok (.invokevirtual 37, 3) := by decide +kernel
theorem dX10_scan_57 : decode cX10_scan 57 = .ok (.istore_n 2, 1) := by decide +kernel
theorem dX10_scan_58 : decode cX10_scan 58 = .ok (.iinc 3 1, 3) := by decide +kernel
theorem dX10_scan_61 : decode cX10_scan 61 = .ok (.goto (-43), 3) := by decide +kernel
theorem dX10_scan_64 : decode cX10_scan 64 = .ok (.aload_n 0, 1) := by decide +kernel
theorem dX10_scan_65 : decode cX10_scan 65 = .ok (.iload_n 2, 1) := by decide +kernel
theorem dX10_scan_66 : decode cX10_scan 66 = .ok (.iload_n 1, 1) := by decide +kernel
theorem dX10_scan_67 : decode cX10_scan 67 = .ok (.if_icmp .ge 8, 3) := by decide +kernel
theorem dX10_scan_70 : decode cX10_scan 70 = .ok (.bipush 50, 2) := by decide +kernel
theorem dX10_scan_72 : decode cX10_scan 72 = .ok (.goto 5, 3) := by decide +kernel
theorem dX10_scan_75 : decode cX10_scan 75 = .ok (.bipush 49, 2) := by decide +kernel
theorem dX10_scan_77 : decode cX10_scan 77 = .ok (.iload_n 2, 1) := by decide +kernel
theorem dX10_scan_78 : decode cX10_scan 78 = .ok (.iconst 0, 1) := by decide +kernel
theorem dX10_scan_79 : decode cX10_scan 79 = .ok (.iconst 0, 1) := by decide +kernel
theorem dX10_scan_80 : decode cX10_scan 80 = .ok (.invokevirtual 50, 3) := by decide +kernel
theorem dX10_scan_83 : decode cX10_scan 83 = .ok (.return_, 1) := by decide +kernel
theorem dX10_behindBlanks_0 : decode cX10_behindBlanks 0 = .ok (.iload_n 1, 1) := by decide +kernel
theorem dX10_behindBlanks_1 : decode cX10_behindBlanks 1 = .ok (.istore_n 2, 1) := by decide +kernel
theorem dX10_behindBlanks_2 : decode cX10_behindBlanks 2 = .ok (.iload_n 2, 1) := by decide +kernel
theorem dX10_behindBlanks_3 : decode cX10_behindBlanks 3 = .ok (.aload_n 0, 1) := by decide +kernel
theorem dX10_behindBlanks_4 : decode cX10_behindBlanks 4 = .ok (.getfield 30, 3) := by decide +kernel
theorem dX10_behindBlanks_7 : decode cX10_behindBlanks 7 = .ok (.if_icmp .ge 35, 3) := by decide +kernel
theorem dX10_behindBlanks_10 : decode cX10_behindBlanks 10 = .ok (.aload_n 0, 1) := by decide +kernel
theorem dX10_behindBlanks_11 : decode cX10_behindBlanks 11 = .ok (.getfield 7, 3) := by decide +kernel
theorem dX10_behindBlanks_14 : decode cX10_behindBlanks 14 = .ok (.iload_n 2, 1) := by decide +kernel
theorem dX10_behindBlanks_15 : decode cX10_behindBlanks 15 = .ok (.invokevirtual 45, 3) := by decide +kernel
theorem dX10_behindBlanks_18 : decode cX10_behindBlanks 18 = .ok (.bipush 32, 2) := by decide +kernel
theorem dX10_behindBlanks_20 : decode cX10_behindBlanks 20 = .ok (.if_icmp .eq 16, 3) := by decide +kernel
theorem dX10_behindBlanks_23 : decode cX10_behindBlanks 23 = .ok (.aload_n 0, 1) := by decide +kernel
theorem dX10_behindBlanks_24 : decode cX10_behindBlanks 24 = .ok (.getfield 7, 3) := by decide +kernel
theorem dX10_behindBlanks_27 : decode cX10_behindBlanks 27 = .ok (.iload_n 2, 1) := by decide +kernel
theorem dX10_behindBlanks_28 : decode cX10_behindBlanks 28 = .ok (.invokevirtual 45, 3) := by decide +kernel
theorem dX10_behindBlanks_31 : decode cX10_behindBlanks 31 = .ok (.bipush 10, 2) := by decide +kernel
theorem dX10_behindBlanks_33 : decode cX10_behindBlanks 33 = .ok (.if_icmp .ne 9, 3) := by decide +kernel
theorem dX10_behindBlanks_36 : decode cX10_behindBlanks 36 = .ok (.iinc 2 1, 3) := by decide +kernel
theorem dX10_behindBlanks_39 : decode cX10_behindBlanks 39 = .ok (.goto (-37), 3) := by decide +kernel
theorem dX10_behindBlanks_42 : decode cX10_behindBlanks 42 = .ok (.iload_n 2, 1) := by decide +kernel
theorem dX10_behindBlanks_43 : decode cX10_behindBlanks 43 = .ok (.ireturn, 1) := by decide +kernel
theorem dX10_reads_0 : decode cX10_reads 0 = .ok (.aload_n 0, 1) := by decide +kernel
theorem dX10_reads_1 : decode cX10_reads 1 = .ok (.getfield 7, 3) := by decide +kernel
theorem dX10_reads_4 : decode cX10_reads 4 = .ok (.iload_n 1, 1) := by decide +kernel
theorem dX10_reads_5 : decode cX10_reads 5 = .ok (.invokevirtual 45, 3) := by decide +kernel
theorem dX10_reads_8 : decode cX10_reads 8 = .ok (.istore_n 2, 1) := by decide +kernel
theorem dX10_reads_9 : decode cX10_reads 9 = .ok (.iload_n 2, 1) := by decide +kernel
theorem dX10_reads_10 : decode cX10_reads 10 = .ok (.invokestatic 54, 3) := by decide +kernel
theorem dX10_reads_13 : decode cX10_reads 13 = .ok (.ifCond .eq 9, 3) := by decide +kernel
theorem dX10_reads_16 : decode cX10_reads 16 = .ok (.aload_n 0, 1) := by decide +kernel
theorem dX10_reads_17 : decode cX10_reads 17 = .ok (.iload_n 1, 1) := by decide +kernel
theorem dX10_reads_18 : decode cX10_reads 18 = .ok (.invokevirtual 57, 3) := by decide +kernel
theorem dX10_reads_21 : decode cX10_reads 21 = .ok (.ireturn, 1) := by decide +kernel
theorem dX10_reads_22 : decode cX10_reads 22 = .ok (.iload_n 2, 1) := by decide +kernel
theorem dX10_reads_23 : decode cX10_reads 23 = .ok (.invokestatic 60, 3) := by decide +kernel
theorem dX10_reads_26 : decode cX10_reads 26 = .ok (.ifCond .eq 11, 3) := by decide +kernel
theorem dX10_reads_29 : decode cX10_reads 29 = .ok (.aload_n 0, 1) := by decide +kernel
theorem dX10_reads_30 : decode cX10_reads 30 = .ok (.iload_n 1, 1) := by decide +kernel
theorem dX10_reads_31 : decode cX10_reads 31 = .ok (.invokevirtual 63, 3) := by decide +kernel
theorem dX10_reads_34 : decode cX10_reads 34 = .ok (.goto 9, 3) := by decide +kernel
theorem dX10_reads_37 : decode cX10_reads 37 = .ok (.aload_n 0, 1) := by decide +kernel
theorem dX10_reads_38 : decode cX10_reads 38 = .ok (.iload_n 1, 1) := by decide +kernel
theorem dX10_reads_39 : decode cX10_reads 39 = .ok (.iload_n 2, 1) := by decide +kernel
theorem dX10_reads_40 : decode cX10_reads 40 = .ok (.invokevirtual 66, 3) := by decide +kernel
theorem dX10_reads_43 : decode cX10_reads 43 = .ok (.ireturn, 1) := by decide +kernel
theorem dX10_readsWord_0 : decode cX10_readsWord 0 = .ok (.iload_n 1, 1) := by decide +kernel
theorem dX10_readsWord_1 : decode cX10_readsWord 1 = .ok (.iconst 1, 1) := by decide +kernel
theorem dX10_readsWord_2 : decode cX10_readsWord 2 = .ok (.iadd, 1) := by decide +kernel
theorem dX10_readsWord_3 : decode cX10_readsWord 3 = .ok (.istore_n 2, 1) := by decide +kernel
theorem dX10_readsWord_4 : decode cX10_readsWord 4 = .ok (.iload_n 2, 1) := by decide +kernel
theorem dX10_readsWord_5 : decode cX10_readsWord 5 = .ok (.aload_n 0, 1) := by decide +kernel
theorem dX10_readsWord_6 : decode cX10_readsWord 6 = .ok (.getfield 30, 3) := by decide +kernel
theorem dX10_readsWord_9 : decode cX10_readsWord 9 = .ok (.if_icmp .ge 37, 3) := by decide +kernel
theorem dX10_readsWord_12 : decode cX10_readsWord 12 = .ok (.aload_n 0, 1) := by decide +kernel
theorem dX10_readsWord_13 : decode cX10_readsWord 13 = .ok (.getfield 7, 3) := by decide +kernel
theorem dX10_readsWord_16 : decode cX10_readsWord 16 = .ok (.iload_n 2, 1) := by decide +kernel
theorem dX10_readsWord_17 : decode cX10_readsWord 17 = .ok (.invokevirtual 45, 3) := by decide +kernel
theorem dX10_readsWord_20 : decode cX10_readsWord 20 = .ok (.invokestatic 54, 3) := by decide +kernel
theorem dX10_readsWord_23 : decode cX10_readsWord 23 = .ok (.ifCond .ne 17, 3) := by decide +kernel
theorem dX10_readsWord_26 : decode cX10_readsWord 26 = .ok (.aload_n 0, 1) := by decide +kernel
theorem dX10_readsWord_27 : decode cX10_readsWord 27 = .ok (.getfield 7, 3) := by decide +kernel
theorem dX10_readsWord_30 : decode cX10_readsWord 30 = .ok (.iload_n 2, 1) := by decide +kernel
theorem dX10_readsWord_31 : decode cX10_readsWord 31 = .ok (.invokevirtual 45, 3) := by decide +kernel
theorem dX10_readsWord_34 : decode cX10_readsWord 34 = .ok (.invokestatic 60, 3) := by decide +kernel
theorem dX10_readsWord_37 : decode cX10_readsWord 37 = .ok (.ifCond .eq 9, 3) := by decide +kernel
theorem dX10_readsWord_40 : decode cX10_readsWord 40 = .ok (.iinc 2 1, 3) := by decide +kernel
theorem dX10_readsWord_43 : decode cX10_readsWord 43 = .ok (.goto (-39), 3) := by decide +kernel
theorem dX10_readsWord_46 : decode cX10_readsWord 46 = .ok (.iload_n 2, 1) := by decide +kernel
theorem dX10_readsWord_47 : decode cX10_readsWord 47 = .ok (.iload_n 1, 1) := by decide +kernel
theorem dX10_readsWord_48 : decode cX10_readsWord 48 = .ok (.isub, 1) := by decide +kernel
theorem dX10_readsWord_49 : decode cX10_readsWord 49 = .ok (.bipush 10, 2) := by decide +kernel
theorem dX10_readsWord_51 : decode cX10_readsWord 51 = .ok (.if_icmp .le 5, 3) := by decide +kernel
theorem dX10_readsWord_54 : decode cX10_readsWord 54 = .ok (.iconst 0, 1) := by decide +kernel
theorem dX10_readsWord_55 : decode cX10_readsWord 55 = .ok (.ireturn, 1) := by decide +kernel
theorem dX10_readsWord_56 : decode cX10_readsWord 56 = .ok (.aload_n 0, 1) := by decide +kernel
theorem dX10_readsWord_57 : decode cX10_readsWord 57 = .ok (.iload_n 1, 1) := by decide +kernel
theorem dX10_readsWord_58 : decode cX10_readsWord 58 = .ok (.iload_n 2, 1) := by decide +kernel
theorem dX10_readsWord_59 : decode cX10_readsWord 59 = .ok (.iload_n 1, 1) := by decide +kernel
theorem dX10_readsWord_60 : decode cX10_readsWord 60 = .ok (.isub, 1) := by decide +kernel
theorem dX10_readsWord_61 : decode cX10_readsWord 61 = .ok (.invokevirtual 70, 3) := by decide +kernel
theorem dX10_readsWord_64 : decode cX10_readsWord 64 = .ok (.istore_n 3, 1) := by decide +kernel
theorem dX10_readsWord_65 : decode cX10_readsWord 65 = .ok (.aload_n 0, 1) := by decide +kernel
theorem dX10_readsWord_66 : decode cX10_readsWord 66 = .ok (.iload_n 3, 1) := by decide +kernel
theorem dX10_readsWord_67 : decode cX10_readsWord 67 = .ok (.iload_n 1, 1) := by decide +kernel
theorem dX10_readsWord_68 : decode cX10_readsWord 68 = .ok (.iload_n 2, 1) := by decide +kernel
theorem dX10_readsWord_69 : decode cX10_readsWord 69 = .ok (.iload_n 1, 1) := by decide +kernel
theorem dX10_readsWord_70 : decode cX10_readsWord 70 = .ok (.isub, 1) := by decide +kernel
theorem dX10_readsWord_71 : decode cX10_readsWord 71 = .ok (.iload_n 3, 1) := by decide +kernel
theorem dX10_readsWord_72 : decode cX10_readsWord 72 = .ok (.bipush 47, 2) := by decide +kernel
theorem dX10_readsWord_74 : decode cX10_readsWord 74 = .ok (.if_icmp .ne 14, 3) := by decide +kernel
theorem dX10_readsWord_77 : decode cX10_readsWord 77 = .ok (.aload_n 0, 1) := by decide +kernel
theorem dX10_readsWord_78 : decode cX10_readsWord 78 = .ok (.iload_n 1, 1) := by decide +kernel
theorem dX10_readsWord_79 : decode cX10_readsWord 79 = .ok (.iload_n 2, 1) := by decide +kernel
theorem dX10_readsWord_80 : decode cX10_readsWord 80 = .ok (.iload_n 1, 1) := by decide +kernel
theorem dX10_readsWord_81 : decode cX10_readsWord 81 = .ok (.isub, 1) := by decide +kernel
theorem dX10_readsWord_82 : decode cX10_readsWord 82 = .ok (.invokevirtual 74, 3) := by decide +kernel
theorem dX10_readsWord_85 : decode cX10_readsWord 85 = .ok (.goto 4, 3) := by decide +kernel
theorem dX10_readsWord_88 : decode cX10_readsWord 88 = .ok (.iconst 0, 1) := by decide +kernel
theorem dX10_readsWord_89 : decode cX10_readsWord 89 = .ok (.invokevirtual 50, 3) := by decide +kernel
theorem dX10_readsWord_92 : decode cX10_readsWord 92 = .ok (.iconst 1, 1) := by decide +kernel
theorem dX10_readsWord_93 : decode cX10_readsWord 93 = .ok (.ireturn, 1) := by decide +kernel
theorem dX10_readsNumber_0 : decode cX10_readsNumber 0 = .ok (.iload_n 1, 1) := by decide +kernel
theorem dX10_readsNumber_1 : decode cX10_readsNumber 1 = .ok (.istore_n 2, 1) := by decide +kernel
theorem dX10_readsNumber_2 : decode cX10_readsNumber 2 = .ok (.iconst 0, 1) := by decide +kernel
theorem dX10_readsNumber_3 : decode cX10_readsNumber 3 = .ok (.istore_n 3, 1) := by decide +kernel
theorem dX10_readsNumber_4 : decode cX10_readsNumber 4 = .ok (.iload_n 2, 1) := by decide +kernel
theorem dX10_readsNumber_5 : decode cX10_readsNumber 5 = .ok (.aload_n 0, 1) := by decide +kernel
theorem dX10_readsNumber_6 : decode cX10_readsNumber 6 = .ok (.getfield 30, 3) := by decide +kernel
theorem dX10_readsNumber_9 : decode cX10_readsNumber 9 = .ok (.if_icmp .ge 40, 3) := by decide +kernel
theorem dX10_readsNumber_12 : decode cX10_readsNumber 12 = .ok (.aload_n 0, 1) := by decide +kernel
theorem dX10_readsNumber_13 : decode cX10_readsNumber 13 = .ok (.getfield 7, 3) := by decide +kernel
theorem dX10_readsNumber_16 : decode cX10_readsNumber 16 = .ok (.iload_n 2, 1) := by decide +kernel
theorem dX10_readsNumber_17 : decode cX10_readsNumber 17 = .ok (.invokevirtual 45, 3) := by decide +kernel
theorem dX10_readsNumber_20 : decode cX10_readsNumber 20 = .ok (.invokestatic 60, 3) := by decide +kernel
theorem dX10_readsNumber_23 : decode cX10_readsNumber 23 = .ok (.ifCond .eq 26, 3) := by decide +kernel
theorem dX10_readsNumber_26 : decode cX10_readsNumber 26 = .ok (.iload_n 3, 1) := by decide +kernel
theorem dX10_readsNumber_27 : decode cX10_readsNumber 27 = .ok (.bipush 10, 2) := by decide +kernel
theorem dX10_readsNumber_29 : decode cX10_readsNumber 29 = .ok (.imul, 1) := by decide +kernel
theorem dX10_readsNumber_30 : decode cX10_readsNumber 30 = .ok (.aload_n 0, 1) := by decide +kernel
theorem dX10_readsNumber_31 : decode cX10_readsNumber 31 = .ok (.getfield 7, 3) := by decide +kernel
theorem dX10_readsNumber_34 : decode cX10_readsNumber 34 = .ok (.iload_n 2, 1) := by decide +kernel
theorem dX10_readsNumber_35 : decode cX10_readsNumber 35 = .ok (.invokevirtual 45, 3) := by decide +kernel
theorem dX10_readsNumber_38 : decode cX10_readsNumber 38 = .ok (.iadd, 1) := by decide +kernel
theorem dX10_readsNumber_39 : decode cX10_readsNumber 39 = .ok (.bipush 48, 2) := by decide +kernel
theorem dX10_readsNumber_41 : decode cX10_readsNumber 41 = .ok (.isub, 1) := by decide +kernel
theorem dX10_readsNumber_42 : decode cX10_readsNumber 42 = .ok (.istore_n 3, 1) := by decide +kernel
theorem dX10_readsNumber_43 : decode cX10_readsNumber 43 = .ok (.iinc 2 1, 3) := by decide +kernel
theorem dX10_readsNumber_46 : decode cX10_readsNumber 46 = .ok (.goto (-42), 3) := by decide +kernel
theorem dX10_readsNumber_49 : decode cX10_readsNumber 49 = .ok (.iload_n 2, 1) := by decide +kernel
theorem dX10_readsNumber_50 : decode cX10_readsNumber 50 = .ok (.iload_n 1, 1) := by decide +kernel
theorem dX10_readsNumber_51 : decode cX10_readsNumber 51 = .ok (.isub, 1) := by decide +kernel
theorem dX10_readsNumber_52 : decode cX10_readsNumber 52 = .ok (.bipush 6, 2) := by decide +kernel
theorem dX10_readsNumber_54 : decode cX10_readsNumber 54 = .ok (.if_icmp .le 5, 3) := by decide +kernel
theorem dX10_readsNumber_57 : decode cX10_readsNumber 57 = .ok (.iconst 0, 1) := by decide +kernel
theorem dX10_readsNumber_58 : decode cX10_readsNumber 58 = .ok (.ireturn, 1) := by decide +kernel
theorem dX10_readsNumber_59 : decode cX10_readsNumber 59 = .ok (.aload_n 0, 1) := by decide +kernel
theorem dX10_readsNumber_60 : decode cX10_readsNumber 60 = .ok (.bipush 48, 2) := by decide +kernel
theorem dX10_readsNumber_62 : decode cX10_readsNumber 62 = .ok (.iload_n 1, 1) := by decide +kernel
theorem dX10_readsNumber_63 : decode cX10_readsNumber 63 = .ok (.iload_n 2, 1) := by decide +kernel
theorem dX10_readsNumber_64 : decode cX10_readsNumber 64 = .ok (.iload_n 1, 1) := by decide +kernel
theorem dX10_readsNumber_65 : decode cX10_readsNumber 65 = .ok (.isub, 1) := by decide +kernel
theorem dX10_readsNumber_66 : decode cX10_readsNumber 66 = .ok (.iload_n 3, 1) := by decide +kernel
theorem dX10_readsNumber_67 : decode cX10_readsNumber 67 = .ok (.invokevirtual 50, 3) := by decide +kernel
theorem dX10_readsNumber_70 : decode cX10_readsNumber 70 = .ok (.iconst 1, 1) := by decide +kernel
theorem dX10_readsNumber_71 : decode cX10_readsNumber 71 = .ok (.ireturn, 1) := by decide +kernel
theorem dX10_readsSign_0 : decode cX10_readsSign 0 = .ok (.ldc 77, 2) := by decide +kernel
theorem dX10_readsSign_2 : decode cX10_readsSign 2 = .ok (.iload_n 2, 1) := by decide +kernel
theorem dX10_readsSign_3 : decode cX10_readsSign 3 = .ok (.i2c, 1) := by decide +kernel
theorem dX10_readsSign_4 : decode cX10_readsSign 4 = .ok (.invokevirtual 79, 3) := by decide +kernel
theorem dX10_readsSign_7 : decode cX10_readsSign 7 = .ok (.istore_n 3, 1) := by decide +kernel
theorem dX10_readsSign_8 : decode cX10_readsSign 8 = .ok (.iload_n 3, 1) := by decide +kernel
theorem dX10_readsSign_9 : decode cX10_readsSign 9 = .ok (.ifCond .ge 5, 3) := by decide +kernel
theorem dX10_readsSign_12 : decode cX10_readsSign 12 = .ok (.iconst 0, 1) := by decide +kernel
theorem dX10_readsSign_13 : decode cX10_readsSign 13 = .ok (.ireturn, 1) := by decide +kernel
theorem dX10_readsSign_14 : decode cX10_readsSign 14 = .ok (.iload_n 1, 1) := by decide +kernel
theorem dX10_readsSign_15 : decode cX10_readsSign 15 = .ok (.iconst 1, 1) := by decide +kernel
theorem dX10_readsSign_16 : decode cX10_readsSign 16 = .ok (.iadd, 1) := by decide +kernel
theorem dX10_readsSign_17 : decode cX10_readsSign 17 = .ok (.aload_n 0, 1) := by decide +kernel
theorem dX10_readsSign_18 : decode cX10_readsSign 18 = .ok (.getfield 30, 3) := by decide +kernel
theorem dX10_readsSign_21 : decode cX10_readsSign 21 = .ok (.if_icmp .ge 22, 3) := by decide +kernel
theorem dX10_readsSign_24 : decode cX10_readsSign 24 = .ok (.aload_n 0, 1) := by decide +kernel
theorem dX10_readsSign_25 : decode cX10_readsSign 25 = .ok (.getfield 7, 3) := by decide +kernel
theorem dX10_readsSign_28 : decode cX10_readsSign 28 = .ok (.iload_n 1, 1) := by decide +kernel
theorem dX10_readsSign_29 : decode cX10_readsSign 29 = .ok (.iconst 1, 1) := by decide +kernel
theorem dX10_readsSign_30 : decode cX10_readsSign 30 = .ok (.iadd, 1) := by decide +kernel
theorem dX10_readsSign_31 : decode cX10_readsSign 31 = .ok (.invokevirtual 45, 3) := by decide +kernel
theorem dX10_readsSign_34 : decode cX10_readsSign 34 = .ok (.bipush 61, 2) := by decide +kernel
theorem dX10_readsSign_36 : decode cX10_readsSign 36 = .ok (.if_icmp .ne 7, 3) := by decide +kernel
theorem dX10_readsSign_39 : decode cX10_readsSign 39 = .ok (.iconst 1, 1) := by decide +kernel
theorem dX10_readsSign_40 : decode cX10_readsSign 40 = .ok (.goto 4, 3) := by decide +kernel
theorem dX10_readsSign_43 : decode cX10_readsSign 43 = .ok (.iconst 0, 1) := by decide +kernel
theorem dX10_readsSign_44 : decode cX10_readsSign 44 = .ok (.istore 4, 2) := by decide +kernel
theorem dX10_readsSign_46 : decode cX10_readsSign 46 = .ok (.iload_n 2, 1) := by decide +kernel
theorem dX10_readsSign_47 : decode cX10_readsSign 47 = .ok (.bipush 60, 2) := by decide +kernel
theorem dX10_readsSign_49 : decode cX10_readsSign 49 = .ok (.if_icmp .ne 20, 3) := by decide +kernel
theorem dX10_readsSign_52 : decode cX10_readsSign 52 = .ok (.iload 4, 2) := by decide +kernel
theorem dX10_readsSign_54 : decode cX10_readsSign 54 = .ok (.ifCond .eq 15, 3) := by decide +kernel
theorem dX10_readsSign_57 : decode cX10_readsSign 57 = .ok (.aload_n 0, 1) := by decide +kernel
theorem dX10_readsSign_58 : decode cX10_readsSign 58 = .ok (.bipush 45, 2) := by decide +kernel
theorem dX10_readsSign_60 : decode cX10_readsSign 60 = .ok (.iload_n 1, 1) := by decide +kernel
theorem dX10_readsSign_61 : decode cX10_readsSign 61 = .ok (.iconst 2, 1) := by decide +kernel
theorem dX10_readsSign_62 : decode cX10_readsSign 62 = .ok (.iconst 0, 1) := by decide +kernel
theorem dX10_readsSign_63 : decode cX10_readsSign 63 = .ok (.invokevirtual 50, 3) := by decide +kernel
theorem dX10_readsSign_66 : decode cX10_readsSign 66 = .ok (.goto 37, 3) := by decide +kernel
theorem dX10_readsSign_69 : decode cX10_readsSign 69 = .ok (.iload_n 2, 1) := by decide +kernel
theorem dX10_readsSign_70 : decode cX10_readsSign 70 = .ok (.bipush 62, 2) := by decide +kernel
theorem dX10_readsSign_72 : decode cX10_readsSign 72 = .ok (.if_icmp .ne 20, 3) := by decide +kernel
theorem dX10_readsSign_75 : decode cX10_readsSign 75 = .ok (.iload 4, 2) := by decide +kernel
theorem dX10_readsSign_77 : decode cX10_readsSign 77 = .ok (.ifCond .eq 15, 3) := by decide +kernel
theorem dX10_readsSign_80 : decode cX10_readsSign 80 = .ok (.aload_n 0, 1) := by decide +kernel
theorem dX10_readsSign_81 : decode cX10_readsSign 81 = .ok (.bipush 46, 2) := by decide +kernel
theorem dX10_readsSign_83 : decode cX10_readsSign 83 = .ok (.iload_n 1, 1) := by decide +kernel
theorem dX10_readsSign_84 : decode cX10_readsSign 84 = .ok (.iconst 2, 1) := by decide +kernel
theorem dX10_readsSign_85 : decode cX10_readsSign 85 = .ok (.iconst 0, 1) := by decide +kernel
theorem dX10_readsSign_86 : decode cX10_readsSign 86 = .ok (.invokevirtual 50, 3) := by decide +kernel
theorem dX10_readsSign_89 : decode cX10_readsSign 89 = .ok (.goto 14, 3) := by decide +kernel
theorem dX10_readsSign_92 : decode cX10_readsSign 92 = .ok (.aload_n 0, 1) := by decide +kernel
theorem dX10_readsSign_93 : decode cX10_readsSign 93 = .ok (.bipush 32, 2) := by decide +kernel
theorem dX10_readsSign_95 : decode cX10_readsSign 95 = .ok (.iload_n 3, 1) := by decide +kernel
theorem dX10_readsSign_96 : decode cX10_readsSign 96 = .ok (.iadd, 1) := by decide +kernel
theorem dX10_readsSign_97 : decode cX10_readsSign 97 = .ok (.iload_n 1, 1) := by decide +kernel
theorem dX10_readsSign_98 : decode cX10_readsSign 98 = .ok (.iconst 1, 1) := by decide +kernel
theorem dX10_readsSign_99 : decode cX10_readsSign 99 = .ok (.iconst 0, 1) := by decide +kernel
theorem dX10_readsSign_100 : decode cX10_readsSign 100 = .ok (.invokevirtual 50, 3) := by decide +kernel
theorem dX10_readsSign_103 : decode cX10_readsSign 103 = .ok (.iconst 1, 1) := by decide +kernel
theorem dX10_readsSign_104 : decode cX10_readsSign 104 = .ok (.ireturn, 1) := by decide +kernel
theorem dX10_keyword_0 : decode cX10_keyword 0 = .ok (.iconst 0, 1) := by decide +kernel
theorem dX10_keyword_1 : decode cX10_keyword 1 = .ok (.istore_n 3, 1) := by decide +kernel
theorem dX10_keyword_2 : decode cX10_keyword 2 = .ok (.iconst 0, 1) := by decide +kernel
theorem dX10_keyword_3 : decode cX10_keyword 3 = .ok (.istore 4, 2) := by decide +kernel
theorem dX10_keyword_5 : decode cX10_keyword 5 = .ok (.iconst 0, 1) := by decide +kernel
theorem dX10_keyword_6 : decode cX10_keyword 6 = .ok (.istore 5, 2) := by decide +kernel
theorem dX10_keyword_8 : decode cX10_keyword 8 = .ok (.iload 5, 2) := by decide +kernel
theorem dX10_keyword_10 : decode cX10_keyword 10 = .ok (.ldc 84, 2) := by decide +kernel
theorem dX10_keyword_12 : decode cX10_keyword 12 = .ok (.invokevirtual 86, 3) := by decide +kernel
theorem dX10_keyword_15 : decode cX10_keyword 15 = .ok (.if_icmp .ge 52, 3) := by decide +kernel
theorem dX10_keyword_18 : decode cX10_keyword 18 = .ok (.ldc 84, 2) := by decide +kernel
theorem dX10_keyword_20 : decode cX10_keyword 20 = .ok (.iload 5, 2) := by decide +kernel
theorem dX10_keyword_22 : decode cX10_keyword 22 = .ok (.invokevirtual 89, 3) := by decide +kernel
theorem dX10_keyword_25 : decode cX10_keyword 25 = .ok (.bipush 32, 2) := by decide +kernel
theorem dX10_keyword_27 : decode cX10_keyword 27 = .ok (.if_icmp .ne 34, 3) := by decide +kernel
theorem dX10_keyword_30 : decode cX10_keyword 30 = .ok (.iload 5, 2) := by decide +kernel
theorem dX10_keyword_32 : decode cX10_keyword 32 = .ok (.iload 4, 2) := by decide +kernel
theorem dX10_keyword_34 : decode cX10_keyword 34 = .ok (.isub, 1) := by decide +kernel
theorem dX10_keyword_35 : decode cX10_keyword 35 = .ok (.iload_n 2, 1) := by decide +kernel
theorem dX10_keyword_36 : decode cX10_keyword 36 = .ok (.if_icmp .ne 16, 3) := by decide +kernel
theorem dX10_keyword_39 : decode cX10_keyword 39 = .ok (.aload_n 0, 1) := by decide +kernel
theorem dX10_keyword_40 : decode cX10_keyword 40 = .ok (.iload 4, 2) := by decide +kernel
theorem dX10_keyword_42 : decode cX10_keyword 42 = .ok (.iload_n 1, 1) := by decide +kernel
theorem dX10_keyword_43 : decode cX10_keyword 43 = .ok (.iload_n 2, 1) := by decide +kernel
theorem dX10_keyword_44 : decode cX10_keyword 44 = .ok (.invokevirtual 93, 3) := by decide +kernel
theorem dX10_keyword_47 : decode cX10_keyword 47 = .ok (.ifCond .eq 5, 3) := by decide +kernel
theorem dX10_keyword_50 : decode cX10_keyword 50 = .ok (.iload_n 3, 1) := by decide +kernel
theorem dX10_keyword_51 : decode cX10_keyword 51 = .ok (.ireturn, 1) := by decide +kernel
theorem dX10_keyword_52 : decode cX10_keyword 52 = .ok (.iinc 3 1, 3) := by decide +kernel
theorem dX10_keyword_55 : decode cX10_keyword 55 = .ok (.iload 5, 2) := by decide +kernel
theorem dX10_keyword_57 : decode cX10_keyword 57 = .ok (.iconst 1, 1) := by decide +kernel
theorem dX10_keyword_58 : decode cX10_keyword 58 = .ok (.iadd, 1) := by decide +kernel
theorem dX10_keyword_59 : decode cX10_keyword 59 = .ok (.istore 4, 2) := by decide +kernel
theorem dX10_keyword_61 : decode cX10_keyword 61 = .ok (.iinc 5 1, 3) := by decide +kernel
theorem dX10_keyword_64 : decode cX10_keyword 64 = .ok (.goto (-56), 3) := by decide +kernel
theorem dX10_keyword_67 : decode cX10_keyword 67 = .ok (.bipush 47, 2) := by decide +kernel
theorem dX10_keyword_69 : decode cX10_keyword 69 = .ok (.ireturn, 1) := by decide +kernel
theorem dX10_spells_0 : decode cX10_spells 0 = .ok (.iconst 0, 1) := by decide +kernel
theorem dX10_spells_1 : decode cX10_spells 1 = .ok (.istore 4, 2) := by decide +kernel
theorem dX10_spells_3 : decode cX10_spells 3 = .ok (.iload 4, 2) := by decide +kernel
theorem dX10_spells_5 : decode cX10_spells 5 = .ok (.iload_n 3, 1) := by decide +kernel
theorem dX10_spells_6 : decode cX10_spells 6 = .ok (.if_icmp .ge 46, 3) := by decide +kernel
theorem dX10_spells_9 : decode cX10_spells 9 = .ok (.iload_n 1, 1) := by decide +kernel
theorem dX10_spells_10 : decode cX10_spells 10 = .ok (.iload 4, 2) := by decide +kernel
theorem dX10_spells_12 : decode cX10_spells 12 = .ok (.iadd, 1) := by decide +kernel
theorem dX10_spells_13 : decode cX10_spells 13 = .ok (.ldc 84, 2) := by decide +kernel
theorem dX10_spells_15 : decode cX10_spells 15 = .ok (.invokevirtual 86, 3) := by decide +kernel
theorem dX10_spells_18 : decode cX10_spells 18 = .ok (.if_icmp .ge 26, 3) := by decide +kernel
theorem dX10_spells_21 : decode cX10_spells 21 = .ok (.ldc 84, 2) := by decide +kernel
theorem dX10_spells_23 : decode cX10_spells 23 = .ok (.iload_n 1, 1) := by decide +kernel
theorem dX10_spells_24 : decode cX10_spells 24 = .ok (.iload 4, 2) := by decide +kernel
theorem dX10_spells_26 : decode cX10_spells 26 = .ok (.iadd, 1) := by decide +kernel
theorem dX10_spells_27 : decode cX10_spells 27 = .ok (.invokevirtual 89, 3) := by decide +kernel
theorem dX10_spells_30 : decode cX10_spells 30 = .ok (.aload_n 0, 1) := by decide +kernel
theorem dX10_spells_31 : decode cX10_spells 31 = .ok (.getfield 7, 3) := by decide +kernel
theorem dX10_spells_34 : decode cX10_spells 34 = .ok (.iload_n 2, 1) := by decide +kernel
theorem dX10_spells_35 : decode cX10_spells 35 = .ok (.iload 4, 2) := by decide +kernel
theorem dX10_spells_37 : decode cX10_spells 37 = .ok (.iadd, 1) := by decide +kernel
theorem dX10_spells_38 : decode cX10_spells 38 = .ok (.invokevirtual 45, 3) := by decide +kernel
theorem dX10_spells_41 : decode cX10_spells 41 = .ok (.if_icmp .eq 5, 3) := by decide +kernel
theorem dX10_spells_44 : decode cX10_spells 44 = .ok (.iconst 0, 1) := by decide +kernel
theorem dX10_spells_45 : decode cX10_spells 45 = .ok (.ireturn, 1) := by decide +kernel
theorem dX10_spells_46 : decode cX10_spells 46 = .ok (.iinc 4 1, 3) := by decide +kernel
theorem dX10_spells_49 : decode cX10_spells 49 = .ok (.goto (-46), 3) := by decide +kernel
theorem dX10_spells_52 : decode cX10_spells 52 = .ok (.iconst 1, 1) := by decide +kernel
theorem dX10_spells_53 : decode cX10_spells 53 = .ok (.ireturn, 1) := by decide +kernel
theorem dX10_firstWithName_0 : decode cX10_firstWithName 0 = .ok (.iconst 0, 1) := by decide +kernel
theorem dX10_firstWithName_1 : decode cX10_firstWithName 1 = .ok (.istore_n 3, 1) := by decide +kernel
theorem dX10_firstWithName_2 : decode cX10_firstWithName 2 = .ok (.iload_n 3, 1) := by decide +kernel
theorem dX10_firstWithName_3 : decode cX10_firstWithName 3 = .ok (.aload_n 0, 1) := by decide +kernel
theorem dX10_firstWithName_4 : decode cX10_firstWithName 4 = .ok (.getfield 34, 3) := by decide +kernel
theorem dX10_firstWithName_7 : decode cX10_firstWithName 7 = .ok (.if_icmp .ge 53, 3) := by decide +kernel
theorem dX10_firstWithName_10 : decode cX10_firstWithName 10 = .ok (.aload_n 0, 1) := by decide +kernel
theorem dX10_firstWithName_11 : decode cX10_firstWithName 11 = .ok (.getfield 18, 3) := by decide +kernel
theorem dX10_firstWithName_14 : decode cX10_firstWithName 14 = .ok (.iload_n 3, 1) := by decide +kernel
theorem dX10_firstWithName_15 : decode cX10_firstWithName 15 = .ok (.invokevirtual 45, 3) := by decide +kernel
theorem dX10_firstWithName_18 : decode cX10_firstWithName 18 = .ok (.bipush 47, 2) := by decide +kernel
theorem dX10_firstWithName_20 : decode cX10_firstWithName 20 = .ok (.if_icmp .ne 34, 3) := by decide +kernel
theorem dX10_firstWithName_23 : decode cX10_firstWithName 23 = .ok (.aload_n 0, 1) := by decide +kernel
theorem dX10_firstWithName_24 : decode cX10_firstWithName 24 = .ok (.getfield 24, 3) := by decide +kernel
theorem dX10_firstWithName_27 : decode cX10_firstWithName 27 = .ok (.iload_n 3, 1) := by decide +kernel
theorem dX10_firstWithName_28 : decode cX10_firstWithName 28 = .ok (.invokevirtual 45, 3) := by decide +kernel
theorem dX10_firstWithName_31 : decode cX10_firstWithName 31 = .ok (.iload_n 2, 1) := by decide +kernel
theorem dX10_firstWithName_32 : decode cX10_firstWithName 32 = .ok (.if_icmp .ne 22, 3) := by decide +kernel
theorem dX10_firstWithName_35 : decode cX10_firstWithName 35 = .ok (.aload_n 0, 1) := by decide +kernel
theorem dX10_firstWithName_36 : decode cX10_firstWithName 36 = .ok (.aload_n 0, 1) := by decide +kernel
theorem dX10_firstWithName_37 : decode cX10_firstWithName 37 = .ok (.getfield 21, 3) := by decide +kernel
theorem dX10_firstWithName_40 : decode cX10_firstWithName 40 = .ok (.iload_n 3, 1) := by decide +kernel
theorem dX10_firstWithName_41 : decode cX10_firstWithName 41 = .ok (.invokevirtual 45, 3) := by decide +kernel
theorem dX10_firstWithName_44 : decode cX10_firstWithName 44 = .ok (.iload_n 1, 1) := by decide +kernel
theorem dX10_firstWithName_45 : decode cX10_firstWithName 45 = .ok (.iload_n 2, 1) := by decide +kernel
theorem dX10_firstWithName_46 : decode cX10_firstWithName 46 = .ok (.invokevirtual 97, 3) := by decide +kernel
theorem dX10_firstWithName_49 : decode cX10_firstWithName 49 = .ok (.ifCond .eq 5, 3) := by decide +kernel
theorem dX10_firstWithName_52 : decode cX10_firstWithName 52 = .ok (.iload_n 3, 1) := by decide +kernel
theorem dX10_firstWithName_53 : decode cX10_firstWithName 53 = .ok (.ireturn, 1) := by decide +kernel
theorem dX10_firstWithName_54 : decode cX10_firstWithName 54 = .ok (.iinc 3 1, 3) := by decide +kernel
theorem dX10_firstWithName_57 : decode cX10_firstWithName 57 = .ok (.goto (-55), 3) := by decide +kernel
theorem dX10_firstWithName_60 : decode cX10_firstWithName 60 = .ok (.aload_n 0, 1) := by decide +kernel
theorem dX10_firstWithName_61 : decode cX10_firstWithName 61 = .ok (.getfield 34, 3) := by decide +kernel
theorem dX10_firstWithName_64 : decode cX10_firstWithName 64 = .ok (.ireturn, 1) := by decide +kernel
theorem dX10_isSame_0 : decode cX10_isSame 0 = .ok (.iconst 0, 1) := by decide +kernel
theorem dX10_isSame_1 : decode cX10_isSame 1 = .ok (.istore 4, 2) := by decide +kernel
theorem dX10_isSame_3 : decode cX10_isSame 3 = .ok (.iload 4, 2) := by decide +kernel
theorem dX10_isSame_5 : decode cX10_isSame 5 = .ok (.iload_n 3, 1) := by decide +kernel
theorem dX10_isSame_6 : decode cX10_isSame 6 = .ok (.if_icmp .ge 36, 3) := by decide +kernel
theorem dX10_isSame_9 : decode cX10_isSame 9 = .ok (.aload_n 0, 1) := by decide +kernel
theorem dX10_isSame_10 : decode cX10_isSame 10 = .ok (.getfield 7, 3) := by decide +kernel
theorem dX10_isSame_13 : decode cX10_isSame 13 = .ok (.iload_n 1, 1) := by decide +kernel
theorem dX10_isSame_14 : decode cX10_isSame 14 = .ok (.iload 4, 2) := by decide +kernel
theorem dX10_isSame_16 : decode cX10_isSame 16 = .ok (.iadd, 1) := by decide +kernel
theorem dX10_isSame_17 : decode cX10_isSame 17 = .ok (.invokevirtual 45, 3) := by decide +kernel
theorem dX10_isSame_20 : decode cX10_isSame 20 = .ok (.aload_n 0, 1) := by decide +kernel
theorem dX10_isSame_21 : decode cX10_isSame 21 = .ok (.getfield 7, 3) := by decide +kernel
theorem dX10_isSame_24 : decode cX10_isSame 24 = .ok (.iload_n 2, 1) := by decide +kernel
theorem dX10_isSame_25 : decode cX10_isSame 25 = .ok (.iload 4, 2) := by decide +kernel
theorem dX10_isSame_27 : decode cX10_isSame 27 = .ok (.iadd, 1) := by decide +kernel
theorem dX10_isSame_28 : decode cX10_isSame 28 = .ok (.invokevirtual 45, 3) := by decide +kernel
theorem dX10_isSame_31 : decode cX10_isSame 31 = .ok (.if_icmp .eq 5, 3) := by decide +kernel
theorem dX10_isSame_34 : decode cX10_isSame 34 = .ok (.iconst 0, 1) := by decide +kernel
theorem dX10_isSame_35 : decode cX10_isSame 35 = .ok (.ireturn, 1) := by decide +kernel
theorem dX10_isSame_36 : decode cX10_isSame 36 = .ok (.iinc 4 1, 3) := by decide +kernel
theorem dX10_isSame_39 : decode cX10_isSame 39 = .ok (.goto (-36), 3) := by decide +kernel
theorem dX10_isSame_42 : decode cX10_isSame 42 = .ok (.iconst 1, 1) := by decide +kernel
theorem dX10_isSame_43 : decode cX10_isSame 43 = .ok (.ireturn, 1) := by decide +kernel
theorem dX10_add_0 : decode cX10_add 0 = .ok (.aload_n 0, 1) := by decide +kernel
theorem dX10_add_1 : decode cX10_add 1 = .ok (.getfield 18, 3) := by decide +kernel
theorem dX10_add_4 : decode cX10_add 4 = .ok (.aload_n 0, 1) := by decide +kernel
theorem dX10_add_5 : decode cX10_add 5 = .ok (.getfield 34, 3) := by decide +kernel
theorem dX10_add_8 : decode cX10_add 8 = .ok (.iload_n 1, 1) := by decide +kernel
theorem dX10_add_9 : decode cX10_add 9 = .ok (.invokevirtual 100, 3) := by decide +kernel
theorem dX10_add_12 : decode cX10_add 12 = .ok (.aload_n 0, 1) := by decide +kernel
theorem dX10_add_13 : decode cX10_add 13 = .ok (.getfield 21, 3) := by decide +kernel
theorem dX10_add_16 : decode cX10_add 16 = .ok (.aload_n 0, 1) := by decide +kernel
theorem dX10_add_17 : decode cX10_add 17 = .ok (.getfield 34, 3) := by decide +kernel
theorem dX10_add_20 : decode cX10_add 20 = .ok (.iload_n 2, 1) := by decide +kernel
theorem dX10_add_21 : decode cX10_add 21 = .ok (.invokevirtual 100, 3) := by decide +kernel
theorem dX10_add_24 : decode cX10_add 24 = .ok (.aload_n 0, 1) := by decide +kernel
theorem dX10_add_25 : decode cX10_add 25 = .ok (.getfield 24, 3) := by decide +kernel
theorem dX10_add_28 : decode cX10_add 28 = .ok (.aload_n 0, 1) := by decide +kernel
theorem dX10_add_29 : decode cX10_add 29 = .ok (.getfield 34, 3) := by decide +kernel
theorem dX10_add_32 : decode cX10_add 32 = .ok (.iload_n 3, 1) := by decide +kernel
theorem dX10_add_33 : decode cX10_add 33 = .ok (.invokevirtual 100, 3) := by decide +kernel
theorem dX10_add_36 : decode cX10_add 36 = .ok (.aload_n 0, 1) := by decide +kernel
theorem dX10_add_37 : decode cX10_add 37 = .ok (.getfield 27, 3) := by decide +kernel
theorem dX10_add_40 : decode cX10_add 40 = .ok (.aload_n 0, 1) := by decide +kernel
theorem dX10_add_41 : decode cX10_add 41 = .ok (.getfield 34, 3) := by decide +kernel
theorem dX10_add_44 : decode cX10_add 44 = .ok (.iload 4, 2) := by decide +kernel
theorem dX10_add_46 : decode cX10_add 46 = .ok (.invokevirtual 100, 3) := by decide +kernel
theorem dX10_add_49 : decode cX10_add 49 = .ok (.aload_n 0, 1) := by decide +kernel
theorem dX10_add_50 : decode cX10_add 50 = .ok (.dup, 1) := by decide +kernel
theorem dX10_add_51 : decode cX10_add 51 = .ok (.getfield 34, 3) := by decide +kernel
theorem dX10_add_54 : decode cX10_add 54 = .ok (.iconst 1, 1) := by decide +kernel
theorem dX10_add_55 : decode cX10_add 55 = .ok (.iadd, 1) := by decide +kernel
theorem dX10_add_56 : decode cX10_add 56 = .ok (.putfield 34, 3) := by decide +kernel
theorem dX10_add_59 : decode cX10_add 59 = .ok (.return_, 1) := by decide +kernel
theorem dX10_isLetter_0 : decode cX10_isLetter 0 = .ok (.iload_n 0, 1) := by decide +kernel
theorem dX10_isLetter_1 : decode cX10_isLetter 1 = .ok (.bipush 97, 2) := by decide +kernel
theorem dX10_isLetter_3 : decode cX10_isLetter 3 = .ok (.if_icmp .lt 13, 3) := by decide +kernel
theorem dX10_isLetter_6 : decode cX10_isLetter 6 = .ok (.iload_n 0, 1) := by decide +kernel
theorem dX10_isLetter_7 : decode cX10_isLetter 7 = .ok (.bipush 122, 2) := by decide +kernel
theorem dX10_isLetter_9 : decode cX10_isLetter 9 = .ok (.if_icmp .gt 7, 3) := by decide +kernel
theorem dX10_isLetter_12 : decode cX10_isLetter 12 = .ok (.iconst 1, 1) := by decide +kernel
theorem dX10_isLetter_13 : decode cX10_isLetter 13 = .ok (.goto 4, 3) := by decide +kernel
theorem dX10_isLetter_16 : decode cX10_isLetter 16 = .ok (.iconst 0, 1) := by decide +kernel
theorem dX10_isLetter_17 : decode cX10_isLetter 17 = .ok (.ireturn, 1) := by decide +kernel
theorem dX10_isDigit_0 : decode cX10_isDigit 0 = .ok (.iload_n 0, 1) := by decide +kernel
theorem dX10_isDigit_1 : decode cX10_isDigit 1 = .ok (.bipush 48, 2) := by decide +kernel
theorem dX10_isDigit_3 : decode cX10_isDigit 3 = .ok (.if_icmp .lt 13, 3) := by decide +kernel
theorem dX10_isDigit_6 : decode cX10_isDigit 6 = .ok (.iload_n 0, 1) := by decide +kernel
theorem dX10_isDigit_7 : decode cX10_isDigit 7 = .ok (.bipush 57, 2) := by decide +kernel
theorem dX10_isDigit_9 : decode cX10_isDigit 9 = .ok (.if_icmp .gt 7, 3) := by decide +kernel
theorem dX10_isDigit_12 : decode cX10_isDigit 12 = .ok (.iconst 1, 1) := by decide +kernel
theorem dX10_isDigit_13 : decode cX10_isDigit 13 = .ok (.goto 4, 3) := by decide +kernel
theorem dX10_isDigit_16 : decode cX10_isDigit 16 = .ok (.iconst 0, 1) := by decide +kernel
theorem dX10_isDigit_17 : decode cX10_isDigit 17 = .ok (.ireturn, 1) := by decide +kernel
theorem dX11_init_0 : decode cX11_init 0 = .ok (.aload_n 0, 1) := by decide +kernel
theorem dX11_init_1 : decode cX11_init 1 = .ok (.invokespecial 1, 3) := by decide +kernel
theorem dX11_init_4 : decode cX11_init 4 = .ok (.aload_n 0, 1) := by decide +kernel
theorem dX11_init_5 : decode cX11_init 5 = .ok (.new 7, 3) := by decide +kernel
theorem dX11_init_8 : decode cX11_init 8 = .ok (.dup, 1) := by decide +kernel
theorem dX11_init_9 : decode cX11_init 9 = .ok (.sipush 2000, 3) := by decide +kernel
theorem dX11_init_12 : decode cX11_init 12 = .ok (.invokespecial 11, 3) := by decide +kernel
theorem dX11_init_15 : decode cX11_init 15 = .ok (.putfield 14, 3) := by decide +kernel
theorem dX11_init_18 : decode cX11_init 18 = .ok (.aload_n 0, 1) := by decide +kernel
theorem dX11_init_19 : decode cX11_init 19 = .ok (.new 18, 3) := by decide +kernel
theorem dX11_init_22 : decode cX11_init 22 = .ok (.dup, 1) := by decide +kernel
theorem dX11_init_23 : decode cX11_init 23 = .ok (.aload_n 0, 1) := by decide +kernel
theorem dX11_init_24 : decode cX11_init 24 = .ok (.getfield 14, 3) := by decide +kernel
theorem dX11_init_27 : decode cX11_init 27 = .ok (.invokespecial 20, 3) := by decide +kernel
theorem dX11_init_30 : decode cX11_init 30 = .ok (.putfield 23, 3) := by decide +kernel
theorem dX11_init_33 : decode cX11_init 33 = .ok (.aload_n 0, 1) := by decide +kernel
theorem dX11_init_34 : decode cX11_init 34 = .ok (.new 27, 3) := by decide +kernel
theorem dX11_init_37 : decode cX11_init 37 = .ok (.dup, 1) := by decide +kernel
theorem dX11_init_38 : decode cX11_init 38 = .ok (.aload_n 0, 1) := by decide +kernel
theorem dX11_init_39 : decode cX11_init 39 = .ok (.getfield 23, 3) := by decide +kernel
theorem dX11_init_42 : decode cX11_init 42 = .ok (.invokespecial 29, 3) := by decide +kernel
theorem dX11_init_45 : decode cX11_init 45 = .ok (.putfield 32, 3) := by decide +kernel
theorem dX11_init_48 : decode cX11_init 48 = .ok (.aload_n 0, 1) := by decide +kernel
theorem dX11_init_49 : decode cX11_init 49 = .ok (.new 36, 3) := by decide +kernel
theorem dX11_init_52 : decode cX11_init 52 = .ok (.dup, 1) := by decide +kernel
theorem dX11_init_53 : decode cX11_init 53 = .ok (.invokespecial 38, 3) := by decide +kernel
theorem dX11_init_56 : decode cX11_init 56 = .ok (.putfield 39, 3) := by decide +kernel
theorem dX11_init_59 : decode cX11_init 59 = .ok (.aload_n 0, 1) := by decide +kernel
theorem dX11_init_60 : decode cX11_init 60 = .ok (.new 43, 3) := by decide +kernel
theorem dX11_init_63 : decode cX11_init 63 = .ok (.dup, 1) := by decide +kernel
theorem dX11_init_64 : decode cX11_init 64 = .ok (.aload_n 0, 1) := by decide +kernel
theorem dX11_init_65 : decode cX11_init 65 = .ok (.getfield 39, 3) := by decide +kernel
theorem dX11_init_68 : decode cX11_init 68 = .ok (.invokespecial 45, 3) := by decide +kernel
theorem dX11_init_71 : decode cX11_init 71 = .ok (.putfield 48, 3) := by decide +kernel
theorem dX11_init_74 : decode cX11_init 74 = .ok (.aload_n 0, 1) := by decide +kernel
theorem dX11_init_75 : decode cX11_init 75 = .ok (.new 52, 3) := by decide +kernel
theorem dX11_init_78 : decode cX11_init 78 = .ok (.dup, 1) := by decide +kernel
theorem dX11_init_79 : decode cX11_init 79 = .ok (.aload_n 0, 1) := by decide +kernel
theorem dX11_init_80 : decode cX11_init 80 = .ok (.getfield 39, 3) := by decide +kernel
theorem dX11_init_83 : decode cX11_init 83 = .ok (.aload_n 0, 1) := by decide +kernel
theorem dX11_init_84 : decode cX11_init 84 = .ok (.getfield 48, 3) := by decide +kernel
theorem dX11_init_87 : decode cX11_init 87 = .ok (.invokespecial 54, 3) := by decide +kernel
theorem dX11_init_90 : decode cX11_init 90 = .ok (.putfield 57, 3) := by decide +kernel
theorem dX11_init_93 : decode cX11_init 93 = .ok (.aload_n 0, 1) := by decide +kernel
theorem dX11_init_94 : decode cX11_init 94 = .ok (.new 43, 3) := by decide +kernel
theorem dX11_init_97 : decode cX11_init 97 = .ok (.dup, 1) := by decide +kernel
theorem dX11_init_98 : decode cX11_init 98 = .ok (.aload_n 0, 1) := by decide +kernel
theorem dX11_init_99 : decode cX11_init 99 = .ok (.getfield 39, 3) := by decide +kernel
theorem dX11_init_102 : decode cX11_init 102 = .ok (.invokespecial 45, 3) := by decide +kernel
theorem dX11_init_105 : decode cX11_init 105 = .ok (.putfield 61, 3) := by decide +kernel
theorem dX11_init_108 : decode cX11_init 108 = .ok (.aload_n 0, 1) := by decide +kernel
theorem dX11_init_109 : decode cX11_init 109 = .ok (.new 52, 3) := by decide +kernel
theorem dX11_init_112 : decode cX11_init 112 = .ok (.dup, 1) := by decide +kernel
theorem dX11_init_113 : decode cX11_init 113 = .ok (.aload_n 0, 1) := by decide +kernel
theorem dX11_init_114 : decode cX11_init 114 = .ok (.getfield 39, 3) := by decide +kernel
theorem dX11_init_117 : decode cX11_init 117 = .ok (.aload_n 0, 1) := by decide +kernel
theorem dX11_init_118 : decode cX11_init 118 = .ok (.getfield 61, 3) := by decide +kernel
theorem dX11_init_121 : decode cX11_init 121 = .ok (.invokespecial 54, 3) := by decide +kernel
theorem dX11_init_124 : decode cX11_init 124 = .ok (.putfield 64, 3) := by decide +kernel
theorem dX11_init_127 : decode cX11_init 127 = .ok (.aload_n 0, 1) := by decide +kernel
theorem dX11_init_128 : decode cX11_init 128 = .ok (.iconst 0, 1) := by decide +kernel
theorem dX11_init_129 : decode cX11_init 129 = .ok (.putfield 67, 3) := by decide +kernel
theorem dX11_init_132 : decode cX11_init 132 = .ok (.aload_n 0, 1) := by decide +kernel
theorem dX11_init_133 : decode cX11_init 133 = .ok (.iconst (-1), 1) := by decide +kernel
theorem dX11_init_134 : decode cX11_init 134 = .ok (.putfield 71, 3) := by decide +kernel
theorem dX11_init_137 : decode cX11_init 137 = .ok (.return_, 1) := by decide +kernel
theorem dX11_feed_0 : decode cX11_feed 0 = .ok (.aload_n 0, 1) := by decide +kernel
theorem dX11_feed_1 : decode cX11_feed 1 = .ok (.getfield 67, 3) := by decide +kernel
theorem dX11_feed_4 : decode cX11_feed 4 = .ok (.sipush 1980, 3) := by decide +kernel
theorem dX11_feed_7 : decode cX11_feed 7 = .ok (.if_icmp .le 13, 3) := by decide +kernel
theorem dX11_feed_10 : decode cX11_feed 10 = .ok (.new 74, 3) := by decide +kernel
theorem dX11_feed_13 : decode cX11_feed 13 = .ok (.dup, 1) := by decide +kernel
theorem dX11_feed_14 : decode cX11_feed 14 = .ok (.ldc 76, 2) := by decide +kernel
theorem dX11_feed_16 : decode cX11_feed 16 = .ok (.invokespecial 78, 3) := by decide +kernel
theorem dX11_feed_19 : decode cX11_feed 19 = .ok (.athrow, 1) := by decide +kernel
theorem dX11_feed_20 : decode cX11_feed 20 = .ok (.aload_n 0, 1) := by decide +kernel
theorem dX11_feed_21 : decode cX11_feed 21 = .ok (.iload_n 1, 1) := by decide +kernel
theorem dX11_feed_22 : decode cX11_feed 22 = .ok (.invokevirtual 81, 3) := by decide +kernel
theorem dX11_feed_25 : decode cX11_feed 25 = .ok (.aload_n 0, 1) := by decide +kernel
theorem dX11_feed_26 : decode cX11_feed 26 = .ok (.iload_n 2, 1) := by decide +kernel
theorem dX11_feed_27 : decode cX11_feed 27 = .ok (.invokevirtual 81, 3) := by decide +kernel
theorem dX11_feed_30 : decode cX11_feed 30 = .ok (.aload_n 0, 1) := by decide +kernel
theorem dX11_feed_31 : decode cX11_feed 31 = .ok (.iload_n 3, 1) := by decide +kernel
theorem dX11_feed_32 : decode cX11_feed 32 = .ok (.invokevirtual 81, 3) := by decide +kernel
theorem dX11_feed_35 : decode cX11_feed 35 = .ok (.aload_n 0, 1) := by decide +kernel
theorem dX11_feed_36 : decode cX11_feed 36 = .ok (.iload 4, 2) := by decide +kernel
theorem dX11_feed_38 : decode cX11_feed 38 = .ok (.invokevirtual 81, 3) := by decide +kernel
theorem dX11_feed_41 : decode cX11_feed 41 = .ok (.aload_n 0, 1) := by decide +kernel
theorem dX11_feed_42 : decode cX11_feed 42 = .ok (.iload 5, 2) := by decide +kernel
theorem dX11_feed_44 : decode cX11_feed 44 = .ok (.invokevirtual 81, 3) := by decide +kernel
theorem dX11_feed_47 : decode cX11_feed 47 = .ok (.aload_n 0, 1) := by decide +kernel
theorem dX11_feed_48 : decode cX11_feed 48 = .ok (.getfield 67, 3) := by decide +kernel
theorem dX11_feed_51 : decode cX11_feed 51 = .ok (.ireturn, 1) := by decide +kernel
theorem dX11_trim_0 : decode cX11_trim 0 = .ok (.iload_n 1, 1) := by decide +kernel
theorem dX11_trim_1 : decode cX11_trim 1 = .ok (.ifCond .lt 11, 3) := by decide +kernel
theorem dX11_trim_4 : decode cX11_trim 4 = .ok (.iload_n 1, 1) := by decide +kernel
theorem dX11_trim_5 : decode cX11_trim 5 = .ok (.aload_n 0, 1) := by decide +kernel
theorem dX11_trim_6 : decode cX11_trim 6 = .ok (.getfield 67, 3) := by decide +kernel
theorem dX11_trim_9 : decode cX11_trim 9 = .ok (.if_icmp .le 13, 3) := by decide +kernel
theorem dX11_trim_12 : decode cX11_trim 12 = .ok (.new 84, 3) := by decide +kernel
theorem dX11_trim_15 : decode cX11_trim 15 = .ok (.dup, 1) := by decide +kernel
theorem dX11_trim_16 : decode cX11_trim 16 = .ok (.ldc 86, 2) := by decide +kernel
theorem dX11_trim_18 : decode cX11_trim 18 = .ok (.invokespecial 88, 3) := by decide +kernel
theorem dX11_trim_21 : decode cX11_trim 21 = .ok (.athrow, 1) := by decide +kernel
theorem dX11_trim_22 : decode cX11_trim 22 = .ok (.aload_n 0, 1) := by decide +kernel
theorem dX11_trim_23 : decode cX11_trim 23 = .ok (.iload_n 1, 1) := by decide +kernel
theorem dX11_trim_24 : decode cX11_trim 24 = .ok (.putfield 67, 3) := by decide +kernel
theorem dX11_trim_27 : decode cX11_trim 27 = .ok (.iload_n 1, 1) := by decide +kernel
theorem dX11_trim_28 : decode cX11_trim 28 = .ok (.ireturn, 1) := by decide +kernel
theorem dX11_teach_0 : decode cX11_teach 0 = .ok (.aload_n 0, 1) := by decide +kernel
theorem dX11_teach_1 : decode cX11_teach 1 = .ok (.getfield 23, 3) := by decide +kernel
theorem dX11_teach_4 : decode cX11_teach 4 = .ok (.aload_n 0, 1) := by decide +kernel
theorem dX11_teach_5 : decode cX11_teach 5 = .ok (.getfield 67, 3) := by decide +kernel
theorem dX11_teach_8 : decode cX11_teach 8 = .ok (.invokevirtual 89, 3) := by decide +kernel
theorem dX11_teach_11 : decode cX11_teach 11 = .ok (.aload_n 0, 1) := by decide +kernel
theorem dX11_teach_12 : decode cX11_teach 12 = .ok (.getfield 32, 3) := by decide +kernel
theorem dX11_teach_15 : decode cX11_teach 15 = .ok (.invokevirtual 92, 3) := by decide +kernel
theorem dX11_teach_18 : decode cX11_teach 18 = .ok (.istore_n 1, 1) := by decide +kernel
theorem dX11_teach_19 : decode cX11_teach 19 = .ok (.aload_n 0, 1) := by decide +kernel
theorem dX11_teach_20 : decode cX11_teach 20 = .ok (.aload_n 0, 1) := by decide +kernel
theorem dX11_teach_21 : decode cX11_teach 21 = .ok (.getfield 32, 3) := by decide +kernel
theorem dX11_teach_24 : decode cX11_teach 24 = .ok (.invokevirtual 96, 3) := by decide +kernel
theorem dX11_teach_27 : decode cX11_teach 27 = .ok (.putfield 71, 3) := by decide +kernel
theorem dX11_teach_30 : decode cX11_teach 30 = .ok (.aload_n 0, 1) := by decide +kernel
theorem dX11_teach_31 : decode cX11_teach 31 = .ok (.iconst 0, 1) := by decide +kernel
theorem dX11_teach_32 : decode cX11_teach 32 = .ok (.putfield 67, 3) := by decide +kernel
theorem dX11_teach_35 : decode cX11_teach 35 = .ok (.iload_n 1, 1) := by decide +kernel
theorem dX11_teach_36 : decode cX11_teach 36 = .ok (.ifCond .ne 24, 3) := by decide +kernel
theorem dX11_teach_39 : decode cX11_teach 39 = .ok (.aload_n 0, 1) := by decide +kernel
theorem dX11_teach_40 : decode cX11_teach 40 = .ok (.getfield 39, 3) := by decide +kernel
theorem dX11_teach_43 : decode cX11_teach 43 = .ok (.aload_n 0, 1) := by decide +kernel
theorem dX11_teach_44 : decode cX11_teach 44 = .ok (.getfield 32, 3) := by decide +kernel
theorem dX11_teach_47 : decode cX11_teach 47 = .ok (.getfield 99, 3) := by decide +kernel
theorem dX11_teach_50 : decode cX11_teach 50 = .ok (.invokevirtual 102, 3) := by decide +kernel
theorem dX11_teach_53 : decode cX11_teach 53 = .ok (.aload_n 0, 1) := by decide +kernel
theorem dX11_teach_54 : decode cX11_teach 54 = .ok (.getfield 48, 3) := by decide +kernel
theorem dX11_teach_57 : decode cX11_teach 57 = .ok (.invokevirtual 105, 3) := by decide +kernel
theorem dX11_teach_60 : decode cX11_teach 60 = .ok (.iload_n 1, 1) := by decide +kernel
theorem dX11_teach_61 : decode cX11_teach 61 = .ok (.ireturn, 1) := by decide +kernel
theorem dX11_count_0 : decode cX11_count 0 = .ok (.iload_n 1, 1) := by decide +kernel
theorem dX11_count_1 : decode cX11_count 1 = .ok (.ifCond .lt 9, 3) := by decide +kernel
theorem dX11_count_4 : decode cX11_count 4 = .ok (.iload_n 1, 1) := by decide +kernel
theorem dX11_count_5 : decode cX11_count 5 = .ok (.bipush 13, 2) := by decide +kernel
theorem dX11_count_7 : decode cX11_count 7 = .ok (.if_icmp .le 13, 3) := by decide +kernel
theorem dX11_count_10 : decode cX11_count 10 = .ok (.new 108, 3) := by decide +kernel
theorem dX11_count_13 : decode cX11_count 13 = .ok (.dup, 1) := by decide +kernel
theorem dX11_count_14 : decode cX11_count 14 = .ok (.ldc 110, 2) := by decide +kernel
theorem dX11_count_16 : decode cX11_count 16 = .ok (.invokespecial 112, 3) := by decide +kernel
theorem dX11_count_19 : decode cX11_count 19 = .ok (.athrow, 1) := by decide +kernel
theorem dX11_count_20 : decode cX11_count 20 = .ok (.aload_n 0, 1) := by decide +kernel
theorem dX11_count_21 : decode cX11_count 21 = .ok (.iload_n 1, 1) := by decide +kernel
theorem dX11_count_22 : decode cX11_count 22 = .ok (.invokevirtual 113, 3) := by decide +kernel
theorem dX11_count_25 : decode cX11_count 25 = .ok (.ireturn, 1) := by decide +kernel
theorem dX11_lot_0 : decode cX11_lot 0 = .ok (.aload_n 0, 1) := by decide +kernel
theorem dX11_lot_1 : decode cX11_lot 1 = .ok (.iload_n 1, 1) := by decide +kernel
theorem dX11_lot_2 : decode cX11_lot 2 = .ok (.invokevirtual 117, 3) := by decide +kernel
theorem dX11_lot_5 : decode cX11_lot 5 = .ok (.ifCond .eq 13, 3) := by decide +kernel
theorem dX11_lot_8 : decode cX11_lot 8 = .ok (.iload_n 2, 1) := by decide +kernel
theorem dX11_lot_9 : decode cX11_lot 9 = .ok (.ifCond .lt 9, 3) := by decide +kernel
theorem dX11_lot_12 : decode cX11_lot 12 = .ok (.iload_n 2, 1) := by decide +kernel
theorem dX11_lot_13 : decode cX11_lot 13 = .ok (.bipush 6, 2) := by decide +kernel
theorem dX11_lot_15 : decode cX11_lot 15 = .ok (.if_icmp .le 13, 3) := by decide +kernel
theorem dX11_lot_18 : decode cX11_lot 18 = .ok (.new 108, 3) := by decide +kernel
theorem dX11_lot_21 : decode cX11_lot 21 = .ok (.dup, 1) := by decide +kernel
theorem dX11_lot_22 : decode cX11_lot 22 = .ok (.ldc 121, 2) := by decide +kernel
theorem dX11_lot_24 : decode cX11_lot 24 = .ok (.invokespecial 112, 3) := by decide +kernel
theorem dX11_lot_27 : decode cX11_lot 27 = .ok (.athrow, 1) := by decide +kernel
theorem dX11_lot_28 : decode cX11_lot 28 = .ok (.aload_n 0, 1) := by decide +kernel
theorem dX11_lot_29 : decode cX11_lot 29 = .ok (.getfield 48, 3) := by decide +kernel
theorem dX11_lot_32 : decode cX11_lot 32 = .ok (.iload_n 1, 1) := by decide +kernel
theorem dX11_lot_33 : decode cX11_lot 33 = .ok (.iload_n 2, 1) := by decide +kernel
theorem dX11_lot_34 : decode cX11_lot 34 = .ok (.invokevirtual 123, 3) := by decide +kernel
theorem dX11_lot_37 : decode cX11_lot 37 = .ok (.ireturn, 1) := by decide +kernel
theorem dX11_merchant_0 : decode cX11_merchant 0 = .ok (.aload_n 0, 1) := by decide +kernel
theorem dX11_merchant_1 : decode cX11_merchant 1 = .ok (.iload_n 1, 1) := by decide +kernel
theorem dX11_merchant_2 : decode cX11_merchant 2 = .ok (.invokevirtual 127, 3) := by decide +kernel
theorem dX11_merchant_5 : decode cX11_merchant 5 = .ok (.ifCond .eq 12, 3) := by decide +kernel
theorem dX11_merchant_8 : decode cX11_merchant 8 = .ok (.iload_n 2, 1) := by decide +kernel
theorem dX11_merchant_9 : decode cX11_merchant 9 = .ok (.ifCond .lt 8, 3) := by decide +kernel
theorem dX11_merchant_12 : decode cX11_merchant 12 = .ok (.iload_n 2, 1) := by decide +kernel
theorem dX11_merchant_13 : decode cX11_merchant 13 = .ok (.iconst 5, 1) := by decide +kernel
theorem dX11_merchant_14 : decode cX11_merchant 14 = .ok (.if_icmp .le 13, 3) := by decide +kernel
theorem dX11_merchant_17 : decode cX11_merchant 17 = .ok (.new 108, 3) := by decide +kernel
theorem dX11_merchant_20 : decode cX11_merchant 20 = .ok (.dup, 1) := by decide +kernel
theorem dX11_merchant_21 : decode cX11_merchant 21 = .ok (.ldc 130, 2) := by decide +kernel
theorem dX11_merchant_23 : decode cX11_merchant 23 = .ok (.invokespecial 112, 3) := by decide +kernel
theorem dX11_merchant_26 : decode cX11_merchant 26 = .ok (.athrow, 1) := by decide +kernel
theorem dX11_merchant_27 : decode cX11_merchant 27 = .ok (.aload_n 0, 1) := by decide +kernel
theorem dX11_merchant_28 : decode cX11_merchant 28 = .ok (.getfield 48, 3) := by decide +kernel
theorem dX11_merchant_31 : decode cX11_merchant 31 = .ok (.iload_n 1, 1) := by decide +kernel
theorem dX11_merchant_32 : decode cX11_merchant 32 = .ok (.iload_n 2, 1) := by decide +kernel
theorem dX11_merchant_33 : decode cX11_merchant 33 = .ok (.invokevirtual 132, 3) := by decide +kernel
theorem dX11_merchant_36 : decode cX11_merchant 36 = .ok (.ireturn, 1) := by decide +kernel
theorem dX11_guild_0 : decode cX11_guild 0 = .ok (.iload_n 1, 1) := by decide +kernel
theorem dX11_guild_1 : decode cX11_guild 1 = .ok (.ifCond .lt 23, 3) := by decide +kernel
theorem dX11_guild_4 : decode cX11_guild 4 = .ok (.iload_n 1, 1) := by decide +kernel
theorem dX11_guild_5 : decode cX11_guild 5 = .ok (.aload_n 0, 1) := by decide +kernel
theorem dX11_guild_6 : decode cX11_guild 6 = .ok (.getfield 39, 3) := by decide +kernel
theorem dX11_guild_9 : decode cX11_guild 9 = .ok (.getfield 135, 3) := by decide +kernel
theorem dX11_guild_12 : decode cX11_guild 12 = .ok (.if_icmp .ge 12, 3) := by decide +kernel
theorem dX11_guild_15 : decode cX11_guild 15 = .ok (.iload_n 2, 1) := by decide +kernel
theorem dX11_guild_16 : decode cX11_guild 16 = .ok (.ifCond .lt 8, 3) := by decide +kernel
theorem dX11_guild_19 : decode cX11_guild 19 = .ok (.iload_n 2, 1) := by decide +kernel
theorem dX11_guild_20 : decode cX11_guild 20 = .ok (.iconst 3, 1) := by decide +kernel
theorem dX11_guild_21 : decode cX11_guild 21 = .ok (.if_icmp .le 13, 3) := by decide +kernel
theorem dX11_guild_24 : decode cX11_guild 24 = .ok (.new 108, 3) := by decide +kernel
theorem dX11_guild_27 : decode cX11_guild 27 = .ok (.dup, 1) := by decide +kernel
theorem dX11_guild_28 : decode cX11_guild 28 = .ok (.ldc 138, 2) := by decide +kernel
theorem dX11_guild_30 : decode cX11_guild 30 = .ok (.invokespecial 112, 3) := by decide +kernel
theorem dX11_guild_33 : decode cX11_guild 33 = .ok (.athrow, 1) := by decide +kernel
theorem dX11_guild_34 : decode cX11_guild 34 = .ok (.aload_n 0, 1) := by decide +kernel
theorem dX11_guild_35 : decode cX11_guild 35 = .ok (.getfield 48, 3) := by decide +kernel
theorem dX11_guild_38 : decode cX11_guild 38 = .ok (.iload_n 1, 1) := by decide +kernel
theorem dX11_guild_39 : decode cX11_guild 39 = .ok (.iload_n 2, 1) := by decide +kernel
theorem dX11_guild_40 : decode cX11_guild 40 = .ok (.invokevirtual 140, 3) := by decide +kernel
theorem dX11_guild_43 : decode cX11_guild 43 = .ok (.ireturn, 1) := by decide +kernel
theorem dX11_order_0 : decode cX11_order 0 = .ok (.iload_n 1, 1) := by decide +kernel
theorem dX11_order_1 : decode cX11_order 1 = .ok (.ifCond .lt 23, 3) := by decide +kernel
theorem dX11_order_4 : decode cX11_order 4 = .ok (.iload_n 1, 1) := by decide +kernel
theorem dX11_order_5 : decode cX11_order 5 = .ok (.aload_n 0, 1) := by decide +kernel
theorem dX11_order_6 : decode cX11_order 6 = .ok (.getfield 39, 3) := by decide +kernel
theorem dX11_order_9 : decode cX11_order 9 = .ok (.getfield 143, 3) := by decide +kernel
theorem dX11_order_12 : decode cX11_order 12 = .ok (.if_icmp .ge 12, 3) := by decide +kernel
theorem dX11_order_15 : decode cX11_order 15 = .ok (.iload_n 2, 1) := by decide +kernel
theorem dX11_order_16 : decode cX11_order 16 = .ok (.ifCond .lt 8, 3) := by decide +kernel
theorem dX11_order_19 : decode cX11_order 19 = .ok (.iload_n 2, 1) := by decide +kernel
theorem dX11_order_20 : decode cX11_order 20 = .ok (.iconst 4, 1) := by decide +kernel
theorem dX11_order_21 : decode cX11_order 21 = .ok (.if_icmp .le 13, 3) := by decide +kernel
theorem dX11_order_24 : decode cX11_order 24 = .ok (.new 108, 3) := by decide +kernel
theorem dX11_order_27 : decode cX11_order 27 = .ok (.dup, 1) := by decide +kernel
theorem dX11_order_28 : decode cX11_order 28 = .ok (.ldc 146, 2) := by decide +kernel
theorem dX11_order_30 : decode cX11_order 30 = .ok (.invokespecial 112, 3) := by decide +kernel
theorem dX11_order_33 : decode cX11_order 33 = .ok (.athrow, 1) := by decide +kernel
theorem dX11_order_34 : decode cX11_order 34 = .ok (.aload_n 0, 1) := by decide +kernel
theorem dX11_order_35 : decode cX11_order 35 = .ok (.iload_n 1, 1) := by decide +kernel
theorem dX11_order_36 : decode cX11_order 36 = .ok (.iload_n 2, 1) := by decide +kernel
theorem dX11_order_37 : decode cX11_order 37 = .ok (.invokevirtual 148, 3) := by decide +kernel
theorem dX11_order_40 : decode cX11_order 40 = .ok (.ireturn, 1) := by decide +kernel
theorem dX11_owes_0 : decode cX11_owes 0 = .ok (.aload_n 0, 1) := by decide +kernel
theorem dX11_owes_1 : decode cX11_owes 1 = .ok (.iload_n 1, 1) := by decide +kernel
theorem dX11_owes_2 : decode cX11_owes 2 = .ok (.invokevirtual 127, 3) := by decide +kernel
theorem dX11_owes_5 : decode cX11_owes 5 = .ok (.ifCond .eq 11, 3) := by decide +kernel
theorem dX11_owes_8 : decode cX11_owes 8 = .ok (.aload_n 0, 1) := by decide +kernel
theorem dX11_owes_9 : decode cX11_owes 9 = .ok (.iload_n 2, 1) := by decide +kernel
theorem dX11_owes_10 : decode cX11_owes 10 = .ok (.invokevirtual 127, 3) := by decide +kernel
theorem dX11_owes_13 : decode cX11_owes 13 = .ok (.ifCond .ne 13, 3) := by decide +kernel
theorem dX11_owes_16 : decode cX11_owes 16 = .ok (.new 108, 3) := by decide +kernel
theorem dX11_owes_19 : decode cX11_owes 19 = .ok (.dup, 1) := by decide +kernel
theorem dX11_owes_20 : decode cX11_owes 20 = .ok (.ldc 151, 2) := by decide +kernel
theorem dX11_owes_22 : decode cX11_owes 22 = .ok (.invokespecial 112, 3) := by decide +kernel
theorem dX11_owes_25 : decode cX11_owes 25 = .ok (.athrow, 1) := by decide +kernel
theorem dX11_owes_26 : decode cX11_owes 26 = .ok (.aload_n 0, 1) := by decide +kernel
theorem dX11_owes_27 : decode cX11_owes 27 = .ok (.getfield 48, 3) := by decide +kernel
theorem dX11_owes_30 : decode cX11_owes 30 = .ok (.getfield 153, 3) := by decide +kernel
theorem dX11_owes_33 : decode cX11_owes 33 = .ok (.iload_n 1, 1) := by decide +kernel
theorem dX11_owes_34 : decode cX11_owes 34 = .ok (.iload_n 2, 1) := by decide +kernel
theorem dX11_owes_35 : decode cX11_owes 35 = .ok (.invokevirtual 157, 3) := by decide +kernel
theorem dX11_owes_38 : decode cX11_owes 38 = .ok (.ireturn, 1) := by decide +kernel
theorem dX11_chain_0 : decode cX11_chain 0 = .ok (.aload_n 0, 1) := by decide +kernel
theorem dX11_chain_1 : decode cX11_chain 1 = .ok (.iload_n 1, 1) := by decide +kernel
theorem dX11_chain_2 : decode cX11_chain 2 = .ok (.invokevirtual 127, 3) := by decide +kernel
theorem dX11_chain_5 : decode cX11_chain 5 = .ok (.ifCond .eq 11, 3) := by decide +kernel
theorem dX11_chain_8 : decode cX11_chain 8 = .ok (.aload_n 0, 1) := by decide +kernel
theorem dX11_chain_9 : decode cX11_chain 9 = .ok (.iload_n 2, 1) := by decide +kernel
theorem dX11_chain_10 : decode cX11_chain 10 = .ok (.invokevirtual 127, 3) := by decide +kernel
theorem dX11_chain_13 : decode cX11_chain 13 = .ok (.ifCond .ne 13, 3) := by decide +kernel
theorem dX11_chain_16 : decode cX11_chain 16 = .ok (.new 108, 3) := by decide +kernel
theorem dX11_chain_19 : decode cX11_chain 19 = .ok (.dup, 1) := by decide +kernel
theorem dX11_chain_20 : decode cX11_chain 20 = .ok (.ldc 151, 2) := by decide +kernel
theorem dX11_chain_22 : decode cX11_chain 22 = .ok (.invokespecial 112, 3) := by decide +kernel
theorem dX11_chain_25 : decode cX11_chain 25 = .ok (.athrow, 1) := by decide +kernel
theorem dX11_chain_26 : decode cX11_chain 26 = .ok (.aload_n 0, 1) := by decide +kernel
theorem dX11_chain_27 : decode cX11_chain 27 = .ok (.getfield 48, 3) := by decide +kernel
theorem dX11_chain_30 : decode cX11_chain 30 = .ok (.getfield 153, 3) := by decide +kernel
theorem dX11_chain_33 : decode cX11_chain 33 = .ok (.iload_n 1, 1) := by decide +kernel
theorem dX11_chain_34 : decode cX11_chain 34 = .ok (.iload_n 2, 1) := by decide +kernel
theorem dX11_chain_35 : decode cX11_chain 35 = .ok (.invokevirtual 162, 3) := by decide +kernel
theorem dX11_chain_38 : decode cX11_chain 38 = .ok (.ireturn, 1) := by decide +kernel
theorem dX11_ring_0 : decode cX11_ring 0 = .ok (.aload_n 0, 1) := by decide +kernel
theorem dX11_ring_1 : decode cX11_ring 1 = .ok (.iload_n 1, 1) := by decide +kernel
theorem dX11_ring_2 : decode cX11_ring 2 = .ok (.invokevirtual 127, 3) := by decide +kernel
theorem dX11_ring_5 : decode cX11_ring 5 = .ok (.ifCond .ne 13, 3) := by decide +kernel
theorem dX11_ring_8 : decode cX11_ring 8 = .ok (.new 108, 3) := by decide +kernel
theorem dX11_ring_11 : decode cX11_ring 11 = .ok (.dup, 1) := by decide +kernel
theorem dX11_ring_12 : decode cX11_ring 12 = .ok (.ldc 151, 2) := by decide +kernel
theorem dX11_ring_14 : decode cX11_ring 14 = .ok (.invokespecial 112, 3) := by decide +kernel
theorem dX11_ring_17 : decode cX11_ring 17 = .ok (.athrow, 1) := by decide +kernel
theorem dX11_ring_18 : decode cX11_ring 18 = .ok (.aload_n 0, 1) := by decide +kernel
theorem dX11_ring_19 : decode cX11_ring 19 = .ok (.getfield 48, 3) := by decide +kernel
theorem dX11_ring_22 : decode cX11_ring 22 = .ok (.getfield 153, 3) := by decide +kernel
theorem dX11_ring_25 : decode cX11_ring 25 = .ok (.iload_n 1, 1) := by decide +kernel
theorem dX11_ring_26 : decode cX11_ring 26 = .ok (.invokevirtual 165, 3) := by decide +kernel
theorem dX11_ring_29 : decode cX11_ring 29 = .ok (.ireturn, 1) := by decide +kernel
theorem dX11_setDamp_0 : decode cX11_setDamp 0 = .ok (.iload_n 1, 1) := by decide +kernel
theorem dX11_setDamp_1 : decode cX11_setDamp 1 = .ok (.ifCond .lt 9, 3) := by decide +kernel
theorem dX11_setDamp_4 : decode cX11_setDamp 4 = .ok (.iload_n 1, 1) := by decide +kernel
theorem dX11_setDamp_5 : decode cX11_setDamp 5 = .ok (.bipush 9, 2) := by decide +kernel
theorem dX11_setDamp_7 : decode cX11_setDamp 7 = .ok (.if_icmp .le 13, 3) := by decide +kernel
theorem dX11_setDamp_10 : decode cX11_setDamp 10 = .ok (.new 84, 3) := by decide +kernel
theorem dX11_setDamp_13 : decode cX11_setDamp 13 = .ok (.dup, 1) := by decide +kernel
theorem dX11_setDamp_14 : decode cX11_setDamp 14 = .ok (.ldc 168, 2) := by decide +kernel
theorem dX11_setDamp_16 : decode cX11_setDamp 16 = .ok (.invokespecial 88, 3) := by decide +kernel
theorem dX11_setDamp_19 : decode cX11_setDamp 19 = .ok (.athrow, 1) := by decide +kernel
theorem dX11_setDamp_20 : decode cX11_setDamp 20 = .ok (.aload_n 0, 1) := by decide +kernel
theorem dX11_setDamp_21 : decode cX11_setDamp 21 = .ok (.getfield 48, 3) := by decide +kernel
theorem dX11_setDamp_24 : decode cX11_setDamp 24 = .ok (.getfield 170, 3) := by decide +kernel
theorem dX11_setDamp_27 : decode cX11_setDamp 27 = .ok (.istore_n 2, 1) := by decide +kernel
theorem dX11_setDamp_28 : decode cX11_setDamp 28 = .ok (.aload_n 0, 1) := by decide +kernel
theorem dX11_setDamp_29 : decode cX11_setDamp 29 = .ok (.getfield 48, 3) := by decide +kernel
theorem dX11_setDamp_32 : decode cX11_setDamp 32 = .ok (.iload_n 1, 1) := by decide +kernel
theorem dX11_setDamp_33 : decode cX11_setDamp 33 = .ok (.putfield 170, 3) := by decide +kernel
theorem dX11_setDamp_36 : decode cX11_setDamp 36 = .ok (.iload_n 2, 1) := by decide +kernel
theorem dX11_setDamp_37 : decode cX11_setDamp 37 = .ok (.ireturn, 1) := by decide +kernel
theorem dX11_lend_0 : decode cX11_lend 0 = .ok (.aload_n 0, 1) := by decide +kernel
theorem dX11_lend_1 : decode cX11_lend 1 = .ok (.iload_n 1, 1) := by decide +kernel
theorem dX11_lend_2 : decode cX11_lend 2 = .ok (.invokevirtual 127, 3) := by decide +kernel
theorem dX11_lend_5 : decode cX11_lend 5 = .ok (.ifCond .eq 11, 3) := by decide +kernel
theorem dX11_lend_8 : decode cX11_lend 8 = .ok (.aload_n 0, 1) := by decide +kernel
theorem dX11_lend_9 : decode cX11_lend 9 = .ok (.iload_n 2, 1) := by decide +kernel
theorem dX11_lend_10 : decode cX11_lend 10 = .ok (.invokevirtual 127, 3) := by decide +kernel
theorem dX11_lend_13 : decode cX11_lend 13 = .ok (.ifCond .ne 13, 3) := by decide +kernel
theorem dX11_lend_16 : decode cX11_lend 16 = .ok (.new 108, 3) := by decide +kernel
theorem dX11_lend_19 : decode cX11_lend 19 = .ok (.dup, 1) := by decide +kernel
theorem dX11_lend_20 : decode cX11_lend 20 = .ok (.ldc 151, 2) := by decide +kernel
theorem dX11_lend_22 : decode cX11_lend 22 = .ok (.invokespecial 112, 3) := by decide +kernel
theorem dX11_lend_25 : decode cX11_lend 25 = .ok (.athrow, 1) := by decide +kernel
theorem dX11_lend_26 : decode cX11_lend 26 = .ok (.iload_n 1, 1) := by decide +kernel
theorem dX11_lend_27 : decode cX11_lend 27 = .ok (.iload_n 2, 1) := by decide +kernel
theorem dX11_lend_28 : decode cX11_lend 28 = .ok (.if_icmp .eq 15, 3) := by decide +kernel
theorem dX11_lend_31 : decode cX11_lend 31 = .ok (.iload_n 3, 1) := by decide +kernel
theorem dX11_lend_32 : decode cX11_lend 32 = .ok (.iconst 1, 1) := by decide +kernel
theorem dX11_lend_33 : decode cX11_lend 33 = .ok (.if_icmp .lt 10, 3) := by decide +kernel
theorem dX11_lend_36 : decode cX11_lend 36 = .ok (.iload_n 3, 1) := by decide +kernel
theorem dX11_lend_37 : decode cX11_lend 37 = .ok (.sipush 9999, 3) := by decide +kernel
theorem dX11_lend_40 : decode cX11_lend 40 = .ok (.if_icmp .le 13, 3) := by decide +kernel
theorem dX11_lend_43 : decode cX11_lend 43 = .ok (.new 84, 3) := by decide +kernel
theorem dX11_lend_46 : decode cX11_lend 46 = .ok (.dup, 1) := by decide +kernel
theorem dX11_lend_47 : decode cX11_lend 47 = .ok (.ldc 173, 2) := by decide +kernel
theorem dX11_lend_49 : decode cX11_lend 49 = .ok (.invokespecial 88, 3) := by decide +kernel
theorem dX11_lend_52 : decode cX11_lend 52 = .ok (.athrow, 1) := by decide +kernel
theorem dX11_lend_53 : decode cX11_lend 53 = .ok (.aload_n 0, 1) := by decide +kernel
theorem dX11_lend_54 : decode cX11_lend 54 = .ok (.getfield 48, 3) := by decide +kernel
theorem dX11_lend_57 : decode cX11_lend 57 = .ok (.getfield 175, 3) := by decide +kernel
theorem dX11_lend_60 : decode cX11_lend 60 = .ok (.iload_n 1, 1) := by decide +kernel
theorem dX11_lend_61 : decode cX11_lend 61 = .ok (.invokevirtual 178, 3) := by decide +kernel
theorem dX11_lend_64 : decode cX11_lend 64 = .ok (.iload_n 3, 1) := by decide +kernel
theorem dX11_lend_65 : decode cX11_lend 65 = .ok (.if_icmp .lt 30, 3) := by decide +kernel
theorem dX11_lend_68 : decode cX11_lend 68 = .ok (.aload_n 0, 1) := by decide +kernel
theorem dX11_lend_69 : decode cX11_lend 69 = .ok (.getfield 48, 3) := by decide +kernel
theorem dX11_lend_72 : decode cX11_lend 72 = .ok (.getfield 153, 3) := by decide +kernel
theorem dX11_lend_75 : decode cX11_lend 75 = .ok (.iload_n 2, 1) := by decide +kernel
theorem dX11_lend_76 : decode cX11_lend 76 = .ok (.invokevirtual 181, 3) := by decide +kernel
theorem dX11_lend_79 : decode cX11_lend 79 = .ok (.iload_n 3, 1) := by decide +kernel
theorem dX11_lend_80 : decode cX11_lend 80 = .ok (.iadd, 1) := by decide +kernel
theorem dX11_lend_81 : decode cX11_lend 81 = .ok (.aload_n 0, 1) := by decide +kernel
theorem dX11_lend_82 : decode cX11_lend 82 = .ok (.getfield 39, 3) := by decide +kernel
theorem dX11_lend_85 : decode cX11_lend 85 = .ok (.getfield 184, 3) := by decide +kernel
theorem dX11_lend_88 : decode cX11_lend 88 = .ok (.iload_n 2, 1) := by decide +kernel
theorem dX11_lend_89 : decode cX11_lend 89 = .ok (.invokevirtual 178, 3) := by decide +kernel
theorem dX11_lend_92 : decode cX11_lend 92 = .ok (.if_icmp .le 13, 3) := by decide +kernel
theorem dX11_lend_95 : decode cX11_lend 95 = .ok (.new 74, 3) := by decide +kernel
theorem dX11_lend_98 : decode cX11_lend 98 = .ok (.dup, 1) := by decide +kernel
theorem dX11_lend_99 : decode cX11_lend 99 = .ok (.ldc 187, 2) := by decide +kernel
theorem dX11_lend_101 : decode cX11_lend 101 = .ok (.invokespecial 78, 3) := by decide +kernel
theorem dX11_lend_104 : decode cX11_lend 104 = .ok (.athrow, 1) := by decide +kernel
theorem dX11_lend_105 : decode cX11_lend 105 = .ok (.aload_n 0, 1) := by decide +kernel
theorem dX11_lend_106 : decode cX11_lend 106 = .ok (.getfield 48, 3) := by decide +kernel
theorem dX11_lend_109 : decode cX11_lend 109 = .ok (.iload_n 1, 1) := by decide +kernel
theorem dX11_lend_110 : decode cX11_lend 110 = .ok (.iload_n 2, 1) := by decide +kernel
theorem dX11_lend_111 : decode cX11_lend 111 = .ok (.iload_n 3, 1) := by decide +kernel
theorem dX11_lend_112 : decode cX11_lend 112 = .ok (.invokevirtual 189, 3) := by decide +kernel
theorem dX11_lend_115 : decode cX11_lend 115 = .ok (.aload_n 0, 1) := by decide +kernel
theorem dX11_lend_116 : decode cX11_lend 116 = .ok (.getfield 48, 3) := by decide +kernel
theorem dX11_lend_119 : decode cX11_lend 119 = .ok (.getfield 153, 3) := by decide +kernel
theorem dX11_lend_122 : decode cX11_lend 122 = .ok (.iload_n 2, 1) := by decide +kernel
theorem dX11_lend_123 : decode cX11_lend 123 = .ok (.iload_n 1, 1) := by decide +kernel
theorem dX11_lend_124 : decode cX11_lend 124 = .ok (.iload_n 3, 1) := by decide +kernel
theorem dX11_lend_125 : decode cX11_lend 125 = .ok (.invokevirtual 193, 3) := by decide +kernel
theorem dX11_lend_128 : decode cX11_lend 128 = .ok (.aload_n 0, 1) := by decide +kernel
theorem dX11_lend_129 : decode cX11_lend 129 = .ok (.getfield 48, 3) := by decide +kernel
theorem dX11_lend_132 : decode cX11_lend 132 = .ok (.getfield 153, 3) := by decide +kernel
theorem dX11_lend_135 : decode cX11_lend 135 = .ok (.iload_n 2, 1) := by decide +kernel
theorem dX11_lend_136 : decode cX11_lend 136 = .ok (.iload_n 1, 1) := by decide +kernel
theorem dX11_lend_137 : decode cX11_lend 137 = .ok (.invokevirtual 157, 3) := by decide +kernel
theorem dX11_lend_140 : decode cX11_lend 140 = .ok (.ireturn, 1) := by decide +kernel
theorem dX11_offset_0 : decode cX11_offset 0 = .ok (.aload_n 0, 1) := by decide +kernel
theorem dX11_offset_1 : decode cX11_offset 1 = .ok (.iload_n 1, 1) := by decide +kernel
theorem dX11_offset_2 : decode cX11_offset 2 = .ok (.invokevirtual 127, 3) := by decide +kernel
theorem dX11_offset_5 : decode cX11_offset 5 = .ok (.ifCond .eq 11, 3) := by decide +kernel
theorem dX11_offset_8 : decode cX11_offset 8 = .ok (.aload_n 0, 1) := by decide +kernel
theorem dX11_offset_9 : decode cX11_offset 9 = .ok (.iload_n 2, 1) := by decide +kernel
theorem dX11_offset_10 : decode cX11_offset 10 = .ok (.invokevirtual 127, 3) := by decide +kernel
theorem dX11_offset_13 : decode cX11_offset 13 = .ok (.ifCond .ne 13, 3) := by decide +kernel
theorem dX11_offset_16 : decode cX11_offset 16 = .ok (.new 108, 3) := by decide +kernel
theorem dX11_offset_19 : decode cX11_offset 19 = .ok (.dup, 1) := by decide +kernel
theorem dX11_offset_20 : decode cX11_offset 20 = .ok (.ldc 151, 2) := by decide +kernel
theorem dX11_offset_22 : decode cX11_offset 22 = .ok (.invokespecial 112, 3) := by decide +kernel
theorem dX11_offset_25 : decode cX11_offset 25 = .ok (.athrow, 1) := by decide +kernel
theorem dX11_offset_26 : decode cX11_offset 26 = .ok (.iload_n 1, 1) := by decide +kernel
theorem dX11_offset_27 : decode cX11_offset 27 = .ok (.iload_n 2, 1) := by decide +kernel
theorem dX11_offset_28 : decode cX11_offset 28 = .ok (.if_icmp .ne 13, 3) := by decide +kernel
theorem dX11_offset_31 : decode cX11_offset 31 = .ok (.new 84, 3) := by decide +kernel
theorem dX11_offset_34 : decode cX11_offset 34 = .ok (.dup, 1) := by decide +kernel
theorem dX11_offset_35 : decode cX11_offset 35 = .ok (.ldc 196, 2) := by decide +kernel
theorem dX11_offset_37 : decode cX11_offset 37 = .ok (.invokespecial 88, 3) := by decide +kernel
theorem dX11_offset_40 : decode cX11_offset 40 = .ok (.athrow, 1) := by decide +kernel
theorem dX11_offset_41 : decode cX11_offset 41 = .ok (.aload_n 0, 1) := by decide +kernel
theorem dX11_offset_42 : decode cX11_offset 42 = .ok (.getfield 48, 3) := by decide +kernel
theorem dX11_offset_45 : decode cX11_offset 45 = .ok (.getfield 153, 3) := by decide +kernel
theorem dX11_offset_48 : decode cX11_offset 48 = .ok (.iload_n 1, 1) := by decide +kernel
theorem dX11_offset_49 : decode cX11_offset 49 = .ok (.iload_n 2, 1) := by decide +kernel
theorem dX11_offset_50 : decode cX11_offset 50 = .ok (.invokevirtual 157, 3) := by decide +kernel
theorem dX11_offset_53 : decode cX11_offset 53 = .ok (.aload_n 0, 1) := by decide +kernel
theorem dX11_offset_54 : decode cX11_offset 54 = .ok (.getfield 48, 3) := by decide +kernel
theorem dX11_offset_57 : decode cX11_offset 57 = .ok (.getfield 153, 3) := by decide +kernel
theorem dX11_offset_60 : decode cX11_offset 60 = .ok (.iload_n 2, 1) := by decide +kernel
theorem dX11_offset_61 : decode cX11_offset 61 = .ok (.iload_n 1, 1) := by decide +kernel
theorem dX11_offset_62 : decode cX11_offset 62 = .ok (.invokevirtual 157, 3) := by decide +kernel
theorem dX11_offset_65 : decode cX11_offset 65 = .ok (.invokestatic 198, 3) := by decide +kernel
theorem dX11_offset_68 : decode cX11_offset 68 = .ok (.istore_n 3, 1) := by decide +kernel
theorem dX11_offset_69 : decode cX11_offset 69 = .ok (.aload_n 0, 1) := by decide +kernel
theorem dX11_offset_70 : decode cX11_offset 70 = .ok (.getfield 48, 3) := by decide +kernel
theorem dX11_offset_73 : decode cX11_offset 73 = .ok (.getfield 153, 3) := by decide +kernel
theorem dX11_offset_76 : decode cX11_offset 76 = .ok (.iload_n 1, 1) := by decide +kernel
theorem dX11_offset_77 : decode cX11_offset 77 = .ok (.iload_n 2, 1) := by decide +kernel
theorem dX11_offset_78 : decode cX11_offset 78 = .ok (.iload_n 3, 1) := by decide +kernel
theorem dX11_offset_79 : decode cX11_offset 79 = .ok (.ineg, 1) := by decide +kernel
theorem dX11_offset_80 : decode cX11_offset 80 = .ok (.invokevirtual 193, 3) := by decide +kernel
theorem dX11_offset_83 : decode cX11_offset 83 = .ok (.aload_n 0, 1) := by decide +kernel
theorem dX11_offset_84 : decode cX11_offset 84 = .ok (.getfield 48, 3) := by decide +kernel
theorem dX11_offset_87 : decode cX11_offset 87 = .ok (.getfield 153, 3) := by decide +kernel
theorem dX11_offset_90 : decode cX11_offset 90 = .ok (.iload_n 2, 1) := by decide +kernel
theorem dX11_offset_91 : decode cX11_offset 91 = .ok (.iload_n 1, 1) := by decide +kernel
theorem dX11_offset_92 : decode cX11_offset 92 = .ok (.iload_n 3, 1) := by decide +kernel
theorem dX11_offset_93 : decode cX11_offset 93 = .ok (.ineg, 1) := by decide +kernel
theorem dX11_offset_94 : decode cX11_offset 94 = .ok (.invokevirtual 193, 3) := by decide +kernel
theorem dX11_offset_97 : decode cX11_offset 97 = .ok (.iload_n 3, 1) := by decide +kernel
theorem dX11_offset_98 : decode cX11_offset 98 = .ok (.ireturn, 1) := by decide +kernel
theorem dX11_dry_0 : decode cX11_dry 0 = .ok (.aload_n 0, 1) := by decide +kernel
theorem dX11_dry_1 : decode cX11_dry 1 = .ok (.iload_n 1, 1) := by decide +kernel
theorem dX11_dry_2 : decode cX11_dry 2 = .ok (.invokevirtual 117, 3) := by decide +kernel
theorem dX11_dry_5 : decode cX11_dry 5 = .ok (.ifCond .ne 13, 3) := by decide +kernel
theorem dX11_dry_8 : decode cX11_dry 8 = .ok (.new 108, 3) := by decide +kernel
theorem dX11_dry_11 : decode cX11_dry 11 = .ok (.dup, 1) := by decide +kernel
theorem dX11_dry_12 : decode cX11_dry 12 = .ok (.ldc 203, 2) := by decide +kernel
theorem dX11_dry_14 : decode cX11_dry 14 = .ok (.invokespecial 112, 3) := by decide +kernel
theorem dX11_dry_17 : decode cX11_dry 17 = .ok (.athrow, 1) := by decide +kernel
theorem dX11_dry_18 : decode cX11_dry 18 = .ok (.aload_n 0, 1) := by decide +kernel
theorem dX11_dry_19 : decode cX11_dry 19 = .ok (.getfield 48, 3) := by decide +kernel
theorem dX11_dry_22 : decode cX11_dry 22 = .ok (.getfield 205, 3) := by decide +kernel
theorem dX11_dry_25 : decode cX11_dry 25 = .ok (.iload_n 1, 1) := by decide +kernel
theorem dX11_dry_26 : decode cX11_dry 26 = .ok (.invokevirtual 178, 3) := by decide +kernel
theorem dX11_dry_29 : decode cX11_dry 29 = .ok (.istore_n 2, 1) := by decide +kernel
theorem dX11_dry_30 : decode cX11_dry 30 = .ok (.aload_n 0, 1) := by decide +kernel
theorem dX11_dry_31 : decode cX11_dry 31 = .ok (.getfield 48, 3) := by decide +kernel
theorem dX11_dry_34 : decode cX11_dry 34 = .ok (.getfield 205, 3) := by decide +kernel
theorem dX11_dry_37 : decode cX11_dry 37 = .ok (.iload_n 1, 1) := by decide +kernel
theorem dX11_dry_38 : decode cX11_dry 38 = .ok (.iload_n 2, 1) := by decide +kernel
theorem dX11_dry_39 : decode cX11_dry 39 = .ok (.iload_n 2, 1) := by decide +kernel
theorem dX11_dry_40 : decode cX11_dry 40 = .ok (.bipush 10, 2) := by decide +kernel
theorem dX11_dry_42 : decode cX11_dry 42 = .ok (.idiv, 1) := by decide +kernel
theorem dX11_dry_43 : decode cX11_dry 43 = .ok (.isub, 1) := by decide +kernel
theorem dX11_dry_44 : decode cX11_dry 44 = .ok (.invokevirtual 208, 3) := by decide +kernel
theorem dX11_dry_47 : decode cX11_dry 47 = .ok (.aload_n 0, 1) := by decide +kernel
theorem dX11_dry_48 : decode cX11_dry 48 = .ok (.getfield 48, 3) := by decide +kernel
theorem dX11_dry_51 : decode cX11_dry 51 = .ok (.iload_n 1, 1) := by decide +kernel
theorem dX11_dry_52 : decode cX11_dry 52 = .ok (.invokevirtual 212, 3) := by decide +kernel
theorem dX11_dry_55 : decode cX11_dry 55 = .ok (.aload_n 0, 1) := by decide +kernel
theorem dX11_dry_56 : decode cX11_dry 56 = .ok (.getfield 48, 3) := by decide +kernel
theorem dX11_dry_59 : decode cX11_dry 59 = .ok (.getfield 205, 3) := by decide +kernel
theorem dX11_dry_62 : decode cX11_dry 62 = .ok (.iload_n 1, 1) := by decide +kernel
theorem dX11_dry_63 : decode cX11_dry 63 = .ok (.invokevirtual 178, 3) := by decide +kernel
theorem dX11_dry_66 : decode cX11_dry 66 = .ok (.ireturn, 1) := by decide +kernel
theorem dX11_pass_0 : decode cX11_pass 0 = .ok (.iload_n 1, 1) := by decide +kernel
theorem dX11_pass_1 : decode cX11_pass 1 = .ok (.iconst 1, 1) := by decide +kernel
theorem dX11_pass_2 : decode cX11_pass 2 = .ok (.if_icmp .lt 9, 3) := by decide +kernel
theorem dX11_pass_5 : decode cX11_pass 5 = .ok (.iload_n 1, 1) := by decide +kernel
theorem dX11_pass_6 : decode cX11_pass 6 = .ok (.bipush 120, 2) := by decide +kernel
theorem dX11_pass_8 : decode cX11_pass 8 = .ok (.if_icmp .le 13, 3) := by decide +kernel
theorem dX11_pass_11 : decode cX11_pass 11 = .ok (.new 84, 3) := by decide +kernel
theorem dX11_pass_14 : decode cX11_pass 14 = .ok (.dup, 1) := by decide +kernel
theorem dX11_pass_15 : decode cX11_pass 15 = .ok (.ldc 215, 2) := by decide +kernel
theorem dX11_pass_17 : decode cX11_pass 17 = .ok (.invokespecial 88, 3) := by decide +kernel
theorem dX11_pass_20 : decode cX11_pass 20 = .ok (.athrow, 1) := by decide +kernel
theorem dX11_pass_21 : decode cX11_pass 21 = .ok (.aload_n 0, 1) := by decide +kernel
theorem dX11_pass_22 : decode cX11_pass 22 = .ok (.getfield 57, 3) := by decide +kernel
theorem dX11_pass_25 : decode cX11_pass 25 = .ok (.iload_n 1, 1) := by decide +kernel
theorem dX11_pass_26 : decode cX11_pass 26 = .ok (.invokevirtual 217, 3) := by decide +kernel
theorem dX11_pass_29 : decode cX11_pass 29 = .ok (.ireturn, 1) := by decide +kernel
theorem dX11_foresee_0 : decode cX11_foresee 0 = .ok (.iload_n 1, 1) := by decide +kernel
theorem dX11_foresee_1 : decode cX11_foresee 1 = .ok (.iconst 1, 1) := by decide +kernel
theorem dX11_foresee_2 : decode cX11_foresee 2 = .ok (.if_icmp .lt 9, 3) := by decide +kernel
theorem dX11_foresee_5 : decode cX11_foresee 5 = .ok (.iload_n 1, 1) := by decide +kernel
theorem dX11_foresee_6 : decode cX11_foresee 6 = .ok (.bipush 120, 2) := by decide +kernel
theorem dX11_foresee_8 : decode cX11_foresee 8 = .ok (.if_icmp .le 13, 3) := by decide +kernel
theorem dX11_foresee_11 : decode cX11_foresee 11 = .ok (.new 84, 3) := by decide +kernel
theorem dX11_foresee_14 : decode cX11_foresee 14 = .ok (.dup, 1) := by decide +kernel
theorem dX11_foresee_15 : decode cX11_foresee 15 = .ok (.ldc 215, 2) := by decide +kernel
theorem dX11_foresee_17 : decode cX11_foresee 17 = .ok (.invokespecial 88, 3) := by decide +kernel
theorem dX11_foresee_20 : decode cX11_foresee 20 = .ok (.athrow, 1) := by decide +kernel
theorem dX11_foresee_21 : decode cX11_foresee 21 = .ok (.iload_n 2, 1) := by decide +kernel
theorem dX11_foresee_22 : decode cX11_foresee 22 = .ok (.ifCond .eq 25, 3) := by decide +kernel
theorem dX11_foresee_25 : decode cX11_foresee 25 = .ok (.iload_n 2, 1) := by decide +kernel
theorem dX11_foresee_26 : decode cX11_foresee 26 = .ok (.bipush 7, 2) := by decide +kernel
theorem dX11_foresee_28 : decode cX11_foresee 28 = .ok (.if_icmp .lt 9, 3) := by decide +kernel
theorem dX11_foresee_31 : decode cX11_foresee 31 = .ok (.iload_n 2, 1) := by decide +kernel
theorem dX11_foresee_32 : decode cX11_foresee 32 = .ok (.bipush 12, 2) := by decide +kernel
theorem dX11_foresee_34 : decode cX11_foresee 34 = .ok (.if_icmp .le 13, 3) := by decide +kernel
theorem dX11_foresee_37 : decode cX11_foresee 37 = .ok (.new 108, 3) := by decide +kernel
theorem dX11_foresee_40 : decode cX11_foresee 40 = .ok (.dup, 1) := by decide +kernel
theorem dX11_foresee_41 : decode cX11_foresee 41 = .ok (.ldc 220, 2) := by decide +kernel
theorem dX11_foresee_43 : decode cX11_foresee 43 = .ok (.invokespecial 112, 3) := by decide +kernel
theorem dX11_foresee_46 : decode cX11_foresee 46 = .ok (.athrow, 1) := by decide +kernel
theorem dX11_foresee_47 : decode cX11_foresee 47 = .ok (.aload_n 0, 1) := by decide +kernel
theorem dX11_foresee_48 : decode cX11_foresee 48 = .ok (.getfield 61, 3) := by decide +kernel
theorem dX11_foresee_51 : decode cX11_foresee 51 = .ok (.aload_n 0, 1) := by decide +kernel
theorem dX11_foresee_52 : decode cX11_foresee 52 = .ok (.getfield 48, 3) := by decide +kernel
theorem dX11_foresee_55 : decode cX11_foresee 55 = .ok (.invokevirtual 222, 3) := by decide +kernel
theorem dX11_foresee_58 : decode cX11_foresee 58 = .ok (.aload_n 0, 1) := by decide +kernel
theorem dX11_foresee_59 : decode cX11_foresee 59 = .ok (.getfield 64, 3) := by decide +kernel
theorem dX11_foresee_62 : decode cX11_foresee 62 = .ok (.iload_n 1, 1) := by decide +kernel
theorem dX11_foresee_63 : decode cX11_foresee 63 = .ok (.invokevirtual 217, 3) := by decide +kernel
theorem dX11_foresee_66 : decode cX11_foresee 66 = .ok (.istore_n 3, 1) := by decide +kernel
theorem dX11_foresee_67 : decode cX11_foresee 67 = .ok (.iload_n 2, 1) := by decide +kernel
theorem dX11_foresee_68 : decode cX11_foresee 68 = .ok (.ifCond .ne 7, 3) := by decide +kernel
theorem dX11_foresee_71 : decode cX11_foresee 71 = .ok (.iload_n 3, 1) := by decide +kernel
theorem dX11_foresee_72 : decode cX11_foresee 72 = .ok (.goto 11, 3) := by decide +kernel
theorem dX11_foresee_75 : decode cX11_foresee 75 = .ok (.aload_n 0, 1) := by decide +kernel
theorem dX11_foresee_76 : decode cX11_foresee 76 = .ok (.getfield 61, 3) := by decide +kernel
theorem dX11_foresee_79 : decode cX11_foresee 79 = .ok (.iload_n 2, 1) := by decide +kernel
theorem dX11_foresee_80 : decode cX11_foresee 80 = .ok (.invokevirtual 225, 3) := by decide +kernel
theorem dX11_foresee_83 : decode cX11_foresee 83 = .ok (.ireturn, 1) := by decide +kernel
theorem dX11_costs_0 : decode cX11_costs 0 = .ok (.iload_n 1, 1) := by decide +kernel
theorem dX11_costs_1 : decode cX11_costs 1 = .ok (.iconst 1, 1) := by decide +kernel
theorem dX11_costs_2 : decode cX11_costs 2 = .ok (.if_icmp .lt 19, 3) := by decide +kernel
theorem dX11_costs_5 : decode cX11_costs 5 = .ok (.iload_n 1, 1) := by decide +kernel
theorem dX11_costs_6 : decode cX11_costs 6 = .ok (.bipush 90, 2) := by decide +kernel
theorem dX11_costs_8 : decode cX11_costs 8 = .ok (.if_icmp .gt 13, 3) := by decide +kernel
theorem dX11_costs_11 : decode cX11_costs 11 = .ok (.iload_n 2, 1) := by decide +kernel
theorem dX11_costs_12 : decode cX11_costs 12 = .ok (.ifCond .lt 9, 3) := by decide +kernel
theorem dX11_costs_15 : decode cX11_costs 15 = .ok (.iload_n 2, 1) := by decide +kernel
theorem dX11_costs_16 : decode cX11_costs 16 = .ok (.bipush 9, 2) := by decide +kernel
theorem dX11_costs_18 : decode cX11_costs 18 = .ok (.if_icmp .le 13, 3) := by decide +kernel
theorem dX11_costs_21 : decode cX11_costs 21 = .ok (.new 84, 3) := by decide +kernel
theorem dX11_costs_24 : decode cX11_costs 24 = .ok (.dup, 1) := by decide +kernel
theorem dX11_costs_25 : decode cX11_costs 25 = .ok (.ldc 228, 2) := by decide +kernel
theorem dX11_costs_27 : decode cX11_costs 27 = .ok (.invokespecial 88, 3) := by decide +kernel
theorem dX11_costs_30 : decode cX11_costs 30 = .ok (.athrow, 1) := by decide +kernel
theorem dX11_costs_31 : decode cX11_costs 31 = .ok (.aload_n 0, 1) := by decide +kernel
theorem dX11_costs_32 : decode cX11_costs 32 = .ok (.getfield 61, 3) := by decide +kernel
theorem dX11_costs_35 : decode cX11_costs 35 = .ok (.aload_n 0, 1) := by decide +kernel
theorem dX11_costs_36 : decode cX11_costs 36 = .ok (.getfield 48, 3) := by decide +kernel
theorem dX11_costs_39 : decode cX11_costs 39 = .ok (.invokevirtual 222, 3) := by decide +kernel
theorem dX11_costs_42 : decode cX11_costs 42 = .ok (.aload_n 0, 1) := by decide +kernel
theorem dX11_costs_43 : decode cX11_costs 43 = .ok (.getfield 61, 3) := by decide +kernel
theorem dX11_costs_46 : decode cX11_costs 46 = .ok (.iload_n 2, 1) := by decide +kernel
theorem dX11_costs_47 : decode cX11_costs 47 = .ok (.putfield 170, 3) := by decide +kernel
theorem dX11_costs_50 : decode cX11_costs 50 = .ok (.iconst 0, 1) := by decide +kernel
theorem dX11_costs_51 : decode cX11_costs 51 = .ok (.istore_n 3, 1) := by decide +kernel
theorem dX11_costs_52 : decode cX11_costs 52 = .ok (.iload_n 3, 1) := by decide +kernel
theorem dX11_costs_53 : decode cX11_costs 53 = .ok (.iload_n 1, 1) := by decide +kernel
theorem dX11_costs_54 : decode cX11_costs 54 = .ok (.if_icmp .ge 16, 3) := by decide +kernel
theorem dX11_costs_57 : decode cX11_costs 57 = .ok (.aload_n 0, 1) := by decide +kernel
theorem dX11_costs_58 : decode cX11_costs 58 = .ok (.getfield 61, 3) := by decide +kernel
theorem dX11_costs_61 : decode cX11_costs 61 = .ok (.invokevirtual 230, 3) := by decide +kernel
theorem dX11_costs_64 : decode cX11_costs 64 = .ok (.iinc 3 1, 3) := by decide +kernel
theorem dX11_costs_67 : decode cX11_costs 67 = .ok (.goto (-15), 3) := by decide +kernel
theorem dX11_costs_70 : decode cX11_costs 70 = .ok (.aload_n 0, 1) := by decide +kernel
theorem dX11_costs_71 : decode cX11_costs 71 = .ok (.getfield 48, 3) := by decide +kernel
theorem dX11_costs_74 : decode cX11_costs 74 = .ok (.invokevirtual 233, 3) := by decide +kernel
theorem dX11_costs_77 : decode cX11_costs 77 = .ok (.aload_n 0, 1) := by decide +kernel
theorem dX11_costs_78 : decode cX11_costs 78 = .ok (.getfield 61, 3) := by decide +kernel
theorem dX11_costs_81 : decode cX11_costs 81 = .ok (.invokevirtual 233, 3) := by decide +kernel
theorem dX11_costs_84 : decode cX11_costs 84 = .ok (.isub, 1) := by decide +kernel
theorem dX11_costs_85 : decode cX11_costs 85 = .ok (.ireturn, 1) := by decide +kernel
theorem dX11_richest_0 : decode cX11_richest 0 = .ok (.iload_n 1, 1) := by decide +kernel
theorem dX11_richest_1 : decode cX11_richest 1 = .ok (.iconst 1, 1) := by decide +kernel
theorem dX11_richest_2 : decode cX11_richest 2 = .ok (.if_icmp .lt 9, 3) := by decide +kernel
theorem dX11_richest_5 : decode cX11_richest 5 = .ok (.iload_n 1, 1) := by decide +kernel
theorem dX11_richest_6 : decode cX11_richest 6 = .ok (.bipush 90, 2) := by decide +kernel
theorem dX11_richest_8 : decode cX11_richest 8 = .ok (.if_icmp .le 13, 3) := by decide +kernel
theorem dX11_richest_11 : decode cX11_richest 11 = .ok (.new 84, 3) := by decide +kernel
theorem dX11_richest_14 : decode cX11_richest 14 = .ok (.dup, 1) := by decide +kernel
theorem dX11_richest_15 : decode cX11_richest 15 = .ok (.ldc 236, 2) := by decide +kernel
theorem dX11_richest_17 : decode cX11_richest 17 = .ok (.invokespecial 88, 3) := by decide +kernel
theorem dX11_richest_20 : decode cX11_richest 20 = .ok (.athrow, 1) := by decide +kernel
theorem dX11_richest_21 : decode cX11_richest 21 = .ok (.aload_n 0, 1) := by decide +kernel
theorem dX11_richest_22 : decode cX11_richest 22 = .ok (.getfield 61, 3) := by decide +kernel
theorem dX11_richest_25 : decode cX11_richest 25 = .ok (.aload_n 0, 1) := by decide +kernel
theorem dX11_richest_26 : decode cX11_richest 26 = .ok (.getfield 48, 3) := by decide +kernel
theorem dX11_richest_29 : decode cX11_richest 29 = .ok (.invokevirtual 222, 3) := by decide +kernel
theorem dX11_richest_32 : decode cX11_richest 32 = .ok (.aload_n 0, 1) := by decide +kernel
theorem dX11_richest_33 : decode cX11_richest 33 = .ok (.getfield 64, 3) := by decide +kernel
theorem dX11_richest_36 : decode cX11_richest 36 = .ok (.iload_n 1, 1) := by decide +kernel
theorem dX11_richest_37 : decode cX11_richest 37 = .ok (.invokevirtual 217, 3) := by decide +kernel
theorem dX11_richest_40 : decode cX11_richest 40 = .ok (.pop, 1) := by decide +kernel
theorem dX11_richest_41 : decode cX11_richest 41 = .ok (.iconst (-1), 1) := by decide +kernel
theorem dX11_richest_42 : decode cX11_richest 42 = .ok (.istore_n 2, 1) := by decide +kernel
theorem dX11_richest_43 : decode cX11_richest 43 = .ok (.iconst 0, 1) := by decide +kernel
theorem dX11_richest_44 : decode cX11_richest 44 = .ok (.istore_n 3, 1) := by decide +kernel
theorem dX11_richest_45 : decode cX11_richest 45 = .ok (.iload_n 3, 1) := by decide +kernel
theorem dX11_richest_46 : decode cX11_richest 46 = .ok (.aload_n 0, 1) := by decide +kernel
theorem dX11_richest_47 : decode cX11_richest 47 = .ok (.getfield 39, 3) := by decide +kernel
theorem dX11_richest_50 : decode cX11_richest 50 = .ok (.getfield 238, 3) := by decide +kernel
theorem dX11_richest_53 : decode cX11_richest 53 = .ok (.if_icmp .ge 34, 3) := by decide +kernel
theorem dX11_richest_56 : decode cX11_richest 56 = .ok (.iload_n 2, 1) := by decide +kernel
theorem dX11_richest_57 : decode cX11_richest 57 = .ok (.ifCond .lt 22, 3) := by decide +kernel
theorem dX11_richest_60 : decode cX11_richest 60 = .ok (.aload_n 0, 1) := by decide +kernel
theorem dX11_richest_61 : decode cX11_richest 61 = .ok (.getfield 61, 3) := by decide +kernel
theorem dX11_richest_64 : decode cX11_richest 64 = .ok (.iload_n 3, 1) := by decide +kernel
theorem dX11_richest_65 : decode cX11_richest 65 = .ok (.invokevirtual 241, 3) := by decide +kernel
theorem dX11_richest_68 : decode cX11_richest 68 = .ok (.aload_n 0, 1) := by decide +kernel
theorem dX11_richest_69 : decode cX11_richest 69 = .ok (.getfield 61, 3) := by decide +kernel
theorem dX11_richest_72 : decode cX11_richest 72 = .ok (.iload_n 2, 1) := by decide +kernel
theorem dX11_richest_73 : decode cX11_richest 73 = .ok (.invokevirtual 241, 3) := by decide +kernel
theorem dX11_richest_76 : decode cX11_richest 76 = .ok (.if_icmp .le 5, 3) := by decide +kernel
theorem dX11_richest_79 : decode cX11_richest 79 = .ok (.iload_n 3, 1) := by decide +kernel
theorem dX11_richest_80 : decode cX11_richest 80 = .ok (.istore_n 2, 1) := by decide +kernel
theorem dX11_richest_81 : decode cX11_richest 81 = .ok (.iinc 3 1, 3) := by decide +kernel
theorem dX11_richest_84 : decode cX11_richest 84 = .ok (.goto (-39), 3) := by decide +kernel
theorem dX11_richest_87 : decode cX11_richest 87 = .ok (.iload_n 2, 1) := by decide +kernel
theorem dX11_richest_88 : decode cX11_richest 88 = .ok (.ireturn, 1) := by decide +kernel
theorem dX11_until_0 : decode cX11_until 0 = .ok (.aload_n 0, 1) := by decide +kernel
theorem dX11_until_1 : decode cX11_until 1 = .ok (.iload_n 1, 1) := by decide +kernel
theorem dX11_until_2 : decode cX11_until 2 = .ok (.invokevirtual 127, 3) := by decide +kernel
theorem dX11_until_5 : decode cX11_until 5 = .ok (.ifCond .ne 13, 3) := by decide +kernel
theorem dX11_until_8 : decode cX11_until 8 = .ok (.new 108, 3) := by decide +kernel
theorem dX11_until_11 : decode cX11_until 11 = .ok (.dup, 1) := by decide +kernel
theorem dX11_until_12 : decode cX11_until 12 = .ok (.ldc 151, 2) := by decide +kernel
theorem dX11_until_14 : decode cX11_until 14 = .ok (.invokespecial 112, 3) := by decide +kernel
theorem dX11_until_17 : decode cX11_until 17 = .ok (.athrow, 1) := by decide +kernel
theorem dX11_until_18 : decode cX11_until 18 = .ok (.aload_n 0, 1) := by decide +kernel
theorem dX11_until_19 : decode cX11_until 19 = .ok (.getfield 61, 3) := by decide +kernel
theorem dX11_until_22 : decode cX11_until 22 = .ok (.aload_n 0, 1) := by decide +kernel
theorem dX11_until_23 : decode cX11_until 23 = .ok (.getfield 48, 3) := by decide +kernel
theorem dX11_until_26 : decode cX11_until 26 = .ok (.invokevirtual 222, 3) := by decide +kernel
theorem dX11_until_29 : decode cX11_until 29 = .ok (.iconst 0, 1) := by decide +kernel
theorem dX11_until_30 : decode cX11_until 30 = .ok (.istore_n 2, 1) := by decide +kernel
theorem dX11_until_31 : decode cX11_until 31 = .ok (.iload_n 2, 1) := by decide +kernel
theorem dX11_until_32 : decode cX11_until 32 = .ok (.sipush 150, 3) := by decide +kernel
theorem dX11_until_35 : decode cX11_until 35 = .ok (.if_icmp .ge 31, 3) := by decide +kernel
theorem dX11_until_38 : decode cX11_until 38 = .ok (.aload_n 0, 1) := by decide +kernel
theorem dX11_until_39 : decode cX11_until 39 = .ok (.getfield 61, 3) := by decide +kernel
theorem dX11_until_42 : decode cX11_until 42 = .ok (.iload_n 1, 1) := by decide +kernel
theorem dX11_until_43 : decode cX11_until 43 = .ok (.invokevirtual 244, 3) := by decide +kernel
theorem dX11_until_46 : decode cX11_until 46 = .ok (.ifCond .eq 5, 3) := by decide +kernel
theorem dX11_until_49 : decode cX11_until 49 = .ok (.iload_n 2, 1) := by decide +kernel
theorem dX11_until_50 : decode cX11_until 50 = .ok (.ireturn, 1) := by decide +kernel
theorem dX11_until_51 : decode cX11_until 51 = .ok (.aload_n 0, 1) := by decide +kernel
theorem dX11_until_52 : decode cX11_until 52 = .ok (.getfield 64, 3) := by decide +kernel
theorem dX11_until_55 : decode cX11_until 55 = .ok (.iconst 1, 1) := by decide +kernel
theorem dX11_until_56 : decode cX11_until 56 = .ok (.invokevirtual 217, 3) := by decide +kernel
theorem dX11_until_59 : decode cX11_until 59 = .ok (.pop, 1) := by decide +kernel
theorem dX11_until_60 : decode cX11_until 60 = .ok (.iinc 2 1, 3) := by decide +kernel
theorem dX11_until_63 : decode cX11_until 63 = .ok (.goto (-32), 3) := by decide +kernel
theorem dX11_until_66 : decode cX11_until 66 = .ok (.aload_n 0, 1) := by decide +kernel
theorem dX11_until_67 : decode cX11_until 67 = .ok (.getfield 61, 3) := by decide +kernel
theorem dX11_until_70 : decode cX11_until 70 = .ok (.iload_n 1, 1) := by decide +kernel
theorem dX11_until_71 : decode cX11_until 71 = .ok (.invokevirtual 244, 3) := by decide +kernel
theorem dX11_until_74 : decode cX11_until 74 = .ok (.ifCond .eq 9, 3) := by decide +kernel
theorem dX11_until_77 : decode cX11_until 77 = .ok (.sipush 150, 3) := by decide +kernel
theorem dX11_until_80 : decode cX11_until 80 = .ok (.goto 4, 3) := by decide +kernel
theorem dX11_until_83 : decode cX11_until 83 = .ok (.iconst (-1), 1) := by decide +kernel
theorem dX11_until_84 : decode cX11_until 84 = .ok (.ireturn, 1) := by decide +kernel
theorem dX11_mean_0 : decode cX11_mean 0 = .ok (.aload_n 0, 1) := by decide +kernel
theorem dX11_mean_1 : decode cX11_mean 1 = .ok (.getfield 39, 3) := by decide +kernel
theorem dX11_mean_4 : decode cX11_mean 4 = .ok (.getfield 247, 3) := by decide +kernel
theorem dX11_mean_7 : decode cX11_mean 7 = .ok (.ifCond .le 23, 3) := by decide +kernel
theorem dX11_mean_10 : decode cX11_mean 10 = .ok (.aload_n 0, 1) := by decide +kernel
theorem dX11_mean_11 : decode cX11_mean 11 = .ok (.getfield 48, 3) := by decide +kernel
theorem dX11_mean_14 : decode cX11_mean 14 = .ok (.invokevirtual 233, 3) := by decide +kernel
theorem dX11_mean_17 : decode cX11_mean 17 = .ok (.i2d, 1) := by decide +kernel
theorem dX11_mean_18 : decode cX11_mean 18 = .ok (.aload_n 0, 1) := by decide +kernel
theorem dX11_mean_19 : decode cX11_mean 19 = .ok (.getfield 39, 3) := by decide +kernel
theorem dX11_mean_22 : decode cX11_mean 22 = .ok (.getfield 247, 3) := by decide +kernel
theorem dX11_mean_25 : decode cX11_mean 25 = .ok (.i2d, 1) := by decide +kernel
theorem dX11_mean_26 : decode cX11_mean 26 = .ok (.ddiv, 1) := by decide +kernel
theorem dX11_mean_27 : decode cX11_mean 27 = .ok (.goto 4, 3) := by decide +kernel
theorem dX11_mean_30 : decode cX11_mean 30 = .ok (.dconst 0, 1) := by decide +kernel
theorem dX11_mean_31 : decode cX11_mean 31 = .ok (.dreturn, 1) := by decide +kernel
theorem dX11_digest_0 : decode cX11_digest 0 = .ok (.ldc2_w 250, 3) := by decide +kernel
theorem dX11_digest_3 : decode cX11_digest 3 = .ok (.lstore_n 1, 1) := by decide +kernel
theorem dX11_digest_4 : decode cX11_digest 4 = .ok (.iconst 0, 1) := by decide +kernel
theorem dX11_digest_5 : decode cX11_digest 5 = .ok (.istore_n 3, 1) := by decide +kernel
theorem dX11_digest_6 : decode cX11_digest 6 = .ok (.iload_n 3, 1) := by decide +kernel
theorem dX11_digest_7 : decode cX11_digest 7 = .ok (.bipush 13, 2) := by decide +kernel
theorem dX11_digest_9 : decode cX11_digest 9 = .ok (.if_icmp .gt 22, 3) := by decide +kernel
theorem dX11_digest_12 : decode cX11_digest 12 = .ok (.lload_n 1, 1) := by decide +kernel
theorem dX11_digest_13 : decode cX11_digest 13 = .ok (.ldc2_w 252, 3) := by decide +kernel
theorem dX11_digest_16 : decode cX11_digest 16 = .ok (.lmul, 1) := by decide +kernel
theorem dX11_digest_17 : decode cX11_digest 17 = .ok (.aload_n 0, 1) := by decide +kernel
theorem dX11_digest_18 : decode cX11_digest 18 = .ok (.iload_n 3, 1) := by decide +kernel
theorem dX11_digest_19 : decode cX11_digest 19 = .ok (.invokevirtual 113, 3) := by decide +kernel
theorem dX11_digest_22 : decode cX11_digest 22 = .ok (.i2l, 1) := by decide +kernel
theorem dX11_digest_23 : decode cX11_digest 23 = .ok (.ladd, 1) := by decide +kernel
theorem dX11_digest_24 : decode cX11_digest 24 = .ok (.lstore_n 1, 1) := by decide +kernel
theorem dX11_digest_25 : decode cX11_digest 25 = .ok (.iinc 3 1, 3) := by decide +kernel
theorem dX11_digest_28 : decode cX11_digest 28 = .ok (.goto (-22), 3) := by decide +kernel
theorem dX11_digest_31 : decode cX11_digest 31 = .ok (.aload_n 0, 1) := by decide +kernel
theorem dX11_digest_32 : decode cX11_digest 32 = .ok (.lload_n 1, 1) := by decide +kernel
theorem dX11_digest_33 : decode cX11_digest 33 = .ok (.invokevirtual 254, 3) := by decide +kernel
theorem dX11_digest_36 : decode cX11_digest 36 = .ok (.lstore_n 1, 1) := by decide +kernel
theorem dX11_digest_37 : decode cX11_digest 37 = .ok (.aload_n 0, 1) := by decide +kernel
theorem dX11_digest_38 : decode cX11_digest 38 = .ok (.lload_n 1, 1) := by decide +kernel
theorem dX11_digest_39 : decode cX11_digest 39 = .ok (.invokevirtual 258, 3) := by decide +kernel
theorem dX11_digest_42 : decode cX11_digest 42 = .ok (.lstore_n 1, 1) := by decide +kernel
theorem dX11_digest_43 : decode cX11_digest 43 = .ok (.aload_n 0, 1) := by decide +kernel
theorem dX11_digest_44 : decode cX11_digest 44 = .ok (.lload_n 1, 1) := by decide +kernel
theorem dX11_digest_45 : decode cX11_digest 45 = .ok (.invokevirtual 261, 3) := by decide +kernel
theorem dX11_digest_48 : decode cX11_digest 48 = .ok (.lstore_n 1, 1) := by decide +kernel
theorem dX11_digest_49 : decode cX11_digest 49 = .ok (.aload_n 0, 1) := by decide +kernel
theorem dX11_digest_50 : decode cX11_digest 50 = .ok (.lload_n 1, 1) := by decide +kernel
theorem dX11_digest_51 : decode cX11_digest 51 = .ok (.invokevirtual 264, 3) := by decide +kernel
theorem dX11_digest_54 : decode cX11_digest 54 = .ok (.lreturn, 1) := by decide +kernel
theorem dX11_append_0 : decode cX11_append 0 = .ok (.bipush 24, 2) := by decide +kernel
theorem dX11_append_2 : decode cX11_append 2 = .ok (.istore_n 2, 1) := by decide +kernel
theorem dX11_append_3 : decode cX11_append 3 = .ok (.iload_n 2, 1) := by decide +kernel
theorem dX11_append_4 : decode cX11_append 4 = .ok (.ifCond .lt 37, 3) := by decide +kernel
theorem dX11_append_7 : decode cX11_append 7 = .ok (.aload_n 0, 1) := by decide +kernel
theorem dX11_append_8 : decode cX11_append 8 = .ok (.getfield 14, 3) := by decide +kernel
theorem dX11_append_11 : decode cX11_append 11 = .ok (.aload_n 0, 1) := by decide +kernel
theorem dX11_append_12 : decode cX11_append 12 = .ok (.getfield 67, 3) := by decide +kernel
theorem dX11_append_15 : decode cX11_append 15 = .ok (.iload_n 1, 1) := by decide +kernel
theorem dX11_append_16 : decode cX11_append 16 = .ok (.iload_n 2, 1) := by decide +kernel
theorem dX11_append_17 : decode cX11_append 17 = .ok (.iushr, 1) := by decide +kernel
theorem dX11_append_18 : decode cX11_append 18 = .ok (.sipush 255, 3) := by decide +kernel
theorem dX11_append_21 : decode cX11_append 21 = .ok (.iand, 1) := by decide +kernel
theorem dX11_append_22 : decode cX11_append 22 = .ok (.invokevirtual 208, 3) := by decide +kernel
theorem dX11_append_25 : decode cX11_append 25 = .ok (.aload_n 0, 1) := by decide +kernel
theorem dX11_append_26 : decode cX11_append 26 = .ok (.dup, 1) := by decide +kernel
theorem dX11_append_27 : decode cX11_append 27 = .ok (.getfield 67, 3) := by decide +kernel
theorem dX11_append_30 : decode cX11_append 30 = .ok (.iconst 1, 1) := by decide +kernel
theorem dX11_append_31 : decode cX11_append 31 = .ok (.iadd, 1) := by decide +kernel
theorem dX11_append_32 : decode cX11_append 32 = .ok (.putfield 67, 3) := by decide +kernel
theorem dX11_append_35 : decode cX11_append 35 = .ok (.iinc 2 (-8), 3) := by decide +kernel
theorem dX11_append_38 : decode cX11_append 38 = .ok (.goto (-35), 3) := by decide +kernel
theorem dX11_append_41 : decode cX11_append 41 = .ok (.return_, 1) := by decide +kernel
theorem dX11_isLot_0 : decode cX11_isLot 0 = .ok (.iload_n 1, 1) := by decide +kernel
theorem dX11_isLot_1 : decode cX11_isLot 1 = .ok (.ifCond .lt 18, 3) := by decide +kernel
theorem dX11_isLot_4 : decode cX11_isLot 4 = .ok (.iload_n 1, 1) := by decide +kernel
theorem dX11_isLot_5 : decode cX11_isLot 5 = .ok (.aload_n 0, 1) := by decide +kernel
theorem dX11_isLot_6 : decode cX11_isLot 6 = .ok (.getfield 39, 3) := by decide +kernel
theorem dX11_isLot_9 : decode cX11_isLot 9 = .ok (.getfield 247, 3) := by decide +kernel
theorem dX11_isLot_12 : decode cX11_isLot 12 = .ok (.if_icmp .ge 7, 3) := by decide +kernel
theorem dX11_isLot_15 : decode cX11_isLot 15 = .ok (.iconst 1, 1) := by decide +kernel
theorem dX11_isLot_16 : decode cX11_isLot 16 = .ok (.goto 4, 3) := by decide +kernel
theorem dX11_isLot_19 : decode cX11_isLot 19 = .ok (.iconst 0, 1) := by decide +kernel
theorem dX11_isLot_20 : decode cX11_isLot 20 = .ok (.ireturn, 1) := by decide +kernel
theorem dX11_isMerchant_0 : decode cX11_isMerchant 0 = .ok (.iload_n 1, 1) := by decide +kernel
theorem dX11_isMerchant_1 : decode cX11_isMerchant 1 = .ok (.ifCond .lt 18, 3) := by decide +kernel
theorem dX11_isMerchant_4 : decode cX11_isMerchant 4 = .ok (.iload_n 1, 1) := by decide +kernel
theorem dX11_isMerchant_5 : decode cX11_isMerchant 5 = .ok (.aload_n 0, 1) := by decide +kernel
theorem dX11_isMerchant_6 : decode cX11_isMerchant 6 = .ok (.getfield 39, 3) := by decide +kernel
theorem dX11_isMerchant_9 : decode cX11_isMerchant 9 = .ok (.getfield 238, 3) := by decide +kernel
theorem dX11_isMerchant_12 : decode cX11_isMerchant 12 = .ok (.if_icmp .ge 7, 3) := by decide +kernel
theorem dX11_isMerchant_15 : decode cX11_isMerchant 15 = .ok (.iconst 1, 1) := by decide +kernel
theorem dX11_isMerchant_16 : decode cX11_isMerchant 16 = .ok (.goto 4, 3) := by decide +kernel
theorem dX11_isMerchant_19 : decode cX11_isMerchant 19 = .ok (.iconst 0, 1) := by decide +kernel
theorem dX11_isMerchant_20 : decode cX11_isMerchant 20 = .ok (.ireturn, 1) := by decide +kernel
theorem dX11_counted_0 : decode cX11_counted 0 = .ok (.iload_n 1, 1) := by decide +kernel
theorem dX11_counted_1 : decode cX11_counted 1 = .ok (.tableswitch 132 0 13 #[71, 79, 87, 95, 103, 111, 119, 132, 132, 132, 132, 132, 132, 127], 71) := by decide +kernel
theorem dX11_counted_72 : decode cX11_counted 72 = .ok (.aload_n 0, 1) := by decide +kernel
theorem dX11_counted_73 : decode cX11_counted 73 = .ok (.getfield 48, 3) := by decide +kernel
theorem dX11_counted_76 : decode cX11_counted 76 = .ok (.getfield 267, 3) := by decide +kernel
theorem dX11_counted_79 : decode cX11_counted 79 = .ok (.ireturn, 1) := by decide +kernel
theorem dX11_counted_80 : decode cX11_counted 80 = .ok (.aload_n 0, 1) := by decide +kernel
theorem dX11_counted_81 : decode cX11_counted 81 = .ok (.getfield 48, 3) := by decide +kernel
theorem dX11_counted_84 : decode cX11_counted 84 = .ok (.getfield 170, 3) := by decide +kernel
theorem dX11_counted_87 : decode cX11_counted 87 = .ok (.ireturn, 1) := by decide +kernel
theorem dX11_counted_88 : decode cX11_counted 88 = .ok (.aload_n 0, 1) := by decide +kernel
theorem dX11_counted_89 : decode cX11_counted 89 = .ok (.getfield 39, 3) := by decide +kernel
theorem dX11_counted_92 : decode cX11_counted 92 = .ok (.getfield 270, 3) := by decide +kernel
theorem dX11_counted_95 : decode cX11_counted 95 = .ok (.ireturn, 1) := by decide +kernel
theorem dX11_counted_96 : decode cX11_counted 96 = .ok (.aload_n 0, 1) := by decide +kernel
theorem dX11_counted_97 : decode cX11_counted 97 = .ok (.getfield 39, 3) := by decide +kernel
theorem dX11_counted_100 : decode cX11_counted 100 = .ok (.getfield 135, 3) := by decide +kernel
theorem dX11_counted_103 : decode cX11_counted 103 = .ok (.ireturn, 1) := by decide +kernel
theorem dX11_counted_104 : decode cX11_counted 104 = .ok (.aload_n 0, 1) := by decide +kernel
theorem dX11_counted_105 : decode cX11_counted 105 = .ok (.getfield 39, 3) := by decide +kernel
theorem dX11_counted_108 : decode cX11_counted 108 = .ok (.getfield 238, 3) := by decide +kernel
theorem dX11_counted_111 : decode cX11_counted 111 = .ok (.ireturn, 1) := by decide +kernel
theorem dX11_counted_112 : decode cX11_counted 112 = .ok (.aload_n 0, 1) := by decide +kernel
theorem dX11_counted_113 : decode cX11_counted 113 = .ok (.getfield 39, 3) := by decide +kernel
theorem dX11_counted_116 : decode cX11_counted 116 = .ok (.getfield 247, 3) := by decide +kernel
theorem dX11_counted_119 : decode cX11_counted 119 = .ok (.ireturn, 1) := by decide +kernel
theorem dX11_counted_120 : decode cX11_counted 120 = .ok (.aload_n 0, 1) := by decide +kernel
theorem dX11_counted_121 : decode cX11_counted 121 = .ok (.getfield 39, 3) := by decide +kernel
theorem dX11_counted_124 : decode cX11_counted 124 = .ok (.getfield 143, 3) := by decide +kernel
theorem dX11_counted_127 : decode cX11_counted 127 = .ok (.ireturn, 1) := by decide +kernel
theorem dX11_counted_128 : decode cX11_counted 128 = .ok (.aload_n 0, 1) := by decide +kernel
theorem dX11_counted_129 : decode cX11_counted 129 = .ok (.getfield 67, 3) := by decide +kernel
theorem dX11_counted_132 : decode cX11_counted 132 = .ok (.ireturn, 1) := by decide +kernel
theorem dX11_counted_133 : decode cX11_counted 133 = .ok (.aload_n 0, 1) := by decide +kernel
theorem dX11_counted_134 : decode cX11_counted 134 = .ok (.getfield 48, 3) := by decide +kernel
theorem dX11_counted_137 : decode cX11_counted 137 = .ok (.iload_n 1, 1) := by decide +kernel
theorem dX11_counted_138 : decode cX11_counted 138 = .ok (.invokevirtual 225, 3) := by decide +kernel
theorem dX11_counted_141 : decode cX11_counted 141 = .ok (.ireturn, 1) := by decide +kernel
theorem dX11_tellOrder_0 : decode cX11_tellOrder 0 = .ok (.iload_n 2, 1) := by decide +kernel
theorem dX11_tellOrder_1 : decode cX11_tellOrder 1 = .ok (.tableswitch 84 0 3 #[31, 43, 55, 67], 31) := by decide +kernel
theorem dX11_tellOrder_32 : decode cX11_tellOrder 32 = .ok (.aload_n 0, 1) := by decide +kernel
theorem dX11_tellOrder_33 : decode cX11_tellOrder 33 = .ok (.getfield 39, 3) := by decide +kernel
theorem dX11_tellOrder_36 : decode cX11_tellOrder 36 = .ok (.getfield 273, 3) := by decide +kernel
theorem dX11_tellOrder_39 : decode cX11_tellOrder 39 = .ok (.iload_n 1, 1) := by decide +kernel
theorem dX11_tellOrder_40 : decode cX11_tellOrder 40 = .ok (.invokevirtual 178, 3) := by decide +kernel
theorem dX11_tellOrder_43 : decode cX11_tellOrder 43 = .ok (.ireturn, 1) := by decide +kernel
theorem dX11_tellOrder_44 : decode cX11_tellOrder 44 = .ok (.aload_n 0, 1) := by decide +kernel
theorem dX11_tellOrder_45 : decode cX11_tellOrder 45 = .ok (.getfield 39, 3) := by decide +kernel
theorem dX11_tellOrder_48 : decode cX11_tellOrder 48 = .ok (.getfield 276, 3) := by decide +kernel
theorem dX11_tellOrder_51 : decode cX11_tellOrder 51 = .ok (.iload_n 1, 1) := by decide +kernel
theorem dX11_tellOrder_52 : decode cX11_tellOrder 52 = .ok (.invokevirtual 178, 3) := by decide +kernel
theorem dX11_tellOrder_55 : decode cX11_tellOrder 55 = .ok (.ireturn, 1) := by decide +kernel
theorem dX11_tellOrder_56 : decode cX11_tellOrder 56 = .ok (.aload_n 0, 1) := by decide +kernel
theorem dX11_tellOrder_57 : decode cX11_tellOrder 57 = .ok (.getfield 39, 3) := by decide +kernel
theorem dX11_tellOrder_60 : decode cX11_tellOrder 60 = .ok (.getfield 279, 3) := by decide +kernel
theorem dX11_tellOrder_63 : decode cX11_tellOrder 63 = .ok (.iload_n 1, 1) := by decide +kernel
theorem dX11_tellOrder_64 : decode cX11_tellOrder 64 = .ok (.invokevirtual 178, 3) := by decide +kernel
theorem dX11_tellOrder_67 : decode cX11_tellOrder 67 = .ok (.ireturn, 1) := by decide +kernel
theorem dX11_tellOrder_68 : decode cX11_tellOrder 68 = .ok (.aload_n 0, 1) := by decide +kernel
theorem dX11_tellOrder_69 : decode cX11_tellOrder 69 = .ok (.getfield 57, 3) := by decide +kernel
theorem dX11_tellOrder_72 : decode cX11_tellOrder 72 = .ok (.iload_n 1, 1) := by decide +kernel
theorem dX11_tellOrder_73 : decode cX11_tellOrder 73 = .ok (.invokevirtual 282, 3) := by decide +kernel
theorem dX11_tellOrder_76 : decode cX11_tellOrder 76 = .ok (.ifCond .eq 7, 3) := by decide +kernel
theorem dX11_tellOrder_79 : decode cX11_tellOrder 79 = .ok (.iconst 1, 1) := by decide +kernel
theorem dX11_tellOrder_80 : decode cX11_tellOrder 80 = .ok (.goto 4, 3) := by decide +kernel
theorem dX11_tellOrder_83 : decode cX11_tellOrder 83 = .ok (.iconst 0, 1) := by decide +kernel
theorem dX11_tellOrder_84 : decode cX11_tellOrder 84 = .ok (.ireturn, 1) := by decide +kernel
theorem dX11_tellOrder_85 : decode cX11_tellOrder 85 = .ok (.aload_n 0, 1) := by decide +kernel
theorem dX11_tellOrder_86 : decode cX11_tellOrder 86 = .ok (.getfield 48, 3) := by decide +kernel
theorem dX11_tellOrder_89 : decode cX11_tellOrder 89 = .ok (.getfield 285, 3) := by decide +kernel
theorem dX11_tellOrder_92 : decode cX11_tellOrder 92 = .ok (.iload_n 1, 1) := by decide +kernel
theorem dX11_tellOrder_93 : decode cX11_tellOrder 93 = .ok (.invokevirtual 178, 3) := by decide +kernel
theorem dX11_tellOrder_96 : decode cX11_tellOrder 96 = .ok (.ireturn, 1) := by decide +kernel
theorem dX11_digestOfLots_0 : decode cX11_digestOfLots 0 = .ok (.lload_n 1, 1) := by decide +kernel
theorem dX11_digestOfLots_1 : decode cX11_digestOfLots 1 = .ok (.lstore_n 3, 1) := by decide +kernel
theorem dX11_digestOfLots_2 : decode cX11_digestOfLots 2 = .ok (.iconst 0, 1) := by decide +kernel
theorem dX11_digestOfLots_3 : decode cX11_digestOfLots 3 = .ok (.istore 5, 2) := by decide +kernel
theorem dX11_digestOfLots_5 : decode cX11_digestOfLots 5 = .ok (.iload 5, 2) := by decide +kernel
theorem dX11_digestOfLots_7 : decode cX11_digestOfLots 7 = .ok (.aload_n 0, 1) := by decide +kernel
theorem dX11_digestOfLots_8 : decode cX11_digestOfLots 8 = .ok (.getfield 39, 3) := by decide +kernel
theorem dX11_digestOfLots_11 : decode cX11_digestOfLots 11 = .ok (.getfield 247, 3) := by decide +kernel
theorem dX11_digestOfLots_14 : decode cX11_digestOfLots 14 = .ok (.if_icmp .ge 44, 3) := by decide +kernel
theorem dX11_digestOfLots_17 : decode cX11_digestOfLots 17 = .ok (.iconst 0, 1) := by decide +kernel
theorem dX11_digestOfLots_18 : decode cX11_digestOfLots 18 = .ok (.istore 6, 2) := by decide +kernel
theorem dX11_digestOfLots_20 : decode cX11_digestOfLots 20 = .ok (.iload 6, 2) := by decide +kernel
theorem dX11_digestOfLots_22 : decode cX11_digestOfLots 22 = .ok (.bipush 6, 2) := by decide +kernel
theorem dX11_digestOfLots_24 : decode cX11_digestOfLots 24 = .ok (.if_icmp .gt 28, 3) := by decide +kernel
theorem dX11_digestOfLots_27 : decode cX11_digestOfLots 27 = .ok (.lload_n 3, 1) := by decide +kernel
theorem dX11_digestOfLots_28 : decode cX11_digestOfLots 28 = .ok (.ldc2_w 252, 3) := by decide +kernel
theorem dX11_digestOfLots_31 : decode cX11_digestOfLots 31 = .ok (.lmul, 1) := by decide +kernel
theorem dX11_digestOfLots_32 : decode cX11_digestOfLots 32 = .ok (.aload_n 0, 1) := by decide +kernel
theorem dX11_digestOfLots_33 : decode cX11_digestOfLots 33 = .ok (.getfield 48, 3) := by decide +kernel
theorem dX11_digestOfLots_36 : decode cX11_digestOfLots 36 = .ok (.iload 5, 2) := by decide +kernel
theorem dX11_digestOfLots_38 : decode cX11_digestOfLots 38 = .ok (.iload 6, 2) := by decide +kernel
theorem dX11_digestOfLots_40 : decode cX11_digestOfLots 40 = .ok (.invokevirtual 123, 3) := by decide +kernel
theorem dX11_digestOfLots_43 : decode cX11_digestOfLots 43 = .ok (.i2l, 1) := by decide +kernel
theorem dX11_digestOfLots_44 : decode cX11_digestOfLots 44 = .ok (.ladd, 1) := by decide +kernel
theorem dX11_digestOfLots_45 : decode cX11_digestOfLots 45 = .ok (.lstore_n 3, 1) := by decide +kernel
theorem dX11_digestOfLots_46 : decode cX11_digestOfLots 46 = .ok (.iinc 6 1, 3) := by decide +kernel
theorem dX11_digestOfLots_49 : decode cX11_digestOfLots 49 = .ok (.goto (-29), 3) := by decide +kernel
theorem dX11_digestOfLots_52 : decode cX11_digestOfLots 52 = .ok (.iinc 5 1, 3) := by decide +kernel
theorem dX11_digestOfLots_55 : decode cX11_digestOfLots 55 = .ok (.goto (-50), 3) := by decide +kernel
theorem dX11_digestOfLots_58 : decode cX11_digestOfLots 58 = .ok (.lload_n 3, 1) := by decide +kernel
theorem dX11_digestOfLots_59 : decode cX11_digestOfLots 59 = .ok (.lreturn, 1) := by decide +kernel
theorem dX11_digestOfMerchants_0 : decode cX11_digestOfMerchants 0 = .ok (.lload_n 1, 1) := by decide +kernel
theorem dX11_digestOfMerchants_1 : decode cX11_digestOfMerchants 1 = .ok (.lstore_n 3, 1) := by decide +kernel
theorem dX11_digestOfMerchants_2 : decode cX11_digestOfMerchants 2 = .ok (.iconst 0, 1) := by decide +kernel
theorem dX11_digestOfMerchants_3 : decode cX11_digestOfMerchants 3 = .ok (.istore 5, 2) := by decide +kernel
theorem dX11_digestOfMerchants_5 : decode cX11_digestOfMerchants 5 = .ok (.iload 5, 2) := by decide +kernel
theorem dX11_digestOfMerchants_7 : decode cX11_digestOfMerchants 7 = .ok (.aload_n 0, 1) := by decide +kernel
theorem dX11_digestOfMerchants_8 : decode cX11_digestOfMerchants 8 = .ok (.getfield 39, 3) := by decide +kernel
theorem dX11_digestOfMerchants_11 : decode cX11_digestOfMerchants 11 = .ok (.getfield 238, 3) := by decide +kernel
theorem dX11_digestOfMerchants_14 : decode cX11_digestOfMerchants 14 = .ok (.if_icmp .ge 86, 3) := by decide +kernel
theorem dX11_digestOfMerchants_17 : decode cX11_digestOfMerchants 17 = .ok (.iconst 0, 1) := by decide +kernel
theorem dX11_digestOfMerchants_18 : decode cX11_digestOfMerchants 18 = .ok (.istore 6, 2) := by decide +kernel
theorem dX11_digestOfMerchants_20 : decode cX11_digestOfMerchants 20 = .ok (.iload 6, 2) := by decide +kernel
theorem dX11_digestOfMerchants_22 : decode cX11_digestOfMerchants 22 = .ok (.iconst 5, 1) := by decide +kernel
theorem dX11_digestOfMerchants_23 : decode cX11_digestOfMerchants 23 = .ok (.if_icmp .gt 28, 3) := by decide +kernel
theorem dX11_digestOfMerchants_26 : decode cX11_digestOfMerchants 26 = .ok (.lload_n 3, 1) := by decide +kernel
theorem dX11_digestOfMerchants_27 : decode cX11_digestOfMerchants 27 = .ok (.ldc2_w 252, 3) := by decide +kernel
theorem dX11_digestOfMerchants_30 : decode cX11_digestOfMerchants 30 = .ok (.lmul, 1) := by decide +kernel
theorem dX11_digestOfMerchants_31 : decode cX11_digestOfMerchants 31 = .ok (.aload_n 0, 1) := by decide +kernel
theorem dX11_digestOfMerchants_32 : decode cX11_digestOfMerchants 32 = .ok (.getfield 48, 3) := by decide +kernel
theorem dX11_digestOfMerchants_35 : decode cX11_digestOfMerchants 35 = .ok (.iload 5, 2) := by decide +kernel
theorem dX11_digestOfMerchants_37 : decode cX11_digestOfMerchants 37 = .ok (.iload 6, 2) := by decide +kernel
theorem dX11_digestOfMerchants_39 : decode cX11_digestOfMerchants 39 = .ok (.invokevirtual 132, 3) := by decide +kernel
theorem dX11_digestOfMerchants_42 : decode cX11_digestOfMerchants 42 = .ok (.i2l, 1) := by decide +kernel
theorem dX11_digestOfMerchants_43 : decode cX11_digestOfMerchants 43 = .ok (.ladd, 1) := by decide +kernel
theorem dX11_digestOfMerchants_44 : decode cX11_digestOfMerchants 44 = .ok (.lstore_n 3, 1) := by decide +kernel
theorem dX11_digestOfMerchants_45 : decode cX11_digestOfMerchants 45 = .ok (.iinc 6 1, 3) := by decide +kernel
theorem dX11_digestOfMerchants_48 : decode cX11_digestOfMerchants 48 = .ok (.goto (-28), 3) := by decide +kernel
theorem dX11_digestOfMerchants_51 : decode cX11_digestOfMerchants 51 = .ok (.iconst 0, 1) := by decide +kernel
theorem dX11_digestOfMerchants_52 : decode cX11_digestOfMerchants 52 = .ok (.istore 6, 2) := by decide +kernel
theorem dX11_digestOfMerchants_54 : decode cX11_digestOfMerchants 54 = .ok (.iload 6, 2) := by decide +kernel
theorem dX11_digestOfMerchants_56 : decode cX11_digestOfMerchants 56 = .ok (.aload_n 0, 1) := by decide +kernel
theorem dX11_digestOfMerchants_57 : decode cX11_digestOfMerchants 57 = .ok (.getfield 39, 3) := by decide +kernel
theorem dX11_digestOfMerchants_60 : decode cX11_digestOfMerchants 60 = .ok (.getfield 238, 3) := by decide +kernel
theorem dX11_digestOfMerchants_63 : decode cX11_digestOfMerchants 63 = .ok (.if_icmp .ge 31, 3) := by decide +kernel
theorem dX11_digestOfMerchants_66 : decode cX11_digestOfMerchants 66 = .ok (.lload_n 3, 1) := by decide +kernel
theorem dX11_digestOfMerchants_67 : decode cX11_digestOfMerchants 67 = .ok (.ldc2_w 252, 3) := by decide +kernel
theorem dX11_digestOfMerchants_70 : decode cX11_digestOfMerchants 70 = .ok (.lmul, 1) := by decide +kernel
theorem dX11_digestOfMerchants_71 : decode cX11_digestOfMerchants 71 = .ok (.aload_n 0, 1) := by decide +kernel
theorem dX11_digestOfMerchants_72 : decode cX11_digestOfMerchants 72 = .ok (.getfield 48, 3) := by decide +kernel
theorem dX11_digestOfMerchants_75 : decode cX11_digestOfMerchants 75 = .ok (.getfield 153, 3) := by decide +kernel
theorem dX11_digestOfMerchants_78 : decode cX11_digestOfMerchants 78 = .ok (.iload 5, 2) := by decide +kernel
theorem dX11_digestOfMerchants_80 : decode cX11_digestOfMerchants 80 = .ok (.iload 6, 2) := by decide +kernel
theorem dX11_digestOfMerchants_82 : decode cX11_digestOfMerchants 82 = .ok (.invokevirtual 157, 3) := by decide +kernel
theorem dX11_digestOfMerchants_85 : decode cX11_digestOfMerchants 85 = .ok (.i2l, 1) := by decide +kernel
theorem dX11_digestOfMerchants_86 : decode cX11_digestOfMerchants 86 = .ok (.ladd, 1) := by decide +kernel
theorem dX11_digestOfMerchants_87 : decode cX11_digestOfMerchants 87 = .ok (.lstore_n 3, 1) := by decide +kernel
theorem dX11_digestOfMerchants_88 : decode cX11_digestOfMerchants 88 = .ok (.iinc 6 1, 3) := by decide +kernel
theorem dX11_digestOfMerchants_91 : decode cX11_digestOfMerchants 91 = .ok (.goto (-37), 3) := by decide +kernel
theorem dX11_digestOfMerchants_94 : decode cX11_digestOfMerchants 94 = .ok (.iinc 5 1, 3) := by decide +kernel
theorem dX11_digestOfMerchants_97 : decode cX11_digestOfMerchants 97 = .ok (.goto (-92), 3) := by decide +kernel
theorem dX11_digestOfMerchants_100 : decode cX11_digestOfMerchants 100 = .ok (.lload_n 3, 1) := by decide +kernel
theorem dX11_digestOfMerchants_101 : decode cX11_digestOfMerchants 101 = .ok (.lreturn, 1) := by decide +kernel
theorem dX11_digestOfGuilds_0 : decode cX11_digestOfGuilds 0 = .ok (.lload_n 1, 1) := by decide +kernel
theorem dX11_digestOfGuilds_1 : decode cX11_digestOfGuilds 1 = .ok (.lstore_n 3, 1) := by decide +kernel
theorem dX11_digestOfGuilds_2 : decode cX11_digestOfGuilds 2 = .ok (.iconst 0, 1) := by decide +kernel
theorem dX11_digestOfGuilds_3 : decode cX11_digestOfGuilds 3 = .ok (.istore 5, 2) := by decide +kernel
theorem dX11_digestOfGuilds_5 : decode cX11_digestOfGuilds 5 = .ok (.iload 5, 2) := by decide +kernel
theorem dX11_digestOfGuilds_7 : decode cX11_digestOfGuilds 7 = .ok (.aload_n 0, 1) := by decide +kernel
theorem dX11_digestOfGuilds_8 : decode cX11_digestOfGuilds 8 = .ok (.getfield 39, 3) := by decide +kernel
theorem dX11_digestOfGuilds_11 : decode cX11_digestOfGuilds 11 = .ok (.getfield 135, 3) := by decide +kernel
theorem dX11_digestOfGuilds_14 : decode cX11_digestOfGuilds 14 = .ok (.if_icmp .ge 43, 3) := by decide +kernel
theorem dX11_digestOfGuilds_17 : decode cX11_digestOfGuilds 17 = .ok (.iconst 0, 1) := by decide +kernel
theorem dX11_digestOfGuilds_18 : decode cX11_digestOfGuilds 18 = .ok (.istore 6, 2) := by decide +kernel
theorem dX11_digestOfGuilds_20 : decode cX11_digestOfGuilds 20 = .ok (.iload 6, 2) := by decide +kernel
theorem dX11_digestOfGuilds_22 : decode cX11_digestOfGuilds 22 = .ok (.iconst 3, 1) := by decide +kernel
theorem dX11_digestOfGuilds_23 : decode cX11_digestOfGuilds 23 = .ok (.if_icmp .gt 28, 3) := by decide +kernel
theorem dX11_digestOfGuilds_26 : decode cX11_digestOfGuilds 26 = .ok (.lload_n 3, 1) := by decide +kernel
theorem dX11_digestOfGuilds_27 : decode cX11_digestOfGuilds 27 = .ok (.ldc2_w 252, 3) := by decide +kernel
theorem dX11_digestOfGuilds_30 : decode cX11_digestOfGuilds 30 = .ok (.lmul, 1) := by decide +kernel
theorem dX11_digestOfGuilds_31 : decode cX11_digestOfGuilds 31 = .ok (.aload_n 0, 1) := by decide +kernel
theorem dX11_digestOfGuilds_32 : decode cX11_digestOfGuilds 32 = .ok (.getfield 48, 3) := by decide +kernel
theorem dX11_digestOfGuilds_35 : decode cX11_digestOfGuilds 35 = .ok (.iload 5, 2) := by decide +kernel
theorem dX11_digestOfGuilds_37 : decode cX11_digestOfGuilds 37 = .ok (.iload 6, 2) := by decide +kernel
theorem dX11_digestOfGuilds_39 : decode cX11_digestOfGuilds 39 = .ok (.invokevirtual 140, 3) := by decide +kernel
theorem dX11_digestOfGuilds_42 : decode cX11_digestOfGuilds 42 = .ok (.i2l, 1) := by decide +kernel
theorem dX11_digestOfGuilds_43 : decode cX11_digestOfGuilds 43 = .ok (.ladd, 1) := by decide +kernel
theorem dX11_digestOfGuilds_44 : decode cX11_digestOfGuilds 44 = .ok (.lstore_n 3, 1) := by decide +kernel
theorem dX11_digestOfGuilds_45 : decode cX11_digestOfGuilds 45 = .ok (.iinc 6 1, 3) := by decide +kernel
theorem dX11_digestOfGuilds_48 : decode cX11_digestOfGuilds 48 = .ok (.goto (-28), 3) := by decide +kernel
theorem dX11_digestOfGuilds_51 : decode cX11_digestOfGuilds 51 = .ok (.iinc 5 1, 3) := by decide +kernel
theorem dX11_digestOfGuilds_54 : decode cX11_digestOfGuilds 54 = .ok (.goto (-49), 3) := by decide +kernel
theorem dX11_digestOfGuilds_57 : decode cX11_digestOfGuilds 57 = .ok (.lload_n 3, 1) := by decide +kernel
theorem dX11_digestOfGuilds_58 : decode cX11_digestOfGuilds 58 = .ok (.lreturn, 1) := by decide +kernel
theorem dX11_digestOfOrders_0 : decode cX11_digestOfOrders 0 = .ok (.lload_n 1, 1) := by decide +kernel
theorem dX11_digestOfOrders_1 : decode cX11_digestOfOrders 1 = .ok (.lstore_n 3, 1) := by decide +kernel
theorem dX11_digestOfOrders_2 : decode cX11_digestOfOrders 2 = .ok (.iconst 0, 1) := by decide +kernel
theorem dX11_digestOfOrders_3 : decode cX11_digestOfOrders 3 = .ok (.istore 5, 2) := by decide +kernel
theorem dX11_digestOfOrders_5 : decode cX11_digestOfOrders 5 = .ok (.iload 5, 2) := by decide +kernel
theorem dX11_digestOfOrders_7 : decode cX11_digestOfOrders 7 = .ok (.aload_n 0, 1) := by decide +kernel
theorem dX11_digestOfOrders_8 : decode cX11_digestOfOrders 8 = .ok (.getfield 39, 3) := by decide +kernel
theorem dX11_digestOfOrders_11 : decode cX11_digestOfOrders 11 = .ok (.getfield 143, 3) := by decide +kernel
theorem dX11_digestOfOrders_14 : decode cX11_digestOfOrders 14 = .ok (.if_icmp .ge 40, 3) := by decide +kernel
theorem dX11_digestOfOrders_17 : decode cX11_digestOfOrders 17 = .ok (.iconst 0, 1) := by decide +kernel
theorem dX11_digestOfOrders_18 : decode cX11_digestOfOrders 18 = .ok (.istore 6, 2) := by decide +kernel
theorem dX11_digestOfOrders_20 : decode cX11_digestOfOrders 20 = .ok (.iload 6, 2) := by decide +kernel
theorem dX11_digestOfOrders_22 : decode cX11_digestOfOrders 22 = .ok (.iconst 4, 1) := by decide +kernel
theorem dX11_digestOfOrders_23 : decode cX11_digestOfOrders 23 = .ok (.if_icmp .gt 25, 3) := by decide +kernel
theorem dX11_digestOfOrders_26 : decode cX11_digestOfOrders 26 = .ok (.lload_n 3, 1) := by decide +kernel
theorem dX11_digestOfOrders_27 : decode cX11_digestOfOrders 27 = .ok (.ldc2_w 252, 3) := by decide +kernel
theorem dX11_digestOfOrders_30 : decode cX11_digestOfOrders 30 = .ok (.lmul, 1) := by decide +kernel
theorem dX11_digestOfOrders_31 : decode cX11_digestOfOrders 31 = .ok (.aload_n 0, 1) := by decide +kernel
theorem dX11_digestOfOrders_32 : decode cX11_digestOfOrders 32 = .ok (.iload 5, 2) := by decide +kernel
theorem dX11_digestOfOrders_34 : decode cX11_digestOfOrders 34 = .ok (.iload 6, 2) := by decide +kernel
theorem dX11_digestOfOrders_36 : decode cX11_digestOfOrders 36 = .ok (.invokevirtual 148, 3) := by decide +kernel
theorem dX11_digestOfOrders_39 : decode cX11_digestOfOrders 39 = .ok (.i2l, 1) := by decide +kernel
theorem dX11_digestOfOrders_40 : decode cX11_digestOfOrders 40 = .ok (.ladd, 1) := by decide +kernel
theorem dX11_digestOfOrders_41 : decode cX11_digestOfOrders 41 = .ok (.lstore_n 3, 1) := by decide +kernel
theorem dX11_digestOfOrders_42 : decode cX11_digestOfOrders 42 = .ok (.iinc 6 1, 3) := by decide +kernel
theorem dX11_digestOfOrders_45 : decode cX11_digestOfOrders 45 = .ok (.goto (-25), 3) := by decide +kernel
theorem dX11_digestOfOrders_48 : decode cX11_digestOfOrders 48 = .ok (.iinc 5 1, 3) := by decide +kernel
theorem dX11_digestOfOrders_51 : decode cX11_digestOfOrders 51 = .ok (.goto (-46), 3) := by decide +kernel
theorem dX11_digestOfOrders_54 : decode cX11_digestOfOrders 54 = .ok (.lload_n 3, 1) := by decide +kernel
theorem dX11_digestOfOrders_55 : decode cX11_digestOfOrders 55 = .ok (.lreturn, 1) := by decide +kernel
theorem dX12_init_0 : decode cX12_init 0 = .ok (.aload_n 0, 1) := by decide +kernel
theorem dX12_init_1 : decode cX12_init 1 = .ok (.invokespecial 1, 3) := by decide +kernel
theorem dX12_init_4 : decode cX12_init 4 = .ok (.aload_n 0, 1) := by decide +kernel
theorem dX12_init_5 : decode cX12_init 5 = .ok (.iconst 3, 1) := by decide +kernel
theorem dX12_init_6 : decode cX12_init 6 = .ok (.putfield 7, 3) := by decide +kernel
theorem dX12_init_9 : decode cX12_init 9 = .ok (.aload_n 0, 1) := by decide +kernel
theorem dX12_init_10 : decode cX12_init 10 = .ok (.iconst 0, 1) := by decide +kernel
theorem dX12_init_11 : decode cX12_init 11 = .ok (.newarray .int, 2) := by decide +kernel
theorem dX12_init_13 : decode cX12_init 13 = .ok (.putfield 13, 3) := by decide +kernel
theorem dX12_init_16 : decode cX12_init 16 = .ok (.aload_n 0, 1) := by decide +kernel
theorem dX12_init_17 : decode cX12_init 17 = .ok (.iconst 0, 1) := by decide +kernel
theorem dX12_init_18 : decode cX12_init 18 = .ok (.anewarray 17, 3) := by decide +kernel
theorem dX12_init_21 : decode cX12_init 21 = .ok (.putfield 18, 3) := by decide +kernel
theorem dX12_init_24 : decode cX12_init 24 = .ok (.aload_n 0, 1) := by decide +kernel
theorem dX12_init_25 : decode cX12_init 25 = .ok (.iconst 0, 1) := by decide +kernel
theorem dX12_init_26 : decode cX12_init 26 = .ok (.anewarray 17, 3) := by decide +kernel
theorem dX12_init_29 : decode cX12_init 29 = .ok (.putfield 22, 3) := by decide +kernel
theorem dX12_init_32 : decode cX12_init 32 = .ok (.aload_n 0, 1) := by decide +kernel
theorem dX12_init_33 : decode cX12_init 33 = .ok (.iconst 0, 1) := by decide +kernel
theorem dX12_init_34 : decode cX12_init 34 = .ok (.anewarray 17, 3) := by decide +kernel
theorem dX12_init_37 : decode cX12_init 37 = .ok (.putfield 25, 3) := by decide +kernel
theorem dX12_init_40 : decode cX12_init 40 = .ok (.aload_n 0, 1) := by decide +kernel
theorem dX12_init_41 : decode cX12_init 41 = .ok (.iconst 0, 1) := by decide +kernel
theorem dX12_init_42 : decode cX12_init 42 = .ok (.anewarray 17, 3) := by decide +kernel
theorem dX12_init_45 : decode cX12_init 45 = .ok (.putfield 28, 3) := by decide +kernel
theorem dX12_init_48 : decode cX12_init 48 = .ok (.aload_n 0, 1) := by decide +kernel
theorem dX12_init_49 : decode cX12_init 49 = .ok (.iconst 0, 1) := by decide +kernel
theorem dX12_init_50 : decode cX12_init 50 = .ok (.anewarray 17, 3) := by decide +kernel
theorem dX12_init_53 : decode cX12_init 53 = .ok (.putfield 31, 3) := by decide +kernel
theorem dX12_init_56 : decode cX12_init 56 = .ok (.aload_n 0, 1) := by decide +kernel
theorem dX12_init_57 : decode cX12_init 57 = .ok (.iconst 3, 1) := by decide +kernel
theorem dX12_init_58 : decode cX12_init 58 = .ok (.newarray .int, 2) := by decide +kernel
theorem dX12_init_60 : decode cX12_init 60 = .ok (.putfield 34, 3) := by decide +kernel
theorem dX12_init_63 : decode cX12_init 63 = .ok (.return_, 1) := by decide +kernel
theorem dX12_debts_0 : decode cX12_debts 0 = .ok (.iconst 0, 1) := by decide +kernel
theorem dX12_debts_1 : decode cX12_debts 1 = .ok (.istore_n 2, 1) := by decide +kernel
theorem dX12_debts_2 : decode cX12_debts 2 = .ok (.aload_n 0, 1) := by decide +kernel
theorem dX12_debts_3 : decode cX12_debts 3 = .ok (.getfield 25, 3) := by decide +kernel
theorem dX12_debts_6 : decode cX12_debts 6 = .ok (.iload_n 1, 1) := by decide +kernel
theorem dX12_debts_7 : decode cX12_debts 7 = .ok (.aaload, 1) := by decide +kernel
theorem dX12_debts_8 : decode cX12_debts 8 = .ok (.astore_n 3, 1) := by decide +kernel
theorem dX12_debts_9 : decode cX12_debts 9 = .ok (.aload_n 3, 1) := by decide +kernel
theorem dX12_debts_10 : decode cX12_debts 10 = .ok (.arraylength, 1) := by decide +kernel
theorem dX12_debts_11 : decode cX12_debts 11 = .ok (.istore 4, 2) := by decide +kernel
theorem dX12_debts_13 : decode cX12_debts 13 = .ok (.iconst 0, 1) := by decide +kernel
theorem dX12_debts_14 : decode cX12_debts 14 = .ok (.istore 5, 2) := by decide +kernel
theorem dX12_debts_16 : decode cX12_debts 16 = .ok (.iload 5, 2) := by decide +kernel
theorem dX12_debts_18 : decode cX12_debts 18 = .ok (.iload 4, 2) := by decide +kernel
theorem dX12_debts_20 : decode cX12_debts 20 = .ok (.if_icmp .ge 20, 3) := by decide +kernel
theorem dX12_debts_23 : decode cX12_debts 23 = .ok (.aload_n 3, 1) := by decide +kernel
theorem dX12_debts_24 : decode cX12_debts 24 = .ok (.iload 5, 2) := by decide +kernel
theorem dX12_debts_26 : decode cX12_debts 26 = .ok (.iaload, 1) := by decide +kernel
theorem dX12_debts_27 : decode cX12_debts 27 = .ok (.istore 6, 2) := by decide +kernel
theorem dX12_debts_29 : decode cX12_debts 29 = .ok (.iload_n 2, 1) := by decide +kernel
theorem dX12_debts_30 : decode cX12_debts 30 = .ok (.iload 6, 2) := by decide +kernel
theorem dX12_debts_32 : decode cX12_debts 32 = .ok (.iadd, 1) := by decide +kernel
theorem dX12_debts_33 : decode cX12_debts 33 = .ok (.istore_n 2, 1) := by decide +kernel
theorem dX12_debts_34 : decode cX12_debts 34 = .ok (.iinc 5 1, 3) := by decide +kernel
theorem dX12_debts_37 : decode cX12_debts 37 = .ok (.goto (-21), 3) := by decide +kernel
theorem dX12_debts_40 : decode cX12_debts 40 = .ok (.iload_n 2, 1) := by decide +kernel
theorem dX12_debts_41 : decode cX12_debts 41 = .ok (.ireturn, 1) := by decide +kernel
theorem dX12_owed_0 : decode cX12_owed 0 = .ok (.iconst 0, 1) := by decide +kernel
theorem dX12_owed_1 : decode cX12_owed 1 = .ok (.istore_n 2, 1) := by decide +kernel
theorem dX12_owed_2 : decode cX12_owed 2 = .ok (.aload_n 0, 1) := by decide +kernel
theorem dX12_owed_3 : decode cX12_owed 3 = .ok (.getfield 25, 3) := by decide +kernel
theorem dX12_owed_6 : decode cX12_owed 6 = .ok (.astore_n 3, 1) := by decide +kernel
theorem dX12_owed_7 : decode cX12_owed 7 = .ok (.aload_n 3, 1) := by decide +kernel
theorem dX12_owed_8 : decode cX12_owed 8 = .ok (.arraylength, 1) := by decide +kernel
theorem dX12_owed_9 : decode cX12_owed 9 = .ok (.istore 4, 2) := by decide +kernel
theorem dX12_owed_11 : decode cX12_owed 11 = .ok (.iconst 0, 1) := by decide +kernel
theorem dX12_owed_12 : decode cX12_owed 12 = .ok (.istore 5, 2) := by decide +kernel
theorem dX12_owed_14 : decode cX12_owed 14 = .ok (.iload 5, 2) := by decide +kernel
theorem dX12_owed_16 : decode cX12_owed 16 = .ok (.iload 4, 2) := by decide +kernel
theorem dX12_owed_18 : decode cX12_owed 18 = .ok (.if_icmp .ge 22, 3) := by decide +kernel
theorem dX12_owed_21 : decode cX12_owed 21 = .ok (.aload_n 3, 1) := by decide +kernel
theorem dX12_owed_22 : decode cX12_owed 22 = .ok (.iload 5, 2) := by decide +kernel
theorem dX12_owed_24 : decode cX12_owed 24 = .ok (.aaload, 1) := by decide +kernel
theorem dX12_owed_25 : decode cX12_owed 25 = .ok (.astore 6, 2) := by decide +kernel
theorem dX12_owed_27 : decode cX12_owed 27 = .ok (.iload_n 2, 1) := by decide +kernel
theorem dX12_owed_28 : decode cX12_owed 28 = .ok (.aload 6, 2) := by decide +kernel
theorem dX12_owed_30 : decode cX12_owed 30 = .ok (.iload_n 1, 1) := by decide +kernel
theorem dX12_owed_31 : decode cX12_owed 31 = .ok (.iaload, 1) := by decide +kernel
theorem dX12_owed_32 : decode cX12_owed 32 = .ok (.iadd, 1) := by decide +kernel
theorem dX12_owed_33 : decode cX12_owed 33 = .ok (.istore_n 2, 1) := by decide +kernel
theorem dX12_owed_34 : decode cX12_owed 34 = .ok (.iinc 5 1, 3) := by decide +kernel
theorem dX12_owed_37 : decode cX12_owed 37 = .ok (.goto (-23), 3) := by decide +kernel
theorem dX12_owed_40 : decode cX12_owed 40 = .ok (.iload_n 2, 1) := by decide +kernel
theorem dX12_owed_41 : decode cX12_owed 41 = .ok (.ireturn, 1) := by decide +kernel
theorem dX12_age_0 : decode cX12_age 0 = .ok (.aload_n 1, 1) := by decide +kernel
theorem dX12_age_1 : decode cX12_age 1 = .ok (.iconst 3, 1) := by decide +kernel
theorem dX12_age_2 : decode cX12_age 2 = .ok (.iaload, 1) := by decide +kernel
theorem dX12_age_3 : decode cX12_age 3 = .ok (.ifCond .ge 7, 3) := by decide +kernel
theorem dX12_age_6 : decode cX12_age 6 = .ok (.iconst 0, 1) := by decide +kernel
theorem dX12_age_7 : decode cX12_age 7 = .ok (.goto 11, 3) := by decide +kernel
theorem dX12_age_10 : decode cX12_age 10 = .ok (.aload_n 0, 1) := by decide +kernel
theorem dX12_age_11 : decode cX12_age 11 = .ok (.getfield 37, 3) := by decide +kernel
theorem dX12_age_14 : decode cX12_age 14 = .ok (.aload_n 1, 1) := by decide +kernel
theorem dX12_age_15 : decode cX12_age 15 = .ok (.iconst 5, 1) := by decide +kernel
theorem dX12_age_16 : decode cX12_age 16 = .ok (.iaload, 1) := by decide +kernel
theorem dX12_age_17 : decode cX12_age 17 = .ok (.isub, 1) := by decide +kernel
theorem dX12_age_18 : decode cX12_age 18 = .ok (.ireturn, 1) := by decide +kernel
theorem dX12_sum_0 : decode cX12_sum 0 = .ok (.aload_n 1, 1) := by decide +kernel
theorem dX12_sum_1 : decode cX12_sum 1 = .ok (.iconst 4, 1) := by decide +kernel
theorem dX12_sum_2 : decode cX12_sum 2 = .ok (.iaload, 1) := by decide +kernel
theorem dX12_sum_3 : decode cX12_sum 3 = .ok (.istore_n 2, 1) := by decide +kernel
theorem dX12_sum_4 : decode cX12_sum 4 = .ok (.aload_n 1, 1) := by decide +kernel
theorem dX12_sum_5 : decode cX12_sum 5 = .ok (.bipush 7, 2) := by decide +kernel
theorem dX12_sum_7 : decode cX12_sum 7 = .ok (.iaload, 1) := by decide +kernel
theorem dX12_sum_8 : decode cX12_sum 8 = .ok (.istore_n 3, 1) := by decide +kernel
theorem dX12_sum_9 : decode cX12_sum 9 = .ok (.aload_n 1, 1) := by decide +kernel
theorem dX12_sum_10 : decode cX12_sum 10 = .ok (.bipush 8, 2) := by decide +kernel
theorem dX12_sum_12 : decode cX12_sum 12 = .ok (.iaload, 1) := by decide +kernel
theorem dX12_sum_13 : decode cX12_sum 13 = .ok (.istore 4, 2) := by decide +kernel
theorem dX12_sum_15 : decode cX12_sum 15 = .ok (.aload_n 0, 1) := by decide +kernel
theorem dX12_sum_16 : decode cX12_sum 16 = .ok (.getfield 28, 3) := by decide +kernel
theorem dX12_sum_19 : decode cX12_sum 19 = .ok (.aload_n 1, 1) := by decide +kernel
theorem dX12_sum_20 : decode cX12_sum 20 = .ok (.bipush 9, 2) := by decide +kernel
theorem dX12_sum_22 : decode cX12_sum 22 = .ok (.iaload, 1) := by decide +kernel
theorem dX12_sum_23 : decode cX12_sum 23 = .ok (.aaload, 1) := by decide +kernel
theorem dX12_sum_24 : decode cX12_sum 24 = .ok (.astore 5, 2) := by decide +kernel
theorem dX12_sum_26 : decode cX12_sum 26 = .ok (.aload_n 1, 1) := by decide +kernel
theorem dX12_sum_27 : decode cX12_sum 27 = .ok (.iconst 3, 1) := by decide +kernel
theorem dX12_sum_28 : decode cX12_sum 28 = .ok (.iaload, 1) := by decide +kernel
theorem dX12_sum_29 : decode cX12_sum 29 = .ok (.tableswitch 126 0 6 #[43, 45, 58, 68, 84, 109, 117], 43) := by decide +kernel
theorem dX12_sum_72 : decode cX12_sum 72 = .ok (.iload_n 2, 1) := by decide +kernel
theorem dX12_sum_73 : decode cX12_sum 73 = .ok (.ireturn, 1) := by decide +kernel
theorem dX12_sum_74 : decode cX12_sum 74 = .ok (.aload_n 0, 1) := by decide +kernel
theorem dX12_sum_75 : decode cX12_sum 75 = .ok (.getfield 22, 3) := by decide +kernel
theorem dX12_sum_78 : decode cX12_sum 78 = .ok (.iload_n 3, 1) := by decide +kernel
theorem dX12_sum_79 : decode cX12_sum 79 = .ok (.aaload, 1) := by decide +kernel
theorem dX12_sum_80 : decode cX12_sum 80 = .ok (.iconst 0, 1) := by decide +kernel
theorem dX12_sum_81 : decode cX12_sum 81 = .ok (.iaload, 1) := by decide +kernel
theorem dX12_sum_82 : decode cX12_sum 82 = .ok (.iconst 2, 1) := by decide +kernel
theorem dX12_sum_83 : decode cX12_sum 83 = .ok (.idiv, 1) := by decide +kernel
theorem dX12_sum_84 : decode cX12_sum 84 = .ok (.iload_n 2, 1) := by decide +kernel
theorem dX12_sum_85 : decode cX12_sum 85 = .ok (.iadd, 1) := by decide +kernel
theorem dX12_sum_86 : decode cX12_sum 86 = .ok (.ireturn, 1) := by decide +kernel
theorem dX12_sum_87 : decode cX12_sum 87 = .ok (.aload 5, 2) := by decide +kernel
theorem dX12_sum_89 : decode cX12_sum 89 = .ok (.iconst 1, 1) := by decide +kernel
theorem dX12_sum_90 : decode cX12_sum 90 = .ok (.iaload, 1) := by decide +kernel
theorem dX12_sum_91 : decode cX12_sum 91 = .ok (.bipush 100, 2) := by decide +kernel
theorem dX12_sum_93 : decode cX12_sum 93 = .ok (.idiv, 1) := by decide +kernel
theorem dX12_sum_94 : decode cX12_sum 94 = .ok (.iload_n 2, 1) := by decide +kernel
theorem dX12_sum_95 : decode cX12_sum 95 = .ok (.isub, 1) := by decide +kernel
theorem dX12_sum_96 : decode cX12_sum 96 = .ok (.ireturn, 1) := by decide +kernel
theorem dX12_sum_97 : decode cX12_sum 97 = .ok (.iconst 2, 1) := by decide +kernel
theorem dX12_sum_98 : decode cX12_sum 98 = .ok (.aload_n 0, 1) := by decide +kernel
theorem dX12_sum_99 : decode cX12_sum 99 = .ok (.getfield 25, 3) := by decide +kernel
theorem dX12_sum_102 : decode cX12_sum 102 = .ok (.iload_n 3, 1) := by decide +kernel
theorem dX12_sum_103 : decode cX12_sum 103 = .ok (.aaload, 1) := by decide +kernel
theorem dX12_sum_104 : decode cX12_sum 104 = .ok (.iload 4, 2) := by decide +kernel
theorem dX12_sum_106 : decode cX12_sum 106 = .ok (.iaload, 1) := by decide +kernel
theorem dX12_sum_107 : decode cX12_sum 107 = .ok (.iload_n 2, 1) := by decide +kernel
theorem dX12_sum_108 : decode cX12_sum 108 = .ok (.invokestatic 40, 3) := by decide +kernel
theorem dX12_sum_111 : decode cX12_sum 111 = .ok (.imul, 1) := by decide +kernel
theorem dX12_sum_112 : decode cX12_sum 112 = .ok (.ireturn, 1) := by decide +kernel
theorem dX12_sum_113 : decode cX12_sum 113 = .ok (.aload 5, 2) := by decide +kernel
theorem dX12_sum_115 : decode cX12_sum 115 = .ok (.iconst 3, 1) := by decide +kernel
theorem dX12_sum_116 : decode cX12_sum 116 = .ok (.iaload, 1) := by decide +kernel
theorem dX12_sum_117 : decode cX12_sum 117 = .ok (.ifCond .ge 7, 3) := by decide +kernel
theorem dX12_sum_120 : decode cX12_sum 120 = .ok (.iconst 0, 1) := by decide +kernel
theorem dX12_sum_121 : decode cX12_sum 121 = .ok (.goto 7, 3) := by decide +kernel
theorem dX12_sum_124 : decode cX12_sum 124 = .ok (.aload 5, 2) := by decide +kernel
theorem dX12_sum_126 : decode cX12_sum 126 = .ok (.iconst 4, 1) := by decide +kernel
theorem dX12_sum_127 : decode cX12_sum 127 = .ok (.iaload, 1) := by decide +kernel
theorem dX12_sum_128 : decode cX12_sum 128 = .ok (.iload_n 2, 1) := by decide +kernel
theorem dX12_sum_129 : decode cX12_sum 129 = .ok (.invokestatic 46, 3) := by decide +kernel
theorem dX12_sum_132 : decode cX12_sum 132 = .ok (.aload_n 0, 1) := by decide +kernel
theorem dX12_sum_133 : decode cX12_sum 133 = .ok (.getfield 37, 3) := by decide +kernel
theorem dX12_sum_136 : decode cX12_sum 136 = .ok (.isub, 1) := by decide +kernel
theorem dX12_sum_137 : decode cX12_sum 137 = .ok (.ireturn, 1) := by decide +kernel
theorem dX12_sum_138 : decode cX12_sum 138 = .ok (.aload_n 0, 1) := by decide +kernel
theorem dX12_sum_139 : decode cX12_sum 139 = .ok (.iload_n 3, 1) := by decide +kernel
theorem dX12_sum_140 : decode cX12_sum 140 = .ok (.invokevirtual 49, 3) := by decide +kernel
theorem dX12_sum_143 : decode cX12_sum 143 = .ok (.iload_n 2, 1) := by decide +kernel
theorem dX12_sum_144 : decode cX12_sum 144 = .ok (.isub, 1) := by decide +kernel
theorem dX12_sum_145 : decode cX12_sum 145 = .ok (.ireturn, 1) := by decide +kernel
theorem dX12_sum_146 : decode cX12_sum 146 = .ok (.aload_n 0, 1) := by decide +kernel
theorem dX12_sum_147 : decode cX12_sum 147 = .ok (.aload 5, 2) := by decide +kernel
theorem dX12_sum_149 : decode cX12_sum 149 = .ok (.invokevirtual 53, 3) := by decide +kernel
theorem dX12_sum_152 : decode cX12_sum 152 = .ok (.iload_n 2, 1) := by decide +kernel
theorem dX12_sum_153 : decode cX12_sum 153 = .ok (.imul, 1) := by decide +kernel
theorem dX12_sum_154 : decode cX12_sum 154 = .ok (.ireturn, 1) := by decide +kernel
theorem dX12_sum_155 : decode cX12_sum 155 = .ok (.ldc 57, 2) := by decide +kernel
theorem dX12_sum_157 : decode cX12_sum 157 = .ok (.ireturn, 1) := by decide +kernel
theorem dX12_holds_0 : decode cX12_holds 0 = .ok (.aload_n 1, 1) := by decide +kernel
theorem dX12_holds_1 : decode cX12_holds 1 = .ok (.bipush 6, 2) := by decide +kernel
theorem dX12_holds_3 : decode cX12_holds 3 = .ok (.iaload, 1) := by decide +kernel
theorem dX12_holds_4 : decode cX12_holds 4 = .ok (.istore_n 2, 1) := by decide +kernel
theorem dX12_holds_5 : decode cX12_holds 5 = .ok (.aload_n 1, 1) := by decide +kernel
theorem dX12_holds_6 : decode cX12_holds 6 = .ok (.bipush 7, 2) := by decide +kernel
theorem dX12_holds_8 : decode cX12_holds 8 = .ok (.iaload, 1) := by decide +kernel
theorem dX12_holds_9 : decode cX12_holds 9 = .ok (.istore_n 3, 1) := by decide +kernel
theorem dX12_holds_10 : decode cX12_holds 10 = .ok (.aload_n 0, 1) := by decide +kernel
theorem dX12_holds_11 : decode cX12_holds 11 = .ok (.getfield 28, 3) := by decide +kernel
theorem dX12_holds_14 : decode cX12_holds 14 = .ok (.aload_n 1, 1) := by decide +kernel
theorem dX12_holds_15 : decode cX12_holds 15 = .ok (.bipush 9, 2) := by decide +kernel
theorem dX12_holds_17 : decode cX12_holds 17 = .ok (.iaload, 1) := by decide +kernel
theorem dX12_holds_18 : decode cX12_holds 18 = .ok (.aaload, 1) := by decide +kernel
theorem dX12_holds_19 : decode cX12_holds 19 = .ok (.astore 4, 2) := by decide +kernel
theorem dX12_holds_21 : decode cX12_holds 21 = .ok (.aload_n 0, 1) := by decide +kernel
theorem dX12_holds_22 : decode cX12_holds 22 = .ok (.getfield 28, 3) := by decide +kernel
theorem dX12_holds_25 : decode cX12_holds 25 = .ok (.aload_n 1, 1) := by decide +kernel
theorem dX12_holds_26 : decode cX12_holds 26 = .ok (.bipush 10, 2) := by decide +kernel
theorem dX12_holds_28 : decode cX12_holds 28 = .ok (.iaload, 1) := by decide +kernel
theorem dX12_holds_29 : decode cX12_holds 29 = .ok (.aaload, 1) := by decide +kernel
theorem dX12_holds_30 : decode cX12_holds 30 = .ok (.astore 5, 2) := by decide +kernel
theorem dX12_holds_32 : decode cX12_holds 32 = .ok (.aload_n 1, 1) := by decide +kernel
theorem dX12_holds_33 : decode cX12_holds 33 = .ok (.iconst 5, 1) := by decide +kernel
theorem dX12_holds_34 : decode cX12_holds 34 = .ok (.iaload, 1) := by decide +kernel
theorem dX12_holds_35 : decode cX12_holds 35 = .ok (.tableswitch 172 (-1) 5 #[41, 43, 59, 73, 102, 142, 157], 41) := by decide +kernel
theorem dX12_holds_76 : decode cX12_holds 76 = .ok (.iconst 1, 1) := by decide +kernel
theorem dX12_holds_77 : decode cX12_holds 77 = .ok (.ireturn, 1) := by decide +kernel
theorem dX12_holds_78 : decode cX12_holds 78 = .ok (.aload_n 0, 1) := by decide +kernel
theorem dX12_holds_79 : decode cX12_holds 79 = .ok (.getfield 37, 3) := by decide +kernel
theorem dX12_holds_82 : decode cX12_holds 82 = .ok (.iload_n 2, 1) := by decide +kernel
theorem dX12_holds_83 : decode cX12_holds 83 = .ok (.iconst 4, 1) := by decide +kernel
theorem dX12_holds_84 : decode cX12_holds 84 = .ok (.idiv, 1) := by decide +kernel
theorem dX12_holds_85 : decode cX12_holds 85 = .ok (.if_icmp .le 7, 3) := by decide +kernel
theorem dX12_holds_88 : decode cX12_holds 88 = .ok (.iconst 1, 1) := by decide +kernel
theorem dX12_holds_89 : decode cX12_holds 89 = .ok (.goto 4, 3) := by decide +kernel
theorem dX12_holds_92 : decode cX12_holds 92 = .ok (.iconst 0, 1) := by decide +kernel
theorem dX12_holds_93 : decode cX12_holds 93 = .ok (.ireturn, 1) := by decide +kernel
theorem dX12_holds_94 : decode cX12_holds 94 = .ok (.aload 4, 2) := by decide +kernel
theorem dX12_holds_96 : decode cX12_holds 96 = .ok (.iconst 2, 1) := by decide +kernel
theorem dX12_holds_97 : decode cX12_holds 97 = .ok (.iaload, 1) := by decide +kernel
theorem dX12_holds_98 : decode cX12_holds 98 = .ok (.iload_n 3, 1) := by decide +kernel
theorem dX12_holds_99 : decode cX12_holds 99 = .ok (.if_icmp .ne 7, 3) := by decide +kernel
theorem dX12_holds_102 : decode cX12_holds 102 = .ok (.iconst 1, 1) := by decide +kernel
theorem dX12_holds_103 : decode cX12_holds 103 = .ok (.goto 4, 3) := by decide +kernel
theorem dX12_holds_106 : decode cX12_holds 106 = .ok (.iconst 0, 1) := by decide +kernel
theorem dX12_holds_107 : decode cX12_holds 107 = .ok (.ireturn, 1) := by decide +kernel
theorem dX12_holds_108 : decode cX12_holds 108 = .ok (.aload 4, 2) := by decide +kernel
theorem dX12_holds_110 : decode cX12_holds 110 = .ok (.iconst 2, 1) := by decide +kernel
theorem dX12_holds_111 : decode cX12_holds 111 = .ok (.iaload, 1) := by decide +kernel
theorem dX12_holds_112 : decode cX12_holds 112 = .ok (.iload_n 3, 1) := by decide +kernel
theorem dX12_holds_113 : decode cX12_holds 113 = .ok (.if_icmp .ne 18, 3) := by decide +kernel
theorem dX12_holds_116 : decode cX12_holds 116 = .ok (.aload_n 0, 1) := by decide +kernel
theorem dX12_holds_117 : decode cX12_holds 117 = .ok (.getfield 22, 3) := by decide +kernel
theorem dX12_holds_120 : decode cX12_holds 120 = .ok (.aload_n 1, 1) := by decide +kernel
theorem dX12_holds_121 : decode cX12_holds 121 = .ok (.bipush 8, 2) := by decide +kernel
theorem dX12_holds_123 : decode cX12_holds 123 = .ok (.iaload, 1) := by decide +kernel
theorem dX12_holds_124 : decode cX12_holds 124 = .ok (.aaload, 1) := by decide +kernel
theorem dX12_holds_125 : decode cX12_holds 125 = .ok (.iconst 0, 1) := by decide +kernel
theorem dX12_holds_126 : decode cX12_holds 126 = .ok (.iaload, 1) := by decide +kernel
theorem dX12_holds_127 : decode cX12_holds 127 = .ok (.iload_n 2, 1) := by decide +kernel
theorem dX12_holds_128 : decode cX12_holds 128 = .ok (.if_icmp .le 7, 3) := by decide +kernel
theorem dX12_holds_131 : decode cX12_holds 131 = .ok (.iconst 1, 1) := by decide +kernel
theorem dX12_holds_132 : decode cX12_holds 132 = .ok (.goto 4, 3) := by decide +kernel
theorem dX12_holds_135 : decode cX12_holds 135 = .ok (.iconst 0, 1) := by decide +kernel
theorem dX12_holds_136 : decode cX12_holds 136 = .ok (.ireturn, 1) := by decide +kernel
theorem dX12_holds_137 : decode cX12_holds 137 = .ok (.aload 4, 2) := by decide +kernel
theorem dX12_holds_139 : decode cX12_holds 139 = .ok (.iconst 1, 1) := by decide +kernel
theorem dX12_holds_140 : decode cX12_holds 140 = .ok (.iaload, 1) := by decide +kernel
theorem dX12_holds_141 : decode cX12_holds 141 = .ok (.bipush 10, 2) := by decide +kernel
theorem dX12_holds_143 : decode cX12_holds 143 = .ok (.iload_n 2, 1) := by decide +kernel
theorem dX12_holds_144 : decode cX12_holds 144 = .ok (.imul, 1) := by decide +kernel
theorem dX12_holds_145 : decode cX12_holds 145 = .ok (.if_icmp .le 13, 3) := by decide +kernel
theorem dX12_holds_148 : decode cX12_holds 148 = .ok (.aload_n 0, 1) := by decide +kernel
theorem dX12_holds_149 : decode cX12_holds 149 = .ok (.getfield 7, 3) := by decide +kernel
theorem dX12_holds_152 : decode cX12_holds 152 = .ok (.iload_n 2, 1) := by decide +kernel
theorem dX12_holds_153 : decode cX12_holds 153 = .ok (.iconst 3, 1) := by decide +kernel
theorem dX12_holds_154 : decode cX12_holds 154 = .ok (.idiv, 1) := by decide +kernel
theorem dX12_holds_155 : decode cX12_holds 155 = .ok (.if_icmp .lt 16, 3) := by decide +kernel
theorem dX12_holds_158 : decode cX12_holds 158 = .ok (.aload_n 0, 1) := by decide +kernel
theorem dX12_holds_159 : decode cX12_holds 159 = .ok (.aload 5, 2) := by decide +kernel
theorem dX12_holds_161 : decode cX12_holds 161 = .ok (.invokevirtual 53, 3) := by decide +kernel
theorem dX12_holds_164 : decode cX12_holds 164 = .ok (.iload_n 2, 1) := by decide +kernel
theorem dX12_holds_165 : decode cX12_holds 165 = .ok (.bipush 9, 2) := by decide +kernel
theorem dX12_holds_167 : decode cX12_holds 167 = .ok (.idiv, 1) := by decide +kernel
theorem dX12_holds_168 : decode cX12_holds 168 = .ok (.if_icmp .gt 7, 3) := by decide +kernel
theorem dX12_holds_171 : decode cX12_holds 171 = .ok (.iconst 1, 1) := by decide +kernel
theorem dX12_holds_172 : decode cX12_holds 172 = .ok (.goto 4, 3) := by decide +kernel
theorem dX12_holds_175 : decode cX12_holds 175 = .ok (.iconst 0, 1) := by decide +kernel
theorem dX12_holds_176 : decode cX12_holds 176 = .ok (.ireturn, 1) := by decide +kernel
theorem dX12_holds_177 : decode cX12_holds 177 = .ok (.aload_n 0, 1) := by decide +kernel
theorem dX12_holds_178 : decode cX12_holds 178 = .ok (.iload_n 3, 1) := by decide +kernel
theorem dX12_holds_179 : decode cX12_holds 179 = .ok (.invokevirtual 49, 3) := by decide +kernel
theorem dX12_holds_182 : decode cX12_holds 182 = .ok (.iload_n 2, 1) := by decide +kernel
theorem dX12_holds_183 : decode cX12_holds 183 = .ok (.if_icmp .gt 7, 3) := by decide +kernel
theorem dX12_holds_186 : decode cX12_holds 186 = .ok (.iconst 1, 1) := by decide +kernel
theorem dX12_holds_187 : decode cX12_holds 187 = .ok (.goto 4, 3) := by decide +kernel
theorem dX12_holds_190 : decode cX12_holds 190 = .ok (.iconst 0, 1) := by decide +kernel
theorem dX12_holds_191 : decode cX12_holds 191 = .ok (.ireturn, 1) := by decide +kernel
theorem dX12_holds_192 : decode cX12_holds 192 = .ok (.aload_n 0, 1) := by decide +kernel
theorem dX12_holds_193 : decode cX12_holds 193 = .ok (.getfield 37, 3) := by decide +kernel
theorem dX12_holds_196 : decode cX12_holds 196 = .ok (.iconst 2, 1) := by decide +kernel
theorem dX12_holds_197 : decode cX12_holds 197 = .ok (.irem, 1) := by decide +kernel
theorem dX12_holds_198 : decode cX12_holds 198 = .ok (.ifCond .ne 7, 3) := by decide +kernel
theorem dX12_holds_201 : decode cX12_holds 201 = .ok (.iconst 1, 1) := by decide +kernel
theorem dX12_holds_202 : decode cX12_holds 202 = .ok (.goto 4, 3) := by decide +kernel
theorem dX12_holds_205 : decode cX12_holds 205 = .ok (.iconst 0, 1) := by decide +kernel
theorem dX12_holds_206 : decode cX12_holds 206 = .ok (.ireturn, 1) := by decide +kernel
theorem dX12_holds_207 : decode cX12_holds 207 = .ok (.aload 4, 2) := by decide +kernel
theorem dX12_holds_209 : decode cX12_holds 209 = .ok (.iconst 3, 1) := by decide +kernel
theorem dX12_holds_210 : decode cX12_holds 210 = .ok (.iaload, 1) := by decide +kernel
theorem dX12_holds_211 : decode cX12_holds 211 = .ok (.ifCond .ge 7, 3) := by decide +kernel
theorem dX12_holds_214 : decode cX12_holds 214 = .ok (.iconst 0, 1) := by decide +kernel
theorem dX12_holds_215 : decode cX12_holds 215 = .ok (.goto 7, 3) := by decide +kernel
theorem dX12_holds_218 : decode cX12_holds 218 = .ok (.aload 4, 2) := by decide +kernel
theorem dX12_holds_220 : decode cX12_holds 220 = .ok (.iconst 4, 1) := by decide +kernel
theorem dX12_holds_221 : decode cX12_holds 221 = .ok (.iaload, 1) := by decide +kernel
theorem dX12_holds_222 : decode cX12_holds 222 = .ok (.bipush 9, 2) := by decide +kernel
theorem dX12_holds_224 : decode cX12_holds 224 = .ok (.iload_n 2, 1) := by decide +kernel
theorem dX12_holds_225 : decode cX12_holds 225 = .ok (.imul, 1) := by decide +kernel
theorem dX12_holds_226 : decode cX12_holds 226 = .ok (.if_icmp .gt 7, 3) := by decide +kernel
theorem dX12_holds_229 : decode cX12_holds 229 = .ok (.iconst 1, 1) := by decide +kernel
theorem dX12_holds_230 : decode cX12_holds 230 = .ok (.goto 4, 3) := by decide +kernel
theorem dX12_holds_233 : decode cX12_holds 233 = .ok (.iconst 0, 1) := by decide +kernel
theorem dX12_holds_234 : decode cX12_holds 234 = .ok (.ireturn, 1) := by decide +kernel
theorem dX12_does_0 : decode cX12_does 0 = .ok (.aload_n 0, 1) := by decide +kernel
theorem dX12_does_1 : decode cX12_does 1 = .ok (.aload_n 1, 1) := by decide +kernel
theorem dX12_does_2 : decode cX12_does 2 = .ok (.invokevirtual 58, 3) := by decide +kernel
theorem dX12_does_5 : decode cX12_does 5 = .ok (.ifCond .ne 5, 3) := by decide +kernel
theorem dX12_does_8 : decode cX12_does 8 = .ok (.iconst (-1), 1) := by decide +kernel
theorem dX12_does_9 : decode cX12_does 9 = .ok (.ireturn, 1) := by decide +kernel
theorem dX12_does_10 : decode cX12_does 10 = .ok (.aload_n 1, 1) := by decide +kernel
theorem dX12_does_11 : decode cX12_does 11 = .ok (.iconst 0, 1) := by decide +kernel
theorem dX12_does_12 : decode cX12_does 12 = .ok (.iaload, 1) := by decide +kernel
theorem dX12_does_13 : decode cX12_does 13 = .ok (.ifCond .ne 41, 3) := by decide +kernel
theorem dX12_does_16 : decode cX12_does 16 = .ok (.aload_n 0, 1) := by decide +kernel
theorem dX12_does_17 : decode cX12_does 17 = .ok (.getfield 18, 3) := by decide +kernel
theorem dX12_does_20 : decode cX12_does 20 = .ok (.aload_n 1, 1) := by decide +kernel
theorem dX12_does_21 : decode cX12_does 21 = .ok (.iconst 2, 1) := by decide +kernel
theorem dX12_does_22 : decode cX12_does 22 = .ok (.iaload, 1) := by decide +kernel
theorem dX12_does_23 : decode cX12_does 23 = .ok (.aaload, 1) := by decide +kernel
theorem dX12_does_24 : decode cX12_does 24 = .ok (.iconst 0, 1) := by decide +kernel
theorem dX12_does_25 : decode cX12_does 25 = .ok (.iaload, 1) := by decide +kernel
theorem dX12_does_26 : decode cX12_does 26 = .ok (.istore_n 2, 1) := by decide +kernel
theorem dX12_does_27 : decode cX12_does 27 = .ok (.aload_n 0, 1) := by decide +kernel
theorem dX12_does_28 : decode cX12_does 28 = .ok (.getfield 22, 3) := by decide +kernel
theorem dX12_does_31 : decode cX12_does 31 = .ok (.aload_n 0, 1) := by decide +kernel
theorem dX12_does_32 : decode cX12_does 32 = .ok (.getfield 28, 3) := by decide +kernel
theorem dX12_does_35 : decode cX12_does 35 = .ok (.aload_n 1, 1) := by decide +kernel
theorem dX12_does_36 : decode cX12_does 36 = .ok (.iconst 1, 1) := by decide +kernel
theorem dX12_does_37 : decode cX12_does 37 = .ok (.iaload, 1) := by decide +kernel
theorem dX12_does_38 : decode cX12_does 38 = .ok (.aaload, 1) := by decide +kernel
theorem dX12_does_39 : decode cX12_does 39 = .ok (.iconst 2, 1) := by decide +kernel
theorem dX12_does_40 : decode cX12_does 40 = .ok (.iaload, 1) := by decide +kernel
theorem dX12_does_41 : decode cX12_does 41 = .ok (.aaload, 1) := by decide +kernel
theorem dX12_does_42 : decode cX12_does 42 = .ok (.iconst 0, 1) := by decide +kernel
theorem dX12_does_43 : decode cX12_does 43 = .ok (.iaload, 1) := by decide +kernel
theorem dX12_does_44 : decode cX12_does 44 = .ok (.iload_n 2, 1) := by decide +kernel
theorem dX12_does_45 : decode cX12_does 45 = .ok (.if_icmp .ge 7, 3) := by decide +kernel
theorem dX12_does_48 : decode cX12_does 48 = .ok (.iconst (-1), 1) := by decide +kernel
theorem dX12_does_49 : decode cX12_does 49 = .ok (.goto 4, 3) := by decide +kernel
theorem dX12_does_52 : decode cX12_does 52 = .ok (.iload_n 2, 1) := by decide +kernel
theorem dX12_does_53 : decode cX12_does 53 = .ok (.ireturn, 1) := by decide +kernel
theorem dX12_does_54 : decode cX12_does 54 = .ok (.aload_n 0, 1) := by decide +kernel
theorem dX12_does_55 : decode cX12_does 55 = .ok (.aload_n 1, 1) := by decide +kernel
theorem dX12_does_56 : decode cX12_does 56 = .ok (.invokevirtual 62, 3) := by decide +kernel
theorem dX12_does_59 : decode cX12_does 59 = .ok (.istore_n 2, 1) := by decide +kernel
theorem dX12_does_60 : decode cX12_does 60 = .ok (.aload_n 1, 1) := by decide +kernel
theorem dX12_does_61 : decode cX12_does 61 = .ok (.iconst 0, 1) := by decide +kernel
theorem dX12_does_62 : decode cX12_does 62 = .ok (.iaload, 1) := by decide +kernel
theorem dX12_does_63 : decode cX12_does 63 = .ok (.iconst 2, 1) := by decide +kernel
theorem dX12_does_64 : decode cX12_does 64 = .ok (.if_icmp .ne 65, 3) := by decide +kernel
theorem dX12_does_67 : decode cX12_does 67 = .ok (.aload_n 1, 1) := by decide +kernel
theorem dX12_does_68 : decode cX12_does 68 = .ok (.iconst 1, 1) := by decide +kernel
theorem dX12_does_69 : decode cX12_does 69 = .ok (.iaload, 1) := by decide +kernel
theorem dX12_does_70 : decode cX12_does 70 = .ok (.aload_n 1, 1) := by decide +kernel
theorem dX12_does_71 : decode cX12_does 71 = .ok (.iconst 2, 1) := by decide +kernel
theorem dX12_does_72 : decode cX12_does 72 = .ok (.iaload, 1) := by decide +kernel
theorem dX12_does_73 : decode cX12_does 73 = .ok (.if_icmp .ne 5, 3) := by decide +kernel
theorem dX12_does_76 : decode cX12_does 76 = .ok (.iconst (-1), 1) := by decide +kernel
theorem dX12_does_77 : decode cX12_does 77 = .ok (.ireturn, 1) := by decide +kernel
theorem dX12_does_78 : decode cX12_does 78 = .ok (.aload_n 0, 1) := by decide +kernel
theorem dX12_does_79 : decode cX12_does 79 = .ok (.getfield 25, 3) := by decide +kernel
theorem dX12_does_82 : decode cX12_does 82 = .ok (.aload_n 1, 1) := by decide +kernel
theorem dX12_does_83 : decode cX12_does 83 = .ok (.iconst 1, 1) := by decide +kernel
theorem dX12_does_84 : decode cX12_does 84 = .ok (.iaload, 1) := by decide +kernel
theorem dX12_does_85 : decode cX12_does 85 = .ok (.aaload, 1) := by decide +kernel
theorem dX12_does_86 : decode cX12_does 86 = .ok (.aload_n 1, 1) := by decide +kernel
theorem dX12_does_87 : decode cX12_does 87 = .ok (.iconst 2, 1) := by decide +kernel
theorem dX12_does_88 : decode cX12_does 88 = .ok (.iaload, 1) := by decide +kernel
theorem dX12_does_89 : decode cX12_does 89 = .ok (.iaload, 1) := by decide +kernel
theorem dX12_does_90 : decode cX12_does 90 = .ok (.aload_n 0, 1) := by decide +kernel
theorem dX12_does_91 : decode cX12_does 91 = .ok (.getfield 22, 3) := by decide +kernel
theorem dX12_does_94 : decode cX12_does 94 = .ok (.aload_n 1, 1) := by decide +kernel
theorem dX12_does_95 : decode cX12_does 95 = .ok (.iconst 1, 1) := by decide +kernel
theorem dX12_does_96 : decode cX12_does 96 = .ok (.iaload, 1) := by decide +kernel
theorem dX12_does_97 : decode cX12_does 97 = .ok (.aaload, 1) := by decide +kernel
theorem dX12_does_98 : decode cX12_does 98 = .ok (.iconst 0, 1) := by decide +kernel
theorem dX12_does_99 : decode cX12_does 99 = .ok (.iaload, 1) := by decide +kernel
theorem dX12_does_100 : decode cX12_does 100 = .ok (.invokestatic 40, 3) := by decide +kernel
theorem dX12_does_103 : decode cX12_does 103 = .ok (.istore_n 3, 1) := by decide +kernel
theorem dX12_does_104 : decode cX12_does 104 = .ok (.iload_n 2, 1) := by decide +kernel
theorem dX12_does_105 : decode cX12_does 105 = .ok (.iload_n 3, 1) := by decide +kernel
theorem dX12_does_106 : decode cX12_does 106 = .ok (.if_icmp .ge 7, 3) := by decide +kernel
theorem dX12_does_109 : decode cX12_does 109 = .ok (.iload_n 2, 1) := by decide +kernel
theorem dX12_does_110 : decode cX12_does 110 = .ok (.goto 4, 3) := by decide +kernel
theorem dX12_does_113 : decode cX12_does 113 = .ok (.iload_n 3, 1) := by decide +kernel
theorem dX12_does_114 : decode cX12_does 114 = .ok (.istore 4, 2) := by decide +kernel
theorem dX12_does_116 : decode cX12_does 116 = .ok (.iload 4, 2) := by decide +kernel
theorem dX12_does_118 : decode cX12_does 118 = .ok (.iconst 1, 1) := by decide +kernel
theorem dX12_does_119 : decode cX12_does 119 = .ok (.if_icmp .ge 7, 3) := by decide +kernel
theorem dX12_does_122 : decode cX12_does 122 = .ok (.iconst (-1), 1) := by decide +kernel
theorem dX12_does_123 : decode cX12_does 123 = .ok (.goto 5, 3) := by decide +kernel
theorem dX12_does_126 : decode cX12_does 126 = .ok (.iload 4, 2) := by decide +kernel
theorem dX12_does_128 : decode cX12_does 128 = .ok (.ireturn, 1) := by decide +kernel
theorem dX12_does_129 : decode cX12_does 129 = .ok (.aload_n 0, 1) := by decide +kernel
theorem dX12_does_130 : decode cX12_does 130 = .ok (.getfield 28, 3) := by decide +kernel
theorem dX12_does_133 : decode cX12_does 133 = .ok (.aload_n 1, 1) := by decide +kernel
theorem dX12_does_134 : decode cX12_does 134 = .ok (.iconst 1, 1) := by decide +kernel
theorem dX12_does_135 : decode cX12_does 135 = .ok (.iaload, 1) := by decide +kernel
theorem dX12_does_136 : decode cX12_does 136 = .ok (.aaload, 1) := by decide +kernel
theorem dX12_does_137 : decode cX12_does 137 = .ok (.astore_n 3, 1) := by decide +kernel
theorem dX12_does_138 : decode cX12_does 138 = .ok (.aload_n 3, 1) := by decide +kernel
theorem dX12_does_139 : decode cX12_does 139 = .ok (.iconst 3, 1) := by decide +kernel
theorem dX12_does_140 : decode cX12_does 140 = .ok (.iaload, 1) := by decide +kernel
theorem dX12_does_141 : decode cX12_does 141 = .ok (.ifCond .lt 21, 3) := by decide +kernel
theorem dX12_does_144 : decode cX12_does 144 = .ok (.aload_n 0, 1) := by decide +kernel
theorem dX12_does_145 : decode cX12_does 145 = .ok (.aload_n 3, 1) := by decide +kernel
theorem dX12_does_146 : decode cX12_does 146 = .ok (.invokevirtual 53, 3) := by decide +kernel
theorem dX12_does_149 : decode cX12_does 149 = .ok (.iconst 5, 1) := by decide +kernel
theorem dX12_does_150 : decode cX12_does 150 = .ok (.if_icmp .gt 12, 3) := by decide +kernel
theorem dX12_does_153 : decode cX12_does 153 = .ok (.aload_n 3, 1) := by decide +kernel
theorem dX12_does_154 : decode cX12_does 154 = .ok (.iconst 2, 1) := by decide +kernel
theorem dX12_does_155 : decode cX12_does 155 = .ok (.iaload, 1) := by decide +kernel
theorem dX12_does_156 : decode cX12_does 156 = .ok (.aload_n 1, 1) := by decide +kernel
theorem dX12_does_157 : decode cX12_does 157 = .ok (.iconst 2, 1) := by decide +kernel
theorem dX12_does_158 : decode cX12_does 158 = .ok (.iaload, 1) := by decide +kernel
theorem dX12_does_159 : decode cX12_does 159 = .ok (.if_icmp .ne 5, 3) := by decide +kernel
theorem dX12_does_162 : decode cX12_does 162 = .ok (.iconst (-1), 1) := by decide +kernel
theorem dX12_does_163 : decode cX12_does 163 = .ok (.ireturn, 1) := by decide +kernel
theorem dX12_does_164 : decode cX12_does 164 = .ok (.iload_n 2, 1) := by decide +kernel
theorem dX12_does_165 : decode cX12_does 165 = .ok (.ifCond .ge 7, 3) := by decide +kernel
theorem dX12_does_168 : decode cX12_does 168 = .ok (.iconst 0, 1) := by decide +kernel
theorem dX12_does_169 : decode cX12_does 169 = .ok (.goto 17, 3) := by decide +kernel
theorem dX12_does_172 : decode cX12_does 172 = .ok (.iload_n 2, 1) := by decide +kernel
theorem dX12_does_173 : decode cX12_does 173 = .ok (.sipush 999, 3) := by decide +kernel
theorem dX12_does_176 : decode cX12_does 176 = .ok (.if_icmp .le 9, 3) := by decide +kernel
theorem dX12_does_179 : decode cX12_does 179 = .ok (.sipush 999, 3) := by decide +kernel
theorem dX12_does_182 : decode cX12_does 182 = .ok (.goto 4, 3) := by decide +kernel
theorem dX12_does_185 : decode cX12_does 185 = .ok (.iload_n 2, 1) := by decide +kernel
theorem dX12_does_186 : decode cX12_does 186 = .ok (.aload_n 3, 1) := by decide +kernel
theorem dX12_does_187 : decode cX12_does 187 = .ok (.iconst 4, 1) := by decide +kernel
theorem dX12_does_188 : decode cX12_does 188 = .ok (.iaload, 1) := by decide +kernel
theorem dX12_does_189 : decode cX12_does 189 = .ok (.imul, 1) := by decide +kernel
theorem dX12_does_190 : decode cX12_does 190 = .ok (.bipush 100, 2) := by decide +kernel
theorem dX12_does_192 : decode cX12_does 192 = .ok (.idiv, 1) := by decide +kernel
theorem dX12_does_193 : decode cX12_does 193 = .ok (.istore 4, 2) := by decide +kernel
theorem dX12_does_195 : decode cX12_does 195 = .ok (.iload 4, 2) := by decide +kernel
theorem dX12_does_197 : decode cX12_does 197 = .ok (.aload_n 0, 1) := by decide +kernel
theorem dX12_does_198 : decode cX12_does 198 = .ok (.getfield 22, 3) := by decide +kernel
theorem dX12_does_201 : decode cX12_does 201 = .ok (.aload_n 1, 1) := by decide +kernel
theorem dX12_does_202 : decode cX12_does 202 = .ok (.iconst 2, 1) := by decide +kernel
theorem dX12_does_203 : decode cX12_does 203 = .ok (.iaload, 1) := by decide +kernel
theorem dX12_does_204 : decode cX12_does 204 = .ok (.aaload, 1) := by decide +kernel
theorem dX12_does_205 : decode cX12_does 205 = .ok (.iconst 0, 1) := by decide +kernel
theorem dX12_does_206 : decode cX12_does 206 = .ok (.iaload, 1) := by decide +kernel
theorem dX12_does_207 : decode cX12_does 207 = .ok (.isub, 1) := by decide +kernel
theorem dX12_does_208 : decode cX12_does 208 = .ok (.istore 5, 2) := by decide +kernel
theorem dX12_does_210 : decode cX12_does 210 = .ok (.aload_n 0, 1) := by decide +kernel
theorem dX12_does_211 : decode cX12_does 211 = .ok (.aload_n 1, 1) := by decide +kernel
theorem dX12_does_212 : decode cX12_does 212 = .ok (.iconst 2, 1) := by decide +kernel
theorem dX12_does_213 : decode cX12_does 213 = .ok (.iaload, 1) := by decide +kernel
theorem dX12_does_214 : decode cX12_does 214 = .ok (.invokevirtual 49, 3) := by decide +kernel
theorem dX12_does_217 : decode cX12_does 217 = .ok (.iload 5, 2) := by decide +kernel
theorem dX12_does_219 : decode cX12_does 219 = .ok (.ifCond .ge 7, 3) := by decide +kernel
theorem dX12_does_222 : decode cX12_does 222 = .ok (.iconst 0, 1) := by decide +kernel
theorem dX12_does_223 : decode cX12_does 223 = .ok (.goto 5, 3) := by decide +kernel
theorem dX12_does_226 : decode cX12_does 226 = .ok (.iload 5, 2) := by decide +kernel
theorem dX12_does_228 : decode cX12_does 228 = .ok (.iadd, 1) := by decide +kernel
theorem dX12_does_229 : decode cX12_does 229 = .ok (.aload_n 0, 1) := by decide +kernel
theorem dX12_does_230 : decode cX12_does 230 = .ok (.getfield 22, 3) := by decide +kernel
theorem dX12_does_233 : decode cX12_does 233 = .ok (.aload_n 1, 1) := by decide +kernel
theorem dX12_does_234 : decode cX12_does 234 = .ok (.iconst 2, 1) := by decide +kernel
theorem dX12_does_235 : decode cX12_does 235 = .ok (.iaload, 1) := by decide +kernel
theorem dX12_does_236 : decode cX12_does 236 = .ok (.aaload, 1) := by decide +kernel
theorem dX12_does_237 : decode cX12_does 237 = .ok (.iconst 1, 1) := by decide +kernel
theorem dX12_does_238 : decode cX12_does 238 = .ok (.iaload, 1) := by decide +kernel
theorem dX12_does_239 : decode cX12_does 239 = .ok (.if_icmp .le 7, 3) := by decide +kernel
theorem dX12_does_242 : decode cX12_does 242 = .ok (.iconst (-1), 1) := by decide +kernel
theorem dX12_does_243 : decode cX12_does 243 = .ok (.goto 5, 3) := by decide +kernel
theorem dX12_does_246 : decode cX12_does 246 = .ok (.iload 4, 2) := by decide +kernel
theorem dX12_does_248 : decode cX12_does 248 = .ok (.ireturn, 1) := by decide +kernel
theorem dX12_carry_0 : decode cX12_carry 0 = .ok (.aload_n 0, 1) := by decide +kernel
theorem dX12_carry_1 : decode cX12_carry 1 = .ok (.aload_n 1, 1) := by decide +kernel
theorem dX12_carry_2 : decode cX12_carry 2 = .ok (.invokevirtual 65, 3) := by decide +kernel
theorem dX12_carry_5 : decode cX12_carry 5 = .ok (.istore_n 2, 1) := by decide +kernel
theorem dX12_carry_6 : decode cX12_carry 6 = .ok (.iload_n 2, 1) := by decide +kernel
theorem dX12_carry_7 : decode cX12_carry 7 = .ok (.ifCond .ge 5, 3) := by decide +kernel
theorem dX12_carry_10 : decode cX12_carry 10 = .ok (.iconst 0, 1) := by decide +kernel
theorem dX12_carry_11 : decode cX12_carry 11 = .ok (.ireturn, 1) := by decide +kernel
theorem dX12_carry_12 : decode cX12_carry 12 = .ok (.aload_n 1, 1) := by decide +kernel
theorem dX12_carry_13 : decode cX12_carry 13 = .ok (.bipush 11, 2) := by decide +kernel
theorem dX12_carry_15 : decode cX12_carry 15 = .ok (.dup2, 1) := by decide +kernel
theorem dX12_carry_16 : decode cX12_carry 16 = .ok (.iaload, 1) := by decide +kernel
theorem dX12_carry_17 : decode cX12_carry 17 = .ok (.iconst 1, 1) := by decide +kernel
theorem dX12_carry_18 : decode cX12_carry 18 = .ok (.iadd, 1) := by decide +kernel
theorem dX12_carry_19 : decode cX12_carry 19 = .ok (.iastore, 1) := by decide +kernel
theorem dX12_carry_20 : decode cX12_carry 20 = .ok (.aload_n 0, 1) := by decide +kernel
theorem dX12_carry_21 : decode cX12_carry 21 = .ok (.getfield 34, 3) := by decide +kernel
theorem dX12_carry_24 : decode cX12_carry 24 = .ok (.aload_n 1, 1) := by decide +kernel
theorem dX12_carry_25 : decode cX12_carry 25 = .ok (.iconst 0, 1) := by decide +kernel
theorem dX12_carry_26 : decode cX12_carry 26 = .ok (.iaload, 1) := by decide +kernel
theorem dX12_carry_27 : decode cX12_carry 27 = .ok (.dup2, 1) := by decide +kernel
theorem dX12_carry_28 : decode cX12_carry 28 = .ok (.iaload, 1) := by decide +kernel
theorem dX12_carry_29 : decode cX12_carry 29 = .ok (.iconst 1, 1) := by decide +kernel
theorem dX12_carry_30 : decode cX12_carry 30 = .ok (.iadd, 1) := by decide +kernel
theorem dX12_carry_31 : decode cX12_carry 31 = .ok (.iastore, 1) := by decide +kernel
theorem dX12_carry_32 : decode cX12_carry 32 = .ok (.aload_n 1, 1) := by decide +kernel
theorem dX12_carry_33 : decode cX12_carry 33 = .ok (.iconst 0, 1) := by decide +kernel
theorem dX12_carry_34 : decode cX12_carry 34 = .ok (.iaload, 1) := by decide +kernel
theorem dX12_carry_35 : decode cX12_carry 35 = .ok (.iconst 2, 1) := by decide +kernel
theorem dX12_carry_36 : decode cX12_carry 36 = .ok (.if_icmp .ne 49, 3) := by decide +kernel
theorem dX12_carry_39 : decode cX12_carry 39 = .ok (.aload_n 0, 1) := by decide +kernel
theorem dX12_carry_40 : decode cX12_carry 40 = .ok (.getfield 22, 3) := by decide +kernel
theorem dX12_carry_43 : decode cX12_carry 43 = .ok (.aload_n 1, 1) := by decide +kernel
theorem dX12_carry_44 : decode cX12_carry 44 = .ok (.iconst 1, 1) := by decide +kernel
theorem dX12_carry_45 : decode cX12_carry 45 = .ok (.iaload, 1) := by decide +kernel
theorem dX12_carry_46 : decode cX12_carry 46 = .ok (.aaload, 1) := by decide +kernel
theorem dX12_carry_47 : decode cX12_carry 47 = .ok (.iconst 0, 1) := by decide +kernel
theorem dX12_carry_48 : decode cX12_carry 48 = .ok (.dup2, 1) := by decide +kernel
theorem dX12_carry_49 : decode cX12_carry 49 = .ok (.iaload, 1) := by decide +kernel
theorem dX12_carry_50 : decode cX12_carry 50 = .ok (.iload_n 2, 1) := by decide +kernel
theorem dX12_carry_51 : decode cX12_carry 51 = .ok (.isub, 1) := by decide +kernel
theorem dX12_carry_52 : decode cX12_carry 52 = .ok (.iastore, 1) := by decide +kernel
theorem dX12_carry_53 : decode cX12_carry 53 = .ok (.aload_n 0, 1) := by decide +kernel
theorem dX12_carry_54 : decode cX12_carry 54 = .ok (.getfield 22, 3) := by decide +kernel
theorem dX12_carry_57 : decode cX12_carry 57 = .ok (.aload_n 1, 1) := by decide +kernel
theorem dX12_carry_58 : decode cX12_carry 58 = .ok (.iconst 2, 1) := by decide +kernel
theorem dX12_carry_59 : decode cX12_carry 59 = .ok (.iaload, 1) := by decide +kernel
theorem dX12_carry_60 : decode cX12_carry 60 = .ok (.aaload, 1) := by decide +kernel
theorem dX12_carry_61 : decode cX12_carry 61 = .ok (.iconst 0, 1) := by decide +kernel
theorem dX12_carry_62 : decode cX12_carry 62 = .ok (.dup2, 1) := by decide +kernel
theorem dX12_carry_63 : decode cX12_carry 63 = .ok (.iaload, 1) := by decide +kernel
theorem dX12_carry_64 : decode cX12_carry 64 = .ok (.iload_n 2, 1) := by decide +kernel
theorem dX12_carry_65 : decode cX12_carry 65 = .ok (.iadd, 1) := by decide +kernel
theorem dX12_carry_66 : decode cX12_carry 66 = .ok (.iastore, 1) := by decide +kernel
theorem dX12_carry_67 : decode cX12_carry 67 = .ok (.aload_n 0, 1) := by decide +kernel
theorem dX12_carry_68 : decode cX12_carry 68 = .ok (.getfield 25, 3) := by decide +kernel
theorem dX12_carry_71 : decode cX12_carry 71 = .ok (.aload_n 1, 1) := by decide +kernel
theorem dX12_carry_72 : decode cX12_carry 72 = .ok (.iconst 1, 1) := by decide +kernel
theorem dX12_carry_73 : decode cX12_carry 73 = .ok (.iaload, 1) := by decide +kernel
theorem dX12_carry_74 : decode cX12_carry 74 = .ok (.aaload, 1) := by decide +kernel
theorem dX12_carry_75 : decode cX12_carry 75 = .ok (.aload_n 1, 1) := by decide +kernel
theorem dX12_carry_76 : decode cX12_carry 76 = .ok (.iconst 2, 1) := by decide +kernel
theorem dX12_carry_77 : decode cX12_carry 77 = .ok (.iaload, 1) := by decide +kernel
theorem dX12_carry_78 : decode cX12_carry 78 = .ok (.dup2, 1) := by decide +kernel
theorem dX12_carry_79 : decode cX12_carry 79 = .ok (.iaload, 1) := by decide +kernel
theorem dX12_carry_80 : decode cX12_carry 80 = .ok (.iload_n 2, 1) := by decide +kernel
theorem dX12_carry_81 : decode cX12_carry 81 = .ok (.isub, 1) := by decide +kernel
theorem dX12_carry_82 : decode cX12_carry 82 = .ok (.iastore, 1) := by decide +kernel
theorem dX12_carry_83 : decode cX12_carry 83 = .ok (.iconst 1, 1) := by decide +kernel
theorem dX12_carry_84 : decode cX12_carry 84 = .ok (.ireturn, 1) := by decide +kernel
theorem dX12_carry_85 : decode cX12_carry 85 = .ok (.aload_n 0, 1) := by decide +kernel
theorem dX12_carry_86 : decode cX12_carry 86 = .ok (.getfield 28, 3) := by decide +kernel
theorem dX12_carry_89 : decode cX12_carry 89 = .ok (.aload_n 1, 1) := by decide +kernel
theorem dX12_carry_90 : decode cX12_carry 90 = .ok (.iconst 1, 1) := by decide +kernel
theorem dX12_carry_91 : decode cX12_carry 91 = .ok (.iaload, 1) := by decide +kernel
theorem dX12_carry_92 : decode cX12_carry 92 = .ok (.aaload, 1) := by decide +kernel
theorem dX12_carry_93 : decode cX12_carry 93 = .ok (.astore_n 3, 1) := by decide +kernel
theorem dX12_carry_94 : decode cX12_carry 94 = .ok (.aload_n 0, 1) := by decide +kernel
theorem dX12_carry_95 : decode cX12_carry 95 = .ok (.getfield 22, 3) := by decide +kernel
theorem dX12_carry_98 : decode cX12_carry 98 = .ok (.aload_n 3, 1) := by decide +kernel
theorem dX12_carry_99 : decode cX12_carry 99 = .ok (.iconst 2, 1) := by decide +kernel
theorem dX12_carry_100 : decode cX12_carry 100 = .ok (.iaload, 1) := by decide +kernel
theorem dX12_carry_101 : decode cX12_carry 101 = .ok (.aaload, 1) := by decide +kernel
theorem dX12_carry_102 : decode cX12_carry 102 = .ok (.astore 4, 2) := by decide +kernel
theorem dX12_carry_104 : decode cX12_carry 104 = .ok (.aload_n 1, 1) := by decide +kernel
theorem dX12_carry_105 : decode cX12_carry 105 = .ok (.iconst 0, 1) := by decide +kernel
theorem dX12_carry_106 : decode cX12_carry 106 = .ok (.iaload, 1) := by decide +kernel
theorem dX12_carry_107 : decode cX12_carry 107 = .ok (.ifCond .ne 64, 3) := by decide +kernel
theorem dX12_carry_110 : decode cX12_carry 110 = .ok (.aload 4, 2) := by decide +kernel
theorem dX12_carry_112 : decode cX12_carry 112 = .ok (.iconst 0, 1) := by decide +kernel
theorem dX12_carry_113 : decode cX12_carry 113 = .ok (.dup2, 1) := by decide +kernel
theorem dX12_carry_114 : decode cX12_carry 114 = .ok (.iaload, 1) := by decide +kernel
theorem dX12_carry_115 : decode cX12_carry 115 = .ok (.iload_n 2, 1) := by decide +kernel
theorem dX12_carry_116 : decode cX12_carry 116 = .ok (.isub, 1) := by decide +kernel
theorem dX12_carry_117 : decode cX12_carry 117 = .ok (.iastore, 1) := by decide +kernel
theorem dX12_carry_118 : decode cX12_carry 118 = .ok (.aload_n 0, 1) := by decide +kernel
theorem dX12_carry_119 : decode cX12_carry 119 = .ok (.getfield 18, 3) := by decide +kernel
theorem dX12_carry_122 : decode cX12_carry 122 = .ok (.aload_n 1, 1) := by decide +kernel
theorem dX12_carry_123 : decode cX12_carry 123 = .ok (.iconst 2, 1) := by decide +kernel
theorem dX12_carry_124 : decode cX12_carry 124 = .ok (.iaload, 1) := by decide +kernel
theorem dX12_carry_125 : decode cX12_carry 125 = .ok (.aaload, 1) := by decide +kernel
theorem dX12_carry_126 : decode cX12_carry 126 = .ok (.iconst 2, 1) := by decide +kernel
theorem dX12_carry_127 : decode cX12_carry 127 = .ok (.dup2, 1) := by decide +kernel
theorem dX12_carry_128 : decode cX12_carry 128 = .ok (.iaload, 1) := by decide +kernel
theorem dX12_carry_129 : decode cX12_carry 129 = .ok (.iload_n 2, 1) := by decide +kernel
theorem dX12_carry_130 : decode cX12_carry 130 = .ok (.iadd, 1) := by decide +kernel
theorem dX12_carry_131 : decode cX12_carry 131 = .ok (.iastore, 1) := by decide +kernel
theorem dX12_carry_132 : decode cX12_carry 132 = .ok (.aload_n 3, 1) := by decide +kernel
theorem dX12_carry_133 : decode cX12_carry 133 = .ok (.iconst 3, 1) := by decide +kernel
theorem dX12_carry_134 : decode cX12_carry 134 = .ok (.aload_n 1, 1) := by decide +kernel
theorem dX12_carry_135 : decode cX12_carry 135 = .ok (.iconst 2, 1) := by decide +kernel
