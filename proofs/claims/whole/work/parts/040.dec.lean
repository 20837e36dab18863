theorem dL_feed_0 : decode cL_feed 0 = .ok (.aload 6, 2) := by decide +kernel
theorem dL_feed_2 : decode cL_feed 2 = .ok (.iconst 0, 1) := by decide +kernel
theorem dL_feed_3 : decode cL_feed 3 = .ok (.aload_n 0, 1) := by decide +kernel
theorem dL_feed_4 : decode cL_feed 4 = .ok (.iload_n 1, 1) := by decide +kernel
theorem dL_feed_5 : decode cL_feed 5 = .ok (.iload_n 2, 1) := by decide +kernel
theorem dL_feed_6 : decode cL_feed 6 = .ok (.iload_n 3, 1) := by decide +kernel
theorem dL_feed_7 : decode cL_feed 7 = .ok (.iload 4, 2) := by decide +kernel
theorem dL_feed_9 : decode cL_feed 9 = .ok (.iload 5, 2) := by decide +kernel
theorem dL_feed_11 : decode cL_feed 11 = .ok (.invokevirtual 7, 3) := by decide +kernel
theorem dL_feed_14 : decode cL_feed 14 = .ok (.i2l, 1) := by decide +kernel
theorem dL_feed_15 : decode cL_feed 15 = .ok (.lastore, 1) := by decide +kernel
theorem dL_feed_16 : decode cL_feed 16 = .ok (.goto 7, 3) := by decide +kernel
theorem dL_feed_19 : decode cL_feed 19 = .ok (.astore 7, 2) := by decide +kernel
theorem dL_feed_21 : decode cL_feed 21 = .ok (.iconst 1, 1) := by decide +kernel
theorem dL_feed_22 : decode cL_feed 22 = .ok (.ireturn, 1) := by decide +kernel
theorem dL_feed_23 : decode cL_feed 23 = .ok (.iconst 0, 1) := by decide +kernel
theorem dL_feed_24 : decode cL_feed 24 = .ok (.ireturn, 1) := by decide +kernel
theorem dL_trim_0 : decode cL_trim 0 = .ok (.aload_n 2, 1) := by decide +kernel
theorem dL_trim_1 : decode cL_trim 1 = .ok (.iconst 0, 1) := by decide +kernel
theorem dL_trim_2 : decode cL_trim 2 = .ok (.aload_n 0, 1) := by decide +kernel
theorem dL_trim_3 : decode cL_trim 3 = .ok (.iload_n 1, 1) := by decide +kernel
theorem dL_trim_4 : decode cL_trim 4 = .ok (.invokevirtual 15, 3) := by decide +kernel
theorem dL_trim_7 : decode cL_trim 7 = .ok (.i2l, 1) := by decide +kernel
theorem dL_trim_8 : decode cL_trim 8 = .ok (.lastore, 1) := by decide +kernel
theorem dL_trim_9 : decode cL_trim 9 = .ok (.goto 6, 3) := by decide +kernel
theorem dL_trim_12 : decode cL_trim 12 = .ok (.astore_n 3, 1) := by decide +kernel
theorem dL_trim_13 : decode cL_trim 13 = .ok (.iconst 1, 1) := by decide +kernel
theorem dL_trim_14 : decode cL_trim 14 = .ok (.ireturn, 1) := by decide +kernel
theorem dL_trim_15 : decode cL_trim 15 = .ok (.iconst 0, 1) := by decide +kernel
theorem dL_trim_16 : decode cL_trim 16 = .ok (.ireturn, 1) := by decide +kernel
theorem dL_count_0 : decode cL_count 0 = .ok (.aload_n 2, 1) := by decide +kernel
theorem dL_count_1 : decode cL_count 1 = .ok (.iconst 0, 1) := by decide +kernel
theorem dL_count_2 : decode cL_count 2 = .ok (.aload_n 0, 1) := by decide +kernel
theorem dL_count_3 : decode cL_count 3 = .ok (.iload_n 1, 1) := by decide +kernel
theorem dL_count_4 : decode cL_count 4 = .ok (.invokevirtual 21, 3) := by decide +kernel
theorem dL_count_7 : decode cL_count 7 = .ok (.i2l, 1) := by decide +kernel
theorem dL_count_8 : decode cL_count 8 = .ok (.lastore, 1) := by decide +kernel
theorem dL_count_9 : decode cL_count 9 = .ok (.goto 6, 3) := by decide +kernel
theorem dL_count_12 : decode cL_count 12 = .ok (.astore_n 3, 1) := by decide +kernel
theorem dL_count_13 : decode cL_count 13 = .ok (.iconst 1, 1) := by decide +kernel
theorem dL_count_14 : decode cL_count 14 = .ok (.ireturn, 1) := by decide +kernel
theorem dL_count_15 : decode cL_count 15 = .ok (.iconst 0, 1) := by decide +kernel
theorem dL_count_16 : decode cL_count 16 = .ok (.ireturn, 1) := by decide +kernel
theorem dL_lot_0 : decode cL_lot 0 = .ok (.aload_n 3, 1) := by decide +kernel
theorem dL_lot_1 : decode cL_lot 1 = .ok (.iconst 0, 1) := by decide +kernel
theorem dL_lot_2 : decode cL_lot 2 = .ok (.aload_n 0, 1) := by decide +kernel
theorem dL_lot_3 : decode cL_lot 3 = .ok (.iload_n 1, 1) := by decide +kernel
theorem dL_lot_4 : decode cL_lot 4 = .ok (.iload_n 2, 1) := by decide +kernel
theorem dL_lot_5 : decode cL_lot 5 = .ok (.invokevirtual 26, 3) := by decide +kernel
theorem dL_lot_8 : decode cL_lot 8 = .ok (.i2l, 1) := by decide +kernel
theorem dL_lot_9 : decode cL_lot 9 = .ok (.lastore, 1) := by decide +kernel
theorem dL_lot_10 : decode cL_lot 10 = .ok (.goto 7, 3) := by decide +kernel
theorem dL_lot_13 : decode cL_lot 13 = .ok (.astore 4, 2) := by decide +kernel
theorem dL_lot_15 : decode cL_lot 15 = .ok (.iconst 1, 1) := by decide +kernel
theorem dL_lot_16 : decode cL_lot 16 = .ok (.ireturn, 1) := by decide +kernel
theorem dL_lot_17 : decode cL_lot 17 = .ok (.iconst 0, 1) := by decide +kernel
theorem dL_lot_18 : decode cL_lot 18 = .ok (.ireturn, 1) := by decide +kernel
theorem dL_merchant_0 : decode cL_merchant 0 = .ok (.aload_n 3, 1) := by decide +kernel
theorem dL_merchant_1 : decode cL_merchant 1 = .ok (.iconst 0, 1) := by decide +kernel
theorem dL_merchant_2 : decode cL_merchant 2 = .ok (.aload_n 0, 1) := by decide +kernel
theorem dL_merchant_3 : decode cL_merchant 3 = .ok (.iload_n 1, 1) := by decide +kernel
theorem dL_merchant_4 : decode cL_merchant 4 = .ok (.iload_n 2, 1) := by decide +kernel
theorem dL_merchant_5 : decode cL_merchant 5 = .ok (.invokevirtual 30, 3) := by decide +kernel
theorem dL_merchant_8 : decode cL_merchant 8 = .ok (.i2l, 1) := by decide +kernel
theorem dL_merchant_9 : decode cL_merchant 9 = .ok (.lastore, 1) := by decide +kernel
theorem dL_merchant_10 : decode cL_merchant 10 = .ok (.goto 7, 3) := by decide +kernel
theorem dL_merchant_13 : decode cL_merchant 13 = .ok (.astore 4, 2) := by decide +kernel
theorem dL_merchant_15 : decode cL_merchant 15 = .ok (.iconst 1, 1) := by decide +kernel
theorem dL_merchant_16 : decode cL_merchant 16 = .ok (.ireturn, 1) := by decide +kernel
theorem dL_merchant_17 : decode cL_merchant 17 = .ok (.iconst 0, 1) := by decide +kernel
theorem dL_merchant_18 : decode cL_merchant 18 = .ok (.ireturn, 1) := by decide +kernel
theorem dL_guild_0 : decode cL_guild 0 = .ok (.aload_n 3, 1) := by decide +kernel
theorem dL_guild_1 : decode cL_guild 1 = .ok (.iconst 0, 1) := by decide +kernel
theorem dL_guild_2 : decode cL_guild 2 = .ok (.aload_n 0, 1) := by decide +kernel
theorem dL_guild_3 : decode cL_guild 3 = .ok (.iload_n 1, 1) := by decide +kernel
theorem dL_guild_4 : decode cL_guild 4 = .ok (.iload_n 2, 1) := by decide +kernel
theorem dL_guild_5 : decode cL_guild 5 = .ok (.invokevirtual 33, 3) := by decide +kernel
theorem dL_guild_8 : decode cL_guild 8 = .ok (.i2l, 1) := by decide +kernel
theorem dL_guild_9 : decode cL_guild 9 = .ok (.lastore, 1) := by decide +kernel
theorem dL_guild_10 : decode cL_guild 10 = .ok (.goto 7, 3) := by decide +kernel
theorem dL_guild_13 : decode cL_guild 13 = .ok (.astore 4, 2) := by decide +kernel
theorem dL_guild_15 : decode cL_guild 15 = .ok (.iconst 1, 1) := by decide +kernel
theorem dL_guild_16 : decode cL_guild 16 = .ok (.ireturn, 1) := by decide +kernel
theorem dL_guild_17 : decode cL_guild 17 = .ok (.iconst 0, 1) := by decide +kernel
theorem dL_guild_18 : decode cL_guild 18 = .ok (.ireturn, 1) := by decide +kernel
theorem dL_order_0 : decode cL_order 0 = .ok (.aload_n 3, 1) := by decide +kernel
theorem dL_order_1 : decode cL_order 1 = .ok (.iconst 0, 1) := by decide +kernel
theorem dL_order_2 : decode cL_order 2 = .ok (.aload_n 0, 1) := by decide +kernel
theorem dL_order_3 : decode cL_order 3 = .ok (.iload_n 1, 1) := by decide +kernel
theorem dL_order_4 : decode cL_order 4 = .ok (.iload_n 2, 1) := by decide +kernel
theorem dL_order_5 : decode cL_order 5 = .ok (.invokevirtual 36, 3) := by decide +kernel
theorem dL_order_8 : decode cL_order 8 = .ok (.i2l, 1) := by decide +kernel
theorem dL_order_9 : decode cL_order 9 = .ok (.lastore, 1) := by decide +kernel
theorem dL_order_10 : decode cL_order 10 = .ok (.goto 7, 3) := by decide +kernel
theorem dL_order_13 : decode cL_order 13 = .ok (.astore 4, 2) := by decide +kernel
theorem dL_order_15 : decode cL_order 15 = .ok (.iconst 1, 1) := by decide +kernel
theorem dL_order_16 : decode cL_order 16 = .ok (.ireturn, 1) := by decide +kernel
theorem dL_order_17 : decode cL_order 17 = .ok (.iconst 0, 1) := by decide +kernel
theorem dL_order_18 : decode cL_order 18 = .ok (.ireturn, 1) := by decide +kernel
theorem dL_owes_0 : decode cL_owes 0 = .ok (.aload_n 3, 1) := by decide +kernel
theorem dL_owes_1 : decode cL_owes 1 = .ok (.iconst 0, 1) := by decide +kernel
theorem dL_owes_2 : decode cL_owes 2 = .ok (.aload_n 0, 1) := by decide +kernel
theorem dL_owes_3 : decode cL_owes 3 = .ok (.iload_n 1, 1) := by decide +kernel
theorem dL_owes_4 : decode cL_owes 4 = .ok (.iload_n 2, 1) := by decide +kernel
theorem dL_owes_5 : decode cL_owes 5 = .ok (.invokevirtual 39, 3) := by decide +kernel
theorem dL_owes_8 : decode cL_owes 8 = .ok (.i2l, 1) := by decide +kernel
theorem dL_owes_9 : decode cL_owes 9 = .ok (.lastore, 1) := by decide +kernel
theorem dL_owes_10 : decode cL_owes 10 = .ok (.goto 7, 3) := by decide +kernel
theorem dL_owes_13 : decode cL_owes 13 = .ok (.astore 4, 2) := by decide +kernel
theorem dL_owes_15 : decode cL_owes 15 = .ok (.iconst 1, 1) := by decide +kernel
theorem dL_owes_16 : decode cL_owes 16 = .ok (.ireturn, 1) := by decide +kernel
theorem dL_owes_17 : decode cL_owes 17 = .ok (.iconst 0, 1) := by decide +kernel
theorem dL_owes_18 : decode cL_owes 18 = .ok (.ireturn, 1) := by decide +kernel
theorem dL_chain_0 : decode cL_chain 0 = .ok (.aload_n 3, 1) := by decide +kernel
theorem dL_chain_1 : decode cL_chain 1 = .ok (.iconst 0, 1) := by decide +kernel
theorem dL_chain_2 : decode cL_chain 2 = .ok (.aload_n 0, 1) := by decide +kernel
theorem dL_chain_3 : decode cL_chain 3 = .ok (.iload_n 1, 1) := by decide +kernel
theorem dL_chain_4 : decode cL_chain 4 = .ok (.iload_n 2, 1) := by decide +kernel
theorem dL_chain_5 : decode cL_chain 5 = .ok (.invokevirtual 42, 3) := by decide +kernel
theorem dL_chain_8 : decode cL_chain 8 = .ok (.i2l, 1) := by decide +kernel
theorem dL_chain_9 : decode cL_chain 9 = .ok (.lastore, 1) := by decide +kernel
theorem dL_chain_10 : decode cL_chain 10 = .ok (.goto 7, 3) := by decide +kernel
theorem dL_chain_13 : decode cL_chain 13 = .ok (.astore 4, 2) := by decide +kernel
theorem dL_chain_15 : decode cL_chain 15 = .ok (.iconst 1, 1) := by decide +kernel
theorem dL_chain_16 : decode cL_chain 16 = .ok (.ireturn, 1) := by decide +kernel
theorem dL_chain_17 : decode cL_chain 17 = .ok (.iconst 0, 1) := by decide +kernel
theorem dL_chain_18 : decode cL_chain 18 = .ok (.ireturn, 1) := by decide +kernel
theorem dL_ring_0 : decode cL_ring 0 = .ok (.aload_n 2, 1) := by decide +kernel
theorem dL_ring_1 : decode cL_ring 1 = .ok (.iconst 0, 1) := by decide +kernel
theorem dL_ring_2 : decode cL_ring 2 = .ok (.aload_n 0, 1) := by decide +kernel
theorem dL_ring_3 : decode cL_ring 3 = .ok (.iload_n 1, 1) := by decide +kernel
theorem dL_ring_4 : decode cL_ring 4 = .ok (.invokevirtual 45, 3) := by decide +kernel
theorem dL_ring_7 : decode cL_ring 7 = .ok (.i2l, 1) := by decide +kernel
theorem dL_ring_8 : decode cL_ring 8 = .ok (.lastore, 1) := by decide +kernel
theorem dL_ring_9 : decode cL_ring 9 = .ok (.goto 6, 3) := by decide +kernel
theorem dL_ring_12 : decode cL_ring 12 = .ok (.astore_n 3, 1) := by decide +kernel
theorem dL_ring_13 : decode cL_ring 13 = .ok (.iconst 1, 1) := by decide +kernel
theorem dL_ring_14 : decode cL_ring 14 = .ok (.ireturn, 1) := by decide +kernel
theorem dL_ring_15 : decode cL_ring 15 = .ok (.iconst 0, 1) := by decide +kernel
theorem dL_ring_16 : decode cL_ring 16 = .ok (.ireturn, 1) := by decide +kernel
theorem dL_setDamp_0 : decode cL_setDamp 0 = .ok (.aload_n 2, 1) := by decide +kernel
theorem dL_setDamp_1 : decode cL_setDamp 1 = .ok (.iconst 0, 1) := by decide +kernel
theorem dL_setDamp_2 : decode cL_setDamp 2 = .ok (.aload_n 0, 1) := by decide +kernel
theorem dL_setDamp_3 : decode cL_setDamp 3 = .ok (.iload_n 1, 1) := by decide +kernel
theorem dL_setDamp_4 : decode cL_setDamp 4 = .ok (.invokevirtual 48, 3) := by decide +kernel
theorem dL_setDamp_7 : decode cL_setDamp 7 = .ok (.i2l, 1) := by decide +kernel
theorem dL_setDamp_8 : decode cL_setDamp 8 = .ok (.lastore, 1) := by decide +kernel
theorem dL_setDamp_9 : decode cL_setDamp 9 = .ok (.goto 6, 3) := by decide +kernel
theorem dL_setDamp_12 : decode cL_setDamp 12 = .ok (.astore_n 3, 1) := by decide +kernel
theorem dL_setDamp_13 : decode cL_setDamp 13 = .ok (.iconst 1, 1) := by decide +kernel
theorem dL_setDamp_14 : decode cL_setDamp 14 = .ok (.ireturn, 1) := by decide +kernel
theorem dL_setDamp_15 : decode cL_setDamp 15 = .ok (.iconst 0, 1) := by decide +kernel
theorem dL_setDamp_16 : decode cL_setDamp 16 = .ok (.ireturn, 1) := by decide +kernel
theorem dL_lend_0 : decode cL_lend 0 = .ok (.aload 4, 2) := by decide +kernel
theorem dL_lend_2 : decode cL_lend 2 = .ok (.iconst 0, 1) := by decide +kernel
theorem dL_lend_3 : decode cL_lend 3 = .ok (.aload_n 0, 1) := by decide +kernel
theorem dL_lend_4 : decode cL_lend 4 = .ok (.iload_n 1, 1) := by decide +kernel
theorem dL_lend_5 : decode cL_lend 5 = .ok (.iload_n 2, 1) := by decide +kernel
theorem dL_lend_6 : decode cL_lend 6 = .ok (.iload_n 3, 1) := by decide +kernel
theorem dL_lend_7 : decode cL_lend 7 = .ok (.invokevirtual 51, 3) := by decide +kernel
theorem dL_lend_10 : decode cL_lend 10 = .ok (.i2l, 1) := by decide +kernel
theorem dL_lend_11 : decode cL_lend 11 = .ok (.lastore, 1) := by decide +kernel
theorem dL_lend_12 : decode cL_lend 12 = .ok (.goto 15, 3) := by decide +kernel
theorem dL_lend_15 : decode cL_lend 15 = .ok (.astore 5, 2) := by decide +kernel
theorem dL_lend_17 : decode cL_lend 17 = .ok (.iconst 1, 1) := by decide +kernel
theorem dL_lend_18 : decode cL_lend 18 = .ok (.ireturn, 1) := by decide +kernel
theorem dL_lend_19 : decode cL_lend 19 = .ok (.astore 5, 2) := by decide +kernel
theorem dL_lend_21 : decode cL_lend 21 = .ok (.iconst 2, 1) := by decide +kernel
theorem dL_lend_22 : decode cL_lend 22 = .ok (.ireturn, 1) := by decide +kernel
theorem dL_lend_23 : decode cL_lend 23 = .ok (.astore 5, 2) := by decide +kernel
theorem dL_lend_25 : decode cL_lend 25 = .ok (.iconst 3, 1) := by decide +kernel
theorem dL_lend_26 : decode cL_lend 26 = .ok (.ireturn, 1) := by decide +kernel
theorem dL_lend_27 : decode cL_lend 27 = .ok (.iconst 0, 1) := by decide +kernel
theorem dL_lend_28 : decode cL_lend 28 = .ok (.ireturn, 1) := by decide +kernel
theorem dL_offset_0 : decode cL_offset 0 = .ok (.aload_n 3, 1) := by decide +kernel
theorem dL_offset_1 : decode cL_offset 1 = .ok (.iconst 0, 1) := by decide +kernel
theorem dL_offset_2 : decode cL_offset 2 = .ok (.aload_n 0, 1) := by decide +kernel
theorem dL_offset_3 : decode cL_offset 3 = .ok (.iload_n 1, 1) := by decide +kernel
theorem dL_offset_4 : decode cL_offset 4 = .ok (.iload_n 2, 1) := by decide +kernel
theorem dL_offset_5 : decode cL_offset 5 = .ok (.invokevirtual 55, 3) := by decide +kernel
theorem dL_offset_8 : decode cL_offset 8 = .ok (.i2l, 1) := by decide +kernel
theorem dL_offset_9 : decode cL_offset 9 = .ok (.lastore, 1) := by decide +kernel
theorem dL_offset_10 : decode cL_offset 10 = .ok (.goto 11, 3) := by decide +kernel
theorem dL_offset_13 : decode cL_offset 13 = .ok (.astore 4, 2) := by decide +kernel
theorem dL_offset_15 : decode cL_offset 15 = .ok (.iconst 1, 1) := by decide +kernel
theorem dL_offset_16 : decode cL_offset 16 = .ok (.ireturn, 1) := by decide +kernel
theorem dL_offset_17 : decode cL_offset 17 = .ok (.astore 4, 2) := by decide +kernel
theorem dL_offset_19 : decode cL_offset 19 = .ok (.iconst 2, 1) := by decide +kernel
theorem dL_offset_20 : decode cL_offset 20 = .ok (.ireturn, 1) := by decide +kernel
theorem dL_offset_21 : decode cL_offset 21 = .ok (.iconst 0, 1) := by decide +kernel
theorem dL_offset_22 : decode cL_offset 22 = .ok (.ireturn, 1) := by decide +kernel
theorem dL_dry_0 : decode cL_dry 0 = .ok (.aload_n 2, 1) := by decide +kernel
theorem dL_dry_1 : decode cL_dry 1 = .ok (.iconst 0, 1) := by decide +kernel
theorem dL_dry_2 : decode cL_dry 2 = .ok (.aload_n 0, 1) := by decide +kernel
theorem dL_dry_3 : decode cL_dry 3 = .ok (.iload_n 1, 1) := by decide +kernel
theorem dL_dry_4 : decode cL_dry 4 = .ok (.invokevirtual 58, 3) := by decide +kernel
theorem dL_dry_7 : decode cL_dry 7 = .ok (.i2l, 1) := by decide +kernel
theorem dL_dry_8 : decode cL_dry 8 = .ok (.lastore, 1) := by decide +kernel
theorem dL_dry_9 : decode cL_dry 9 = .ok (.goto 6, 3) := by decide +kernel
theorem dL_dry_12 : decode cL_dry 12 = .ok (.astore_n 3, 1) := by decide +kernel
theorem dL_dry_13 : decode cL_dry 13 = .ok (.iconst 1, 1) := by decide +kernel
theorem dL_dry_14 : decode cL_dry 14 = .ok (.ireturn, 1) := by decide +kernel
theorem dL_dry_15 : decode cL_dry 15 = .ok (.iconst 0, 1) := by decide +kernel
theorem dL_dry_16 : decode cL_dry 16 = .ok (.ireturn, 1) := by decide +kernel
theorem dL_pass_0 : decode cL_pass 0 = .ok (.aload_n 2, 1) := by decide +kernel
theorem dL_pass_1 : decode cL_pass 1 = .ok (.iconst 0, 1) := by decide +kernel
theorem dL_pass_2 : decode cL_pass 2 = .ok (.aload_n 0, 1) := by decide +kernel
theorem dL_pass_3 : decode cL_pass 3 = .ok (.iload_n 1, 1) := by decide +kernel
theorem dL_pass_4 : decode cL_pass 4 = .ok (.invokevirtual 61, 3) := by decide +kernel
theorem dL_pass_7 : decode cL_pass 7 = .ok (.i2l, 1) := by decide +kernel
theorem dL_pass_8 : decode cL_pass 8 = .ok (.lastore, 1) := by decide +kernel
theorem dL_pass_9 : decode cL_pass 9 = .ok (.goto 6, 3) := by decide +kernel
theorem dL_pass_12 : decode cL_pass 12 = .ok (.astore_n 3, 1) := by decide +kernel
theorem dL_pass_13 : decode cL_pass 13 = .ok (.iconst 1, 1) := by decide +kernel
theorem dL_pass_14 : decode cL_pass 14 = .ok (.ireturn, 1) := by decide +kernel
theorem dL_pass_15 : decode cL_pass 15 = .ok (.iconst 0, 1) := by decide +kernel
theorem dL_pass_16 : decode cL_pass 16 = .ok (.ireturn, 1) := by decide +kernel
theorem dL_foresee_0 : decode cL_foresee 0 = .ok (.aload_n 3, 1) := by decide +kernel
theorem dL_foresee_1 : decode cL_foresee 1 = .ok (.iconst 0, 1) := by decide +kernel
theorem dL_foresee_2 : decode cL_foresee 2 = .ok (.aload_n 0, 1) := by decide +kernel
theorem dL_foresee_3 : decode cL_foresee 3 = .ok (.iload_n 1, 1) := by decide +kernel
theorem dL_foresee_4 : decode cL_foresee 4 = .ok (.iload_n 2, 1) := by decide +kernel
theorem dL_foresee_5 : decode cL_foresee 5 = .ok (.invokevirtual 64, 3) := by decide +kernel
theorem dL_foresee_8 : decode cL_foresee 8 = .ok (.i2l, 1) := by decide +kernel
theorem dL_foresee_9 : decode cL_foresee 9 = .ok (.lastore, 1) := by decide +kernel
theorem dL_foresee_10 : decode cL_foresee 10 = .ok (.goto 11, 3) := by decide +kernel
theorem dL_foresee_13 : decode cL_foresee 13 = .ok (.astore 4, 2) := by decide +kernel
theorem dL_foresee_15 : decode cL_foresee 15 = .ok (.iconst 1, 1) := by decide +kernel
theorem dL_foresee_16 : decode cL_foresee 16 = .ok (.ireturn, 1) := by decide +kernel
theorem dL_foresee_17 : decode cL_foresee 17 = .ok (.astore 4, 2) := by decide +kernel
theorem dL_foresee_19 : decode cL_foresee 19 = .ok (.iconst 2, 1) := by decide +kernel
theorem dL_foresee_20 : decode cL_foresee 20 = .ok (.ireturn, 1) := by decide +kernel
theorem dL_foresee_21 : decode cL_foresee 21 = .ok (.iconst 0, 1) := by decide +kernel
theorem dL_foresee_22 : decode cL_foresee 22 = .ok (.ireturn, 1) := by decide +kernel
theorem dL_costs_0 : decode cL_costs 0 = .ok (.aload_n 3, 1) := by decide +kernel
theorem dL_costs_1 : decode cL_costs 1 = .ok (.iconst 0, 1) := by decide +kernel
theorem dL_costs_2 : decode cL_costs 2 = .ok (.aload_n 0, 1) := by decide +kernel
theorem dL_costs_3 : decode cL_costs 3 = .ok (.iload_n 1, 1) := by decide +kernel
theorem dL_costs_4 : decode cL_costs 4 = .ok (.iload_n 2, 1) := by decide +kernel
theorem dL_costs_5 : decode cL_costs 5 = .ok (.invokevirtual 67, 3) := by decide +kernel
theorem dL_costs_8 : decode cL_costs 8 = .ok (.i2l, 1) := by decide +kernel
theorem dL_costs_9 : decode cL_costs 9 = .ok (.lastore, 1) := by decide +kernel
theorem dL_costs_10 : decode cL_costs 10 = .ok (.goto 7, 3) := by decide +kernel
theorem dL_costs_13 : decode cL_costs 13 = .ok (.astore 4, 2) := by decide +kernel
theorem dL_costs_15 : decode cL_costs 15 = .ok (.iconst 1, 1) := by decide +kernel
theorem dL_costs_16 : decode cL_costs 16 = .ok (.ireturn, 1) := by decide +kernel
theorem dL_costs_17 : decode cL_costs 17 = .ok (.iconst 0, 1) := by decide +kernel
theorem dL_costs_18 : decode cL_costs 18 = .ok (.ireturn, 1) := by decide +kernel
theorem dL_richest_0 : decode cL_richest 0 = .ok (.aload_n 2, 1) := by decide +kernel
theorem dL_richest_1 : decode cL_richest 1 = .ok (.iconst 0, 1) := by decide +kernel
theorem dL_richest_2 : decode cL_richest 2 = .ok (.aload_n 0, 1) := by decide +kernel
theorem dL_richest_3 : decode cL_richest 3 = .ok (.iload_n 1, 1) := by decide +kernel
theorem dL_richest_4 : decode cL_richest 4 = .ok (.invokevirtual 70, 3) := by decide +kernel
theorem dL_richest_7 : decode cL_richest 7 = .ok (.i2l, 1) := by decide +kernel
theorem dL_richest_8 : decode cL_richest 8 = .ok (.lastore, 1) := by decide +kernel
theorem dL_richest_9 : decode cL_richest 9 = .ok (.goto 6, 3) := by decide +kernel
theorem dL_richest_12 : decode cL_richest 12 = .ok (.astore_n 3, 1) := by decide +kernel
theorem dL_richest_13 : decode cL_richest 13 = .ok (.iconst 1, 1) := by decide +kernel
theorem dL_richest_14 : decode cL_richest 14 = .ok (.ireturn, 1) := by decide +kernel
theorem dL_richest_15 : decode cL_richest 15 = .ok (.iconst 0, 1) := by decide +kernel
theorem dL_richest_16 : decode cL_richest 16 = .ok (.ireturn, 1) := by decide +kernel
theorem dL_until_0 : decode cL_until 0 = .ok (.aload_n 2, 1) := by decide +kernel
theorem dL_until_1 : decode cL_until 1 = .ok (.iconst 0, 1) := by decide +kernel
theorem dL_until_2 : decode cL_until 2 = .ok (.aload_n 0, 1) := by decide +kernel
theorem dL_until_3 : decode cL_until 3 = .ok (.iload_n 1, 1) := by decide +kernel
theorem dL_until_4 : decode cL_until 4 = .ok (.invokevirtual 73, 3) := by decide +kernel
theorem dL_until_7 : decode cL_until 7 = .ok (.i2l, 1) := by decide +kernel
theorem dL_until_8 : decode cL_until 8 = .ok (.lastore, 1) := by decide +kernel
theorem dL_until_9 : decode cL_until 9 = .ok (.goto 6, 3) := by decide +kernel
theorem dL_until_12 : decode cL_until 12 = .ok (.astore_n 3, 1) := by decide +kernel
theorem dL_until_13 : decode cL_until 13 = .ok (.iconst 1, 1) := by decide +kernel
theorem dL_until_14 : decode cL_until 14 = .ok (.ireturn, 1) := by decide +kernel
theorem dL_until_15 : decode cL_until 15 = .ok (.iconst 0, 1) := by decide +kernel
theorem dL_until_16 : decode cL_until 16 = .ok (.ireturn, 1) := by decide +kernel
theorem dL_law_0 : decode cL_law 0 = .ok (.new 8, 3) := by decide +kernel
theorem dL_law_3 : decode cL_law 3 = .ok (.dup, 1) := by decide +kernel
theorem dL_law_4 : decode cL_law 4 = .ok (.invokespecial 76, 3) := by decide +kernel
theorem dL_law_7 : decode cL_law 7 = .ok (.astore_n 1, 1) := by decide +kernel
theorem dL_law_8 : decode cL_law 8 = .ok (.new 77, 3) := by decide +kernel
theorem dL_law_11 : decode cL_law 11 = .ok (.dup, 1) := by decide +kernel
theorem dL_law_12 : decode cL_law 12 = .ok (.invokespecial 79, 3) := by decide +kernel
theorem dL_law_15 : decode cL_law 15 = .ok (.astore_n 2, 1) := by decide +kernel
theorem dL_law_16 : decode cL_law 16 = .ok (.iconst 1, 1) := by decide +kernel
theorem dL_law_17 : decode cL_law 17 = .ok (.newarray .long, 2) := by decide +kernel
theorem dL_law_19 : decode cL_law 19 = .ok (.astore_n 3, 1) := by decide +kernel
theorem dL_law_20 : decode cL_law 20 = .ok (.iconst 0, 1) := by decide +kernel
theorem dL_law_21 : decode cL_law 21 = .ok (.istore 4, 2) := by decide +kernel
theorem dL_law_23 : decode cL_law 23 = .ok (.iload 4, 2) := by decide +kernel
theorem dL_law_25 : decode cL_law 25 = .ok (.aload_n 0, 1) := by decide +kernel
theorem dL_law_26 : decode cL_law 26 = .ok (.arraylength, 1) := by decide +kernel
theorem dL_law_27 : decode cL_law 27 = .ok (.bipush 6, 2) := by decide +kernel
theorem dL_law_29 : decode cL_law 29 = .ok (.isub, 1) := by decide +kernel
theorem dL_law_30 : decode cL_law 30 = .ok (.if_icmp .gt 1449, 3) := by decide +kernel
theorem dL_law_33 : decode cL_law 33 = .ok (.aload_n 0, 1) := by decide +kernel
theorem dL_law_34 : decode cL_law 34 = .ok (.iload 4, 2) := by decide +kernel
theorem dL_law_36 : decode cL_law 36 = .ok (.iaload, 1) := by decide +kernel
theorem dL_law_37 : decode cL_law 37 = .ok (.bipush 31, 2) := by decide +kernel
theorem dL_law_39 : decode cL_law 39 = .ok (.iand, 1) := by decide +kernel
theorem dL_law_40 : decode cL_law 40 = .ok (.tableswitch 1433 0 22 #[108, 212, 268, 281, 294, 350, 418, 486, 554, 622, 690, 758, 814, 870, 950, 1018, 1074, 1130, 1198, 1266, 1322, 1378, 1419], 108) := by decide +kernel
theorem dL_law_148 : decode cL_law 148 = .ok (.aload_n 1, 1) := by decide +kernel
theorem dL_law_149 : decode cL_law 149 = .ok (.aload_n 0, 1) := by decide +kernel
theorem dL_law_150 : decode cL_law 150 = .ok (.iload 4, 2) := by decide +kernel
theorem dL_law_152 : decode cL_law 152 = .ok (.iconst 1, 1) := by decide +kernel
theorem dL_law_153 : decode cL_law 153 = .ok (.iadd, 1) := by decide +kernel
theorem dL_law_154 : decode cL_law 154 = .ok (.iaload, 1) := by decide +kernel
theorem dL_law_155 : decode cL_law 155 = .ok (.aload_n 0, 1) := by decide +kernel
theorem dL_law_156 : decode cL_law 156 = .ok (.iload 4, 2) := by decide +kernel
theorem dL_law_158 : decode cL_law 158 = .ok (.iconst 2, 1) := by decide +kernel
theorem dL_law_159 : decode cL_law 159 = .ok (.iadd, 1) := by decide +kernel
theorem dL_law_160 : decode cL_law 160 = .ok (.iaload, 1) := by decide +kernel
theorem dL_law_161 : decode cL_law 161 = .ok (.aload_n 0, 1) := by decide +kernel
theorem dL_law_162 : decode cL_law 162 = .ok (.iload 4, 2) := by decide +kernel
theorem dL_law_164 : decode cL_law 164 = .ok (.iconst 3, 1) := by decide +kernel
theorem dL_law_165 : decode cL_law 165 = .ok (.iadd, 1) := by decide +kernel
theorem dL_law_166 : decode cL_law 166 = .ok (.iaload, 1) := by decide +kernel
theorem dL_law_167 : decode cL_law 167 = .ok (.aload_n 0, 1) := by decide +kernel
theorem dL_law_168 : decode cL_law 168 = .ok (.iload 4, 2) := by decide +kernel
theorem dL_law_170 : decode cL_law 170 = .ok (.iconst 4, 1) := by decide +kernel
theorem dL_law_171 : decode cL_law 171 = .ok (.iadd, 1) := by decide +kernel
theorem dL_law_172 : decode cL_law 172 = .ok (.iaload, 1) := by decide +kernel
theorem dL_law_173 : decode cL_law 173 = .ok (.aload_n 0, 1) := by decide +kernel
theorem dL_law_174 : decode cL_law 174 = .ok (.iload 4, 2) := by decide +kernel
theorem dL_law_176 : decode cL_law 176 = .ok (.iconst 5, 1) := by decide +kernel
theorem dL_law_177 : decode cL_law 177 = .ok (.iadd, 1) := by decide +kernel
theorem dL_law_178 : decode cL_law 178 = .ok (.iaload, 1) := by decide +kernel
theorem dL_law_179 : decode cL_law 179 = .ok (.aload_n 3, 1) := by decide +kernel
theorem dL_law_180 : decode cL_law 180 = .ok (.invokestatic 80, 3) := by decide +kernel
theorem dL_law_183 : decode cL_law 183 = .ok (.istore 5, 2) := by decide +kernel
theorem dL_law_185 : decode cL_law 185 = .ok (.aload_n 2, 1) := by decide +kernel
theorem dL_law_186 : decode cL_law 186 = .ok (.aload_n 0, 1) := by decide +kernel
theorem dL_law_187 : decode cL_law 187 = .ok (.iload 4, 2) := by decide +kernel
theorem dL_law_189 : decode cL_law 189 = .ok (.iconst 1, 1) := by decide +kernel
theorem dL_law_190 : decode cL_law 190 = .ok (.iadd, 1) := by decide +kernel
theorem dL_law_191 : decode cL_law 191 = .ok (.iaload, 1) := by decide +kernel
theorem dL_law_192 : decode cL_law 192 = .ok (.aload_n 0, 1) := by decide +kernel
theorem dL_law_193 : decode cL_law 193 = .ok (.iload 4, 2) := by decide +kernel
theorem dL_law_195 : decode cL_law 195 = .ok (.iconst 2, 1) := by decide +kernel
theorem dL_law_196 : decode cL_law 196 = .ok (.iadd, 1) := by decide +kernel
theorem dL_law_197 : decode cL_law 197 = .ok (.iaload, 1) := by decide +kernel
theorem dL_law_198 : decode cL_law 198 = .ok (.aload_n 0, 1) := by decide +kernel
theorem dL_law_199 : decode cL_law 199 = .ok (.iload 4, 2) := by decide +kernel
theorem dL_law_201 : decode cL_law 201 = .ok (.iconst 3, 1) := by decide +kernel
theorem dL_law_202 : decode cL_law 202 = .ok (.iadd, 1) := by decide +kernel
theorem dL_law_203 : decode cL_law 203 = .ok (.iaload, 1) := by decide +kernel
theorem dL_law_204 : decode cL_law 204 = .ok (.aload_n 0, 1) := by decide +kernel
theorem dL_law_205 : decode cL_law 205 = .ok (.iload 4, 2) := by decide +kernel
theorem dL_law_207 : decode cL_law 207 = .ok (.iconst 4, 1) := by decide +kernel
theorem dL_law_208 : decode cL_law 208 = .ok (.iadd, 1) := by decide +kernel
theorem dL_law_209 : decode cL_law 209 = .ok (.iaload, 1) := by decide +kernel
theorem dL_law_210 : decode cL_law 210 = .ok (.aload_n 0, 1) := by decide +kernel
theorem dL_law_211 : decode cL_law 211 = .ok (.iload 4, 2) := by decide +kernel
theorem dL_law_213 : decode cL_law 213 = .ok (.iconst 5, 1) := by decide +kernel
theorem dL_law_214 : decode cL_law 214 = .ok (.iadd, 1) := by decide +kernel
theorem dL_law_215 : decode cL_law 215 = .ok (.iaload, 1) := by decide +kernel
theorem dL_law_216 : decode cL_law 216 = .ok (.invokevirtual 85, 3) := by decide +kernel
theorem dL_law_219 : decode cL_law 219 = .ok (.istore 6, 2) := by decide +kernel
theorem dL_law_221 : decode cL_law 221 = .ok (.aload_n 2, 1) := by decide +kernel
theorem dL_law_222 : decode cL_law 222 = .ok (.invokevirtual 86, 3) := by decide +kernel
theorem dL_law_225 : decode cL_law 225 = .ok (.iload 5, 2) := by decide +kernel
theorem dL_law_227 : decode cL_law 227 = .ok (.if_icmp .eq 5, 3) := by decide +kernel
theorem dL_law_230 : decode cL_law 230 = .ok (.iconst 0, 1) := by decide +kernel
theorem dL_law_231 : decode cL_law 231 = .ok (.ireturn, 1) := by decide +kernel
theorem dL_law_232 : decode cL_law 232 = .ok (.iload 5, 2) := by decide +kernel
theorem dL_law_234 : decode cL_law 234 = .ok (.ifCond .ne 15, 3) := by decide +kernel
theorem dL_law_237 : decode cL_law 237 = .ok (.aload_n 3, 1) := by decide +kernel
theorem dL_law_238 : decode cL_law 238 = .ok (.iconst 0, 1) := by decide +kernel
theorem dL_law_239 : decode cL_law 239 = .ok (.laload, 1) := by decide +kernel
theorem dL_law_240 : decode cL_law 240 = .ok (.iload 6, 2) := by decide +kernel
theorem dL_law_242 : decode cL_law 242 = .ok (.i2l, 1) := by decide +kernel
theorem dL_law_243 : decode cL_law 243 = .ok (.lcmp, 1) := by decide +kernel
theorem dL_law_244 : decode cL_law 244 = .ok (.ifCond .eq 5, 3) := by decide +kernel
theorem dL_law_247 : decode cL_law 247 = .ok (.iconst 0, 1) := by decide +kernel
theorem dL_law_248 : decode cL_law 248 = .ok (.ireturn, 1) := by decide +kernel
theorem dL_law_249 : decode cL_law 249 = .ok (.goto 1224, 3) := by decide +kernel
theorem dL_law_252 : decode cL_law 252 = .ok (.aload_n 1, 1) := by decide +kernel
theorem dL_law_253 : decode cL_law 253 = .ok (.aload_n 0, 1) := by decide +kernel
theorem dL_law_254 : decode cL_law 254 = .ok (.iload 4, 2) := by decide +kernel
theorem dL_law_256 : decode cL_law 256 = .ok (.iconst 1, 1) := by decide +kernel
theorem dL_law_257 : decode cL_law 257 = .ok (.iadd, 1) := by decide +kernel
theorem dL_law_258 : decode cL_law 258 = .ok (.iaload, 1) := by decide +kernel
theorem dL_law_259 : decode cL_law 259 = .ok (.aload_n 3, 1) := by decide +kernel
theorem dL_law_260 : decode cL_law 260 = .ok (.invokestatic 90, 3) := by decide +kernel
theorem dL_law_263 : decode cL_law 263 = .ok (.istore 5, 2) := by decide +kernel
theorem dL_law_265 : decode cL_law 265 = .ok (.aload_n 2, 1) := by decide +kernel
theorem dL_law_266 : decode cL_law 266 = .ok (.aload_n 0, 1) := by decide +kernel
theorem dL_law_267 : decode cL_law 267 = .ok (.iload 4, 2) := by decide +kernel
theorem dL_law_269 : decode cL_law 269 = .ok (.iconst 1, 1) := by decide +kernel
theorem dL_law_270 : decode cL_law 270 = .ok (.iadd, 1) := by decide +kernel
theorem dL_law_271 : decode cL_law 271 = .ok (.iaload, 1) := by decide +kernel
theorem dL_law_272 : decode cL_law 272 = .ok (.invokevirtual 93, 3) := by decide +kernel
theorem dL_law_275 : decode cL_law 275 = .ok (.istore 6, 2) := by decide +kernel
theorem dL_law_277 : decode cL_law 277 = .ok (.aload_n 2, 1) := by decide +kernel
theorem dL_law_278 : decode cL_law 278 = .ok (.invokevirtual 86, 3) := by decide +kernel
theorem dL_law_281 : decode cL_law 281 = .ok (.iload 5, 2) := by decide +kernel
theorem dL_law_283 : decode cL_law 283 = .ok (.if_icmp .eq 5, 3) := by decide +kernel
theorem dL_law_286 : decode cL_law 286 = .ok (.iconst 0, 1) := by decide +kernel
theorem dL_law_287 : decode cL_law 287 = .ok (.ireturn, 1) := by decide +kernel
theorem dL_law_288 : decode cL_law 288 = .ok (.iload 5, 2) := by decide +kernel
theorem dL_law_290 : decode cL_law 290 = .ok (.ifCond .ne 15, 3) := by decide +kernel
theorem dL_law_293 : decode cL_law 293 = .ok (.aload_n 3, 1) := by decide +kernel
theorem dL_law_294 : decode cL_law 294 = .ok (.iconst 0, 1) := by decide +kernel
theorem dL_law_295 : decode cL_law 295 = .ok (.laload, 1) := by decide +kernel
theorem dL_law_296 : decode cL_law 296 = .ok (.iload 6, 2) := by decide +kernel
theorem dL_law_298 : decode cL_law 298 = .ok (.i2l, 1) := by decide +kernel
theorem dL_law_299 : decode cL_law 299 = .ok (.lcmp, 1) := by decide +kernel
theorem dL_law_300 : decode cL_law 300 = .ok (.ifCond .eq 5, 3) := by decide +kernel
theorem dL_law_303 : decode cL_law 303 = .ok (.iconst 0, 1) := by decide +kernel
theorem dL_law_304 : decode cL_law 304 = .ok (.ireturn, 1) := by decide +kernel
theorem dL_law_305 : decode cL_law 305 = .ok (.goto 1168, 3) := by decide +kernel
theorem dL_law_308 : decode cL_law 308 = .ok (.aload_n 1, 1) := by decide +kernel
theorem dL_law_309 : decode cL_law 309 = .ok (.invokevirtual 94, 3) := by decide +kernel
theorem dL_law_312 : decode cL_law 312 = .ok (.aload_n 2, 1) := by decide +kernel
theorem dL_law_313 : decode cL_law 313 = .ok (.invokevirtual 97, 3) := by decide +kernel
theorem dL_law_316 : decode cL_law 316 = .ok (.if_icmp .eq 1157, 3) := by decide +kernel
theorem dL_law_319 : decode cL_law 319 = .ok (.iconst 0, 1) := by decide +kernel
theorem dL_law_320 : decode cL_law 320 = .ok (.ireturn, 1) := by decide +kernel
theorem dL_law_321 : decode cL_law 321 = .ok (.aload_n 1, 1) := by decide +kernel
theorem dL_law_322 : decode cL_law 322 = .ok (.invokevirtual 98, 3) := by decide +kernel
theorem dL_law_325 : decode cL_law 325 = .ok (.aload_n 2, 1) := by decide +kernel
theorem dL_law_326 : decode cL_law 326 = .ok (.invokevirtual 101, 3) := by decide +kernel
theorem dL_law_329 : decode cL_law 329 = .ok (.if_icmp .eq 1144, 3) := by decide +kernel
theorem dL_law_332 : decode cL_law 332 = .ok (.iconst 0, 1) := by decide +kernel
theorem dL_law_333 : decode cL_law 333 = .ok (.ireturn, 1) := by decide +kernel
theorem dL_law_334 : decode cL_law 334 = .ok (.aload_n 1, 1) := by decide +kernel
theorem dL_law_335 : decode cL_law 335 = .ok (.aload_n 0, 1) := by decide +kernel
theorem dL_law_336 : decode cL_law 336 = .ok (.iload 4, 2) := by decide +kernel
theorem dL_law_338 : decode cL_law 338 = .ok (.iconst 1, 1) := by decide +kernel
theorem dL_law_339 : decode cL_law 339 = .ok (.iadd, 1) := by decide +kernel
theorem dL_law_340 : decode cL_law 340 = .ok (.iaload, 1) := by decide +kernel
theorem dL_law_341 : decode cL_law 341 = .ok (.aload_n 3, 1) := by decide +kernel
theorem dL_law_342 : decode cL_law 342 = .ok (.invokestatic 102, 3) := by decide +kernel
theorem dL_law_345 : decode cL_law 345 = .ok (.istore 5, 2) := by decide +kernel
theorem dL_law_347 : decode cL_law 347 = .ok (.aload_n 2, 1) := by decide +kernel
theorem dL_law_348 : decode cL_law 348 = .ok (.aload_n 0, 1) := by decide +kernel
theorem dL_law_349 : decode cL_law 349 = .ok (.iload 4, 2) := by decide +kernel
theorem dL_law_351 : decode cL_law 351 = .ok (.iconst 1, 1) := by decide +kernel
theorem dL_law_352 : decode cL_law 352 = .ok (.iadd, 1) := by decide +kernel
theorem dL_law_353 : decode cL_law 353 = .ok (.iaload, 1) := by decide +kernel
theorem dL_law_354 : decode cL_law 354 = .ok (.invokevirtual 104, 3) := by decide +kernel
theorem dL_law_357 : decode cL_law 357 = .ok (.istore 6, 2) := by decide +kernel
theorem dL_law_359 : decode cL_law 359 = .ok (.aload_n 2, 1) := by decide +kernel
theorem dL_law_360 : decode cL_law 360 = .ok (.invokevirtual 86, 3) := by decide +kernel
theorem dL_law_363 : decode cL_law 363 = .ok (.iload 5, 2) := by decide +kernel
theorem dL_law_365 : decode cL_law 365 = .ok (.if_icmp .eq 5, 3) := by decide +kernel
theorem dL_law_368 : decode cL_law 368 = .ok (.iconst 0, 1) := by decide +kernel
theorem dL_law_369 : decode cL_law 369 = .ok (.ireturn, 1) := by decide +kernel
theorem dL_law_370 : decode cL_law 370 = .ok (.iload 5, 2) := by decide +kernel
theorem dL_law_372 : decode cL_law 372 = .ok (.ifCond .ne 15, 3) := by decide +kernel
theorem dL_law_375 : decode cL_law 375 = .ok (.aload_n 3, 1) := by decide +kernel
theorem dL_law_376 : decode cL_law 376 = .ok (.iconst 0, 1) := by decide +kernel
theorem dL_law_377 : decode cL_law 377 = .ok (.laload, 1) := by decide +kernel
theorem dL_law_378 : decode cL_law 378 = .ok (.iload 6, 2) := by decide +kernel
theorem dL_law_380 : decode cL_law 380 = .ok (.i2l, 1) := by decide +kernel
theorem dL_law_381 : decode cL_law 381 = .ok (.lcmp, 1) := by decide +kernel
theorem dL_law_382 : decode cL_law 382 = .ok (.ifCond .eq 5, 3) := by decide +kernel
theorem dL_law_385 : decode cL_law 385 = .ok (.iconst 0, 1) := by decide +kernel
theorem dL_law_386 : decode cL_law 386 = .ok (.ireturn, 1) := by decide +kernel
theorem dL_law_387 : decode cL_law 387 = .ok (.goto 1086, 3) := by decide +kernel
theorem dL_law_390 : decode cL_law 390 = .ok (.aload_n 1, 1) := by decide +kernel
theorem dL_law_391 : decode cL_law 391 = .ok (.aload_n 0, 1) := by decide +kernel
theorem dL_law_392 : decode cL_law 392 = .ok (.iload 4, 2) := by decide +kernel
theorem dL_law_394 : decode cL_law 394 = .ok (.iconst 1, 1) := by decide +kernel
theorem dL_law_395 : decode cL_law 395 = .ok (.iadd, 1) := by decide +kernel
theorem dL_law_396 : decode cL_law 396 = .ok (.iaload, 1) := by decide +kernel
theorem dL_law_397 : decode cL_law 397 = .ok (.aload_n 0, 1) := by decide +kernel
theorem dL_law_398 : decode cL_law 398 = .ok (.iload 4, 2) := by decide +kernel
theorem dL_law_400 : decode cL_law 400 = .ok (.iconst 2, 1) := by decide +kernel
theorem dL_law_401 : decode cL_law 401 = .ok (.iadd, 1) := by decide +kernel
theorem dL_law_402 : decode cL_law 402 = .ok (.iaload, 1) := by decide +kernel
theorem dL_law_403 : decode cL_law 403 = .ok (.aload_n 3, 1) := by decide +kernel
theorem dL_law_404 : decode cL_law 404 = .ok (.invokestatic 105, 3) := by decide +kernel
theorem dL_law_407 : decode cL_law 407 = .ok (.istore 5, 2) := by decide +kernel
theorem dL_law_409 : decode cL_law 409 = .ok (.aload_n 2, 1) := by decide +kernel
theorem dL_law_410 : decode cL_law 410 = .ok (.aload_n 0, 1) := by decide +kernel
theorem dL_law_411 : decode cL_law 411 = .ok (.iload 4, 2) := by decide +kernel
theorem dL_law_413 : decode cL_law 413 = .ok (.iconst 1, 1) := by decide +kernel
theorem dL_law_414 : decode cL_law 414 = .ok (.iadd, 1) := by decide +kernel
theorem dL_law_415 : decode cL_law 415 = .ok (.iaload, 1) := by decide +kernel
theorem dL_law_416 : decode cL_law 416 = .ok (.aload_n 0, 1) := by decide +kernel
theorem dL_law_417 : decode cL_law 417 = .ok (.iload 4, 2) := by decide +kernel
theorem dL_law_419 : decode cL_law 419 = .ok (.iconst 2, 1) := by decide +kernel
theorem dL_law_420 : decode cL_law 420 = .ok (.iadd, 1) := by decide +kernel
theorem dL_law_421 : decode cL_law 421 = .ok (.iaload, 1) := by decide +kernel
theorem dL_law_422 : decode cL_law 422 = .ok (.invokevirtual 108, 3) := by decide +kernel
theorem dL_law_425 : decode cL_law 425 = .ok (.istore 6, 2) := by decide +kernel
theorem dL_law_427 : decode cL_law 427 = .ok (.aload_n 2, 1) := by decide +kernel
theorem dL_law_428 : decode cL_law 428 = .ok (.invokevirtual 86, 3) := by decide +kernel
theorem dL_law_431 : decode cL_law 431 = .ok (.iload 5, 2) := by decide +kernel
theorem dL_law_433 : decode cL_law 433 = .ok (.if_icmp .eq 5, 3) := by decide +kernel
theorem dL_law_436 : decode cL_law 436 = .ok (.iconst 0, 1) := by decide +kernel
theorem dL_law_437 : decode cL_law 437 = .ok (.ireturn, 1) := by decide +kernel
theorem dL_law_438 : decode cL_law 438 = .ok (.iload 5, 2) := by decide +kernel
theorem dL_law_440 : decode cL_law 440 = .ok (.ifCond .ne 15, 3) := by decide +kernel
theorem dL_law_443 : decode cL_law 443 = .ok (.aload_n 3, 1) := by decide +kernel
theorem dL_law_444 : decode cL_law 444 = .ok (.iconst 0, 1) := by decide +kernel
theorem dL_law_445 : decode cL_law 445 = .ok (.laload, 1) := by decide +kernel
theorem dL_law_446 : decode cL_law 446 = .ok (.iload 6, 2) := by decide +kernel
theorem dL_law_448 : decode cL_law 448 = .ok (.i2l, 1) := by decide +kernel
theorem dL_law_449 : decode cL_law 449 = .ok (.lcmp, 1) := by decide +kernel
theorem dL_law_450 : decode cL_law 450 = .ok (.ifCond .eq 5, 3) := by decide +kernel
theorem dL_law_453 : decode cL_law 453 = .ok (.iconst 0, 1) := by decide +kernel
theorem dL_law_454 : decode cL_law 454 = .ok (.ireturn, 1) := by decide +kernel
theorem dL_law_455 : decode cL_law 455 = .ok (.goto 1018, 3) := by decide +kernel
theorem dL_law_458 : decode cL_law 458 = .ok (.aload_n 1, 1) := by decide +kernel
theorem dL_law_459 : decode cL_law 459 = .ok (.aload_n 0, 1) := by decide +kernel
theorem dL_law_460 : decode cL_law 460 = .ok (.iload 4, 2) := by decide +kernel
theorem dL_law_462 : decode cL_law 462 = .ok (.iconst 1, 1) := by decide +kernel
theorem dL_law_463 : decode cL_law 463 = .ok (.iadd, 1) := by decide +kernel
theorem dL_law_464 : decode cL_law 464 = .ok (.iaload, 1) := by decide +kernel
theorem dL_law_465 : decode cL_law 465 = .ok (.aload_n 0, 1) := by decide +kernel
theorem dL_law_466 : decode cL_law 466 = .ok (.iload 4, 2) := by decide +kernel
theorem dL_law_468 : decode cL_law 468 = .ok (.iconst 2, 1) := by decide +kernel
theorem dL_law_469 : decode cL_law 469 = .ok (.iadd, 1) := by decide +kernel
theorem dL_law_470 : decode cL_law 470 = .ok (.iaload, 1) := by decide +kernel
theorem dL_law_471 : decode cL_law 471 = .ok (.aload_n 3, 1) := by decide +kernel
theorem dL_law_472 : decode cL_law 472 = .ok (.invokestatic 109, 3) := by decide +kernel
theorem dL_law_475 : decode cL_law 475 = .ok (.istore 5, 2) := by decide +kernel
theorem dL_law_477 : decode cL_law 477 = .ok (.aload_n 2, 1) := by decide +kernel
theorem dL_law_478 : decode cL_law 478 = .ok (.aload_n 0, 1) := by decide +kernel
theorem dL_law_479 : decode cL_law 479 = .ok (.iload 4, 2) := by decide +kernel
theorem dL_law_481 : decode cL_law 481 = .ok (.iconst 1, 1) := by decide +kernel
theorem dL_law_482 : decode cL_law 482 = .ok (.iadd, 1) := by decide +kernel
theorem dL_law_483 : decode cL_law 483 = .ok (.iaload, 1) := by decide +kernel
theorem dL_law_484 : decode cL_law 484 = .ok (.aload_n 0, 1) := by decide +kernel
theorem dL_law_485 : decode cL_law 485 = .ok (.iload 4, 2) := by decide +kernel
theorem dL_law_487 : decode cL_law 487 = .ok (.iconst 2, 1) := by decide +kernel
theorem dL_law_488 : decode cL_law 488 = .ok (.iadd, 1) := by decide +kernel
theorem dL_law_489 : decode cL_law 489 = .ok (.iaload, 1) := by decide +kernel
theorem dL_law_490 : decode cL_law 490 = .ok (.invokevirtual 111, 3) := by decide +kernel
theorem dL_law_493 : decode cL_law 493 = .ok (.istore 6, 2) := by decide +kernel
theorem dL_law_495 : decode cL_law 495 = .ok (.aload_n 2, 1) := by decide +kernel
theorem dL_law_496 : decode cL_law 496 = .ok (.invokevirtual 86, 3) := by decide +kernel
theorem dL_law_499 : decode cL_law 499 = .ok (.iload 5, 2) := by decide +kernel
theorem dL_law_501 : decode cL_law 501 = .ok (.if_icmp .eq 5, 3) := by decide +kernel
theorem dL_law_504 : decode cL_law 504 = .ok (.iconst 0, 1) := by decide +kernel
theorem dL_law_505 : decode cL_law 505 = .ok (.ireturn, 1) := by decide +kernel
theorem dL_law_506 : decode cL_law 506 = .ok (.iload 5, 2) := by decide +kernel
theorem dL_law_508 : decode cL_law 508 = .ok (.ifCond .ne 15, 3) := by decide +kernel
theorem dL_law_511 : decode cL_law 511 = .ok (.aload_n 3, 1) := by decide +kernel
theorem dL_law_512 : decode cL_law 512 = .ok (.iconst 0, 1) := by decide +kernel
theorem dL_law_513 : decode cL_law 513 = .ok (.laload, 1) := by decide +kernel
theorem dL_law_514 : decode cL_law 514 = .ok (.iload 6, 2) := by decide +kernel
theorem dL_law_516 : decode cL_law 516 = .ok (.i2l, 1) := by decide +kernel
theorem dL_law_517 : decode cL_law 517 = .ok (.lcmp, 1) := by decide +kernel
theorem dL_law_518 : decode cL_law 518 = .ok (.ifCond .eq 5, 3) := by decide +kernel
theorem dL_law_521 : decode cL_law 521 = .ok (.iconst 0, 1) := by decide +kernel
theorem dL_law_522 : decode cL_law 522 = .ok (.ireturn, 1) := by decide +kernel
theorem dL_law_523 : decode cL_law 523 = .ok (.goto 950, 3) := by decide +kernel
theorem dL_law_526 : decode cL_law 526 = .ok (.aload_n 1, 1) := by decide +kernel
theorem dL_law_527 : decode cL_law 527 = .ok (.aload_n 0, 1) := by decide +kernel
theorem dL_law_528 : decode cL_law 528 = .ok (.iload 4, 2) := by decide +kernel
theorem dL_law_530 : decode cL_law 530 = .ok (.iconst 1, 1) := by decide +kernel
theorem dL_law_531 : decode cL_law 531 = .ok (.iadd, 1) := by decide +kernel
theorem dL_law_532 : decode cL_law 532 = .ok (.iaload, 1) := by decide +kernel
theorem dL_law_533 : decode cL_law 533 = .ok (.aload_n 0, 1) := by decide +kernel
theorem dL_law_534 : decode cL_law 534 = .ok (.iload 4, 2) := by decide +kernel
theorem dL_law_536 : decode cL_law 536 = .ok (.iconst 2, 1) := by decide +kernel
theorem dL_law_537 : decode cL_law 537 = .ok (.iadd, 1) := by decide +kernel
theorem dL_law_538 : decode cL_law 538 = .ok (.iaload, 1) := by decide +kernel
theorem dL_law_539 : decode cL_law 539 = .ok (.aload_n 3, 1) := by decide +kernel
theorem dL_law_540 : decode cL_law 540 = .ok (.invokestatic 112, 3) := by decide +kernel
theorem dL_law_543 : decode cL_law 543 = .ok (.istore 5, 2) := by decide +kernel
theorem dL_law_545 : decode cL_law 545 = .ok (.aload_n 2, 1) := by decide +kernel
theorem dL_law_546 : decode cL_law 546 = .ok (.aload_n 0, 1) := by decide +kernel
theorem dL_law_547 : decode cL_law 547 = .ok (.iload 4, 2) := by decide +kernel
theorem dL_law_549 : decode cL_law 549 = .ok (.iconst 1, 1) := by decide +kernel
theorem dL_law_550 : decode cL_law 550 = .ok (.iadd, 1) := by decide +kernel
theorem dL_law_551 : decode cL_law 551 = .ok (.iaload, 1) := by decide +kernel
theorem dL_law_552 : decode cL_law 552 = .ok (.aload_n 0, 1) := by decide +kernel
theorem dL_law_553 : decode cL_law 553 = .ok (.iload 4, 2) := by decide +kernel
theorem dL_law_555 : decode cL_law 555 = .ok (.iconst 2, 1) := by decide +kernel
theorem dL_law_556 : decode cL_law 556 = .ok (.iadd, 1) := by decide +kernel
theorem dL_law_557 : decode cL_law 557 = .ok (.iaload, 1) := by decide +kernel
theorem dL_law_558 : decode cL_law 558 = .ok (.invokevirtual 114, 3) := by decide +kernel
theorem dL_law_561 : decode cL_law 561 = .ok (.istore 6, 2) := by decide +kernel
theorem dL_law_563 : decode cL_law 563 = .ok (.aload_n 2, 1) := by decide +kernel
theorem dL_law_564 : decode cL_law 564 = .ok (.invokevirtual 86, 3) := by decide +kernel
theorem dL_law_567 : decode cL_law 567 = .ok (.iload 5, 2) := by decide +kernel
theorem dL_law_569 : decode cL_law 569 = .ok (.if_icmp .eq 5, 3) := by decide +kernel
theorem dL_law_572 : decode cL_law 572 = .ok (.iconst 0, 1) := by decide +kernel
theorem dL_law_573 : decode cL_law 573 = .ok (.ireturn, 1) := by decide +kernel
theorem dL_law_574 : decode cL_law 574 = .ok (.iload 5, 2) := by decide +kernel
theorem dL_law_576 : decode cL_law 576 = .ok (.ifCond .ne 15, 3) := by decide +kernel
theorem dL_law_579 : decode cL_law 579 = .ok (.aload_n 3, 1) := by decide +kernel
theorem dL_law_580 : decode cL_law 580 = .ok (.iconst 0, 1) := by decide +kernel
theorem dL_law_581 : decode cL_law 581 = .ok (.laload, 1) := by decide +kernel
theorem dL_law_582 : decode cL_law 582 = .ok (.iload 6, 2) := by decide +kernel
theorem dL_law_584 : decode cL_law 584 = .ok (.i2l, 1) := by decide +kernel
theorem dL_law_585 : decode cL_law 585 = .ok (.lcmp, 1) := by decide +kernel
theorem dL_law_586 : decode cL_law 586 = .ok (.ifCond .eq 5, 3) := by decide +kernel
theorem dL_law_589 : decode cL_law 589 = .ok (.iconst 0, 1) := by decide +kernel
theorem dL_law_590 : decode cL_law 590 = .ok (.ireturn, 1) := by decide +kernel
theorem dL_law_591 : decode cL_law 591 = .ok (.goto 882, 3) := by decide +kernel
theorem dL_law_594 : decode cL_law 594 = .ok (.aload_n 1, 1) := by decide +kernel
theorem dL_law_595 : decode cL_law 595 = .ok (.aload_n 0, 1) := by decide +kernel
theorem dL_law_596 : decode cL_law 596 = .ok (.iload 4, 2) := by decide +kernel
theorem dL_law_598 : decode cL_law 598 = .ok (.iconst 1, 1) := by decide +kernel
theorem dL_law_599 : decode cL_law 599 = .ok (.iadd, 1) := by decide +kernel
theorem dL_law_600 : decode cL_law 600 = .ok (.iaload, 1) := by decide +kernel
theorem dL_law_601 : decode cL_law 601 = .ok (.aload_n 0, 1) := by decide +kernel
theorem dL_law_602 : decode cL_law 602 = .ok (.iload 4, 2) := by decide +kernel
theorem dL_law_604 : decode cL_law 604 = .ok (.iconst 2, 1) := by decide +kernel
theorem dL_law_605 : decode cL_law 605 = .ok (.iadd, 1) := by decide +kernel
theorem dL_law_606 : decode cL_law 606 = .ok (.iaload, 1) := by decide +kernel
theorem dL_law_607 : decode cL_law 607 = .ok (.aload_n 3, 1) := by decide +kernel
theorem dL_law_608 : decode cL_law 608 = .ok (.invokestatic 115, 3) := by decide +kernel
theorem dL_law_611 : decode cL_law 611 = .ok (.istore 5, 2) := by decide +kernel
theorem dL_law_613 : decode cL_law 613 = .ok (.aload_n 2, 1) := by decide +kernel
theorem dL_law_614 : decode cL_law 614 = .ok (.aload_n 0, 1) := by decide +kernel
theorem dL_law_615 : decode cL_law 615 = .ok (.iload 4, 2) := by decide +kernel
theorem dL_law_617 : decode cL_law 617 = .ok (.iconst 1, 1) := by decide +kernel
theorem dL_law_618 : decode cL_law 618 = .ok (.iadd, 1) := by decide +kernel
theorem dL_law_619 : decode cL_law 619 = .ok (.iaload, 1) := by decide +kernel
theorem dL_law_620 : decode cL_law 620 = .ok (.aload_n 0, 1) := by decide +kernel
theorem dL_law_621 : decode cL_law 621 = .ok (.iload 4, 2) := by decide +kernel
theorem dL_law_623 : decode cL_law 623 = .ok (.iconst 2, 1) := by decide +kernel
theorem dL_law_624 : decode cL_law 624 = .ok (.iadd, 1) := by decide +kernel
theorem dL_law_625 : decode cL_law 625 = .ok (.iaload, 1) := by decide +kernel
theorem dL_law_626 : decode cL_law 626 = .ok (.invokevirtual 117, 3) := by decide +kernel
theorem dL_law_629 : decode cL_law 629 = .ok (.istore 6, 2) := by decide +kernel
theorem dL_law_631 : decode cL_law 631 = .ok (.aload_n 2, 1) := by decide +kernel
theorem dL_law_632 : decode cL_law 632 = .ok (.invokevirtual 86, 3) := by decide +kernel
theorem dL_law_635 : decode cL_law 635 = .ok (.iload 5, 2) := by decide +kernel
theorem dL_law_637 : decode cL_law 637 = .ok (.if_icmp .eq 5, 3) := by decide +kernel
theorem dL_law_640 : decode cL_law 640 = .ok (.iconst 0, 1) := by decide +kernel
theorem dL_law_641 : decode cL_law 641 = .ok (.ireturn, 1) := by decide +kernel
theorem dL_law_642 : decode cL_law 642 = .ok (.iload 5, 2) := by decide +kernel
theorem dL_law_644 : decode cL_law 644 = .ok (.ifCond .ne 15, 3) := by decide +kernel
theorem dL_law_647 : decode cL_law 647 = .ok (.aload_n 3, 1) := by decide +kernel
theorem dL_law_648 : decode cL_law 648 = .ok (.iconst 0, 1) := by decide +kernel
theorem dL_law_649 : decode cL_law 649 = .ok (.laload, 1) := by decide +kernel
theorem dL_law_650 : decode cL_law 650 = .ok (.iload 6, 2) := by decide +kernel
theorem dL_law_652 : decode cL_law 652 = .ok (.i2l, 1) := by decide +kernel
theorem dL_law_653 : decode cL_law 653 = .ok (.lcmp, 1) := by decide +kernel
theorem dL_law_654 : decode cL_law 654 = .ok (.ifCond .eq 5, 3) := by decide +kernel
theorem dL_law_657 : decode cL_law 657 = .ok (.iconst 0, 1) := by decide +kernel
theorem dL_law_658 : decode cL_law 658 = .ok (.ireturn, 1) := by decide +kernel
theorem dL_law_659 : decode cL_law 659 = .ok (.goto 814, 3) := by decide +kernel
theorem dL_law_662 : decode cL_law 662 = .ok (.aload_n 1, 1) := by decide +kernel
theorem dL_law_663 : decode cL_law 663 = .ok (.aload_n 0, 1) := by decide +kernel
theorem dL_law_664 : decode cL_law 664 = .ok (.iload 4, 2) := by decide +kernel
theorem dL_law_666 : decode cL_law 666 = .ok (.iconst 1, 1) := by decide +kernel
theorem dL_law_667 : decode cL_law 667 = .ok (.iadd, 1) := by decide +kernel
theorem dL_law_668 : decode cL_law 668 = .ok (.iaload, 1) := by decide +kernel
theorem dL_law_669 : decode cL_law 669 = .ok (.aload_n 0, 1) := by decide +kernel
theorem dL_law_670 : decode cL_law 670 = .ok (.iload 4, 2) := by decide +kernel
theorem dL_law_672 : decode cL_law 672 = .ok (.iconst 2, 1) := by decide +kernel
theorem dL_law_673 : decode cL_law 673 = .ok (.iadd, 1) := by decide +kernel
theorem dL_law_674 : decode cL_law 674 = .ok (.iaload, 1) := by decide +kernel
theorem dL_law_675 : decode cL_law 675 = .ok (.aload_n 3, 1) := by decide +kernel
theorem dL_law_676 : decode cL_law 676 = .ok (.invokestatic 118, 3) := by decide +kernel
theorem dL_law_679 : decode cL_law 679 = .ok (.istore 5, 2) := by decide +kernel
theorem dL_law_681 : decode cL_law 681 = .ok (.aload_n 2, 1) := by decide +kernel
theorem dL_law_682 : decode cL_law 682 = .ok (.aload_n 0, 1) := by decide +kernel
theorem dL_law_683 : decode cL_law 683 = .ok (.iload 4, 2) := by decide +kernel
theorem dL_law_685 : decode cL_law 685 = .ok (.iconst 1, 1) := by decide +kernel
theorem dL_law_686 : decode cL_law 686 = .ok (.iadd, 1) := by decide +kernel
theorem dL_law_687 : decode cL_law 687 = .ok (.iaload, 1) := by decide +kernel
theorem dL_law_688 : decode cL_law 688 = .ok (.aload_n 0, 1) := by decide +kernel
theorem dL_law_689 : decode cL_law 689 = .ok (.iload 4, 2) := by decide +kernel
theorem dL_law_691 : decode cL_law 691 = .ok (.iconst 2, 1) := by decide +kernel
theorem dL_law_692 : decode cL_law 692 = .ok (.iadd, 1) := by decide +kernel
theorem dL_law_693 : decode cL_law 693 = .ok (.iaload, 1) := by decide +kernel
theorem dL_law_694 : decode cL_law 694 = .ok (.invokevirtual 120, 3) := by decide +kernel
theorem dL_law_697 : decode cL_law 697 = .ok (.istore 6, 2) := by decide +kernel
theorem dL_law_699 : decode cL_law 699 = .ok (.aload_n 2, 1) := by decide +kernel
theorem dL_law_700 : decode cL_law 700 = .ok (.invokevirtual 86, 3) := by decide +kernel
theorem dL_law_703 : decode cL_law 703 = .ok (.iload 5, 2) := by decide +kernel
theorem dL_law_705 : decode cL_law 705 = .ok (.if_icmp .eq 5, 3) := by decide +kernel
theorem dL_law_708 : decode cL_law 708 = .ok (.iconst 0, 1) := by decide +kernel
theorem dL_law_709 : decode cL_law 709 = .ok (.ireturn, 1) := by decide +kernel
theorem dL_law_710 : decode cL_law 710 = .ok (.iload 5, 2) := by decide +kernel
theorem dL_law_712 : decode cL_law 712 = .ok (.ifCond .ne 15, 3) := by decide +kernel
theorem dL_law_715 : decode cL_law 715 = .ok (.aload_n 3, 1) := by decide +kernel
theorem dL_law_716 : decode cL_law 716 = .ok (.iconst 0, 1) := by decide +kernel
theorem dL_law_717 : decode cL_law 717 = .ok (.laload, 1) := by decide +kernel
theorem dL_law_718 : decode cL_law 718 = .ok (.iload 6, 2) := by decide +kernel
theorem dL_law_720 : decode cL_law 720 = .ok (.i2l, 1) := by decide +kernel
theorem dL_law_721 : decode cL_law 721 = .ok (.lcmp, 1) := by decide +kernel
theorem dL_law_722 : decode cL_law 722 = .ok (.ifCond .eq 5, 3) := by decide +kernel
theorem dL_law_725 : decode cL_law 725 = .ok (.iconst 0, 1) := by decide +kernel
theorem dL_law_726 : decode cL_law 726 = .ok (.ireturn, 1) := by decide +kernel
theorem dL_law_727 : decode cL_law 727 = .ok (.goto 746, 3) := by decide +kernel
theorem dL_law_730 : decode cL_law 730 = .ok (.aload_n 1, 1) := by decide +kernel
theorem dL_law_731 : decode cL_law 731 = .ok (.aload_n 0, 1) := by decide +kernel
theorem dL_law_732 : decode cL_law 732 = .ok (.iload 4, 2) := by decide +kernel
theorem dL_law_734 : decode cL_law 734 = .ok (.iconst 1, 1) := by decide +kernel
theorem dL_law_735 : decode cL_law 735 = .ok (.iadd, 1) := by decide +kernel
theorem dL_law_736 : decode cL_law 736 = .ok (.iaload, 1) := by decide +kernel
theorem dL_law_737 : decode cL_law 737 = .ok (.aload_n 0, 1) := by decide +kernel
theorem dL_law_738 : decode cL_law 738 = .ok (.iload 4, 2) := by decide +kernel
theorem dL_law_740 : decode cL_law 740 = .ok (.iconst 2, 1) := by decide +kernel
theorem dL_law_741 : decode cL_law 741 = .ok (.iadd, 1) := by decide +kernel
theorem dL_law_742 : decode cL_law 742 = .ok (.iaload, 1) := by decide +kernel
theorem dL_law_743 : decode cL_law 743 = .ok (.aload_n 3, 1) := by decide +kernel
theorem dL_law_744 : decode cL_law 744 = .ok (.invokestatic 121, 3) := by decide +kernel
theorem dL_law_747 : decode cL_law 747 = .ok (.istore 5, 2) := by decide +kernel
theorem dL_law_749 : decode cL_law 749 = .ok (.aload_n 2, 1) := by decide +kernel
theorem dL_law_750 : decode cL_law 750 = .ok (.aload_n 0, 1) := by decide +kernel
theorem dL_law_751 : decode cL_law 751 = .ok (.iload 4, 2) := by decide +kernel
theorem dL_law_753 : decode cL_law 753 = .ok (.iconst 1, 1) := by decide +kernel
theorem dL_law_754 : decode cL_law 754 = .ok (.iadd, 1) := by decide +kernel
theorem dL_law_755 : decode cL_law 755 = .ok (.iaload, 1) := by decide +kernel
theorem dL_law_756 : decode cL_law 756 = .ok (.aload_n 0, 1) := by decide +kernel
theorem dL_law_757 : decode cL_law 757 = .ok (.iload 4, 2) := by decide +kernel
theorem dL_law_759 : decode cL_law 759 = .ok (.iconst 2, 1) := by decide +kernel
theorem dL_law_760 : decode cL_law 760 = .ok (.iadd, 1) := by decide +kernel
theorem dL_law_761 : decode cL_law 761 = .ok (.iaload, 1) := by decide +kernel
theorem dL_law_762 : decode cL_law 762 = .ok (.invokevirtual 123, 3) := by decide +kernel
theorem dL_law_765 : decode cL_law 765 = .ok (.istore 6, 2) := by decide +kernel
theorem dL_law_767 : decode cL_law 767 = .ok (.aload_n 2, 1) := by decide +kernel
theorem dL_law_768 : decode cL_law 768 = .ok (.invokevirtual 86, 3) := by decide +kernel
theorem dL_law_771 : decode cL_law 771 = .ok (.iload 5, 2) := by decide +kernel
theorem dL_law_773 : decode cL_law 773 = .ok (.if_icmp .eq 5, 3) := by decide +kernel
theorem dL_law_776 : decode cL_law 776 = .ok (.iconst 0, 1) := by decide +kernel
theorem dL_law_777 : decode cL_law 777 = .ok (.ireturn, 1) := by decide +kernel
theorem dL_law_778 : decode cL_law 778 = .ok (.iload 5, 2) := by decide +kernel
theorem dL_law_780 : decode cL_law 780 = .ok (.ifCond .ne 15, 3) := by decide +kernel
theorem dL_law_783 : decode cL_law 783 = .ok (.aload_n 3, 1) := by decide +kernel
theorem dL_law_784 : decode cL_law 784 = .ok (.iconst 0, 1) := by decide +kernel
theorem dL_law_785 : decode cL_law 785 = .ok (.laload, 1) := by decide +kernel
theorem dL_law_786 : decode cL_law 786 = .ok (.iload 6, 2) := by decide +kernel
theorem dL_law_788 : decode cL_law 788 = .ok (.i2l, 1) := by decide +kernel
theorem dL_law_789 : decode cL_law 789 = .ok (.lcmp, 1) := by decide +kernel
theorem dL_law_790 : decode cL_law 790 = .ok (.ifCond .eq 5, 3) := by decide +kernel
theorem dL_law_793 : decode cL_law 793 = .ok (.iconst 0, 1) := by decide +kernel
theorem dL_law_794 : decode cL_law 794 = .ok (.ireturn, 1) := by decide +kernel
theorem dL_law_795 : decode cL_law 795 = .ok (.goto 678, 3) := by decide +kernel
theorem dL_law_798 : decode cL_law 798 = .ok (.aload_n 1, 1) := by decide +kernel
theorem dL_law_799 : decode cL_law 799 = .ok (.aload_n 0, 1) := by decide +kernel
theorem dL_law_800 : decode cL_law 800 = .ok (.iload 4, 2) := by decide +kernel
theorem dL_law_802 : decode cL_law 802 = .ok (.iconst 1, 1) := by decide +kernel
theorem dL_law_803 : decode cL_law 803 = .ok (.iadd, 1) := by decide +kernel
theorem dL_law_804 : decode cL_law 804 = .ok (.iaload, 1) := by decide +kernel
theorem dL_law_805 : decode cL_law 805 = .ok (.aload_n 3, 1) := by decide +kernel
theorem dL_law_806 : decode cL_law 806 = .ok (.invokestatic 124, 3) := by decide +kernel
theorem dL_law_809 : decode cL_law 809 = .ok (.istore 5, 2) := by decide +kernel
theorem dL_law_811 : decode cL_law 811 = .ok (.aload_n 2, 1) := by decide +kernel
theorem dL_law_812 : decode cL_law 812 = .ok (.aload_n 0, 1) := by decide +kernel
theorem dL_law_813 : decode cL_law 813 = .ok (.iload 4, 2) := by decide +kernel
theorem dL_law_815 : decode cL_law 815 = .ok (.iconst 1, 1) := by decide +kernel
theorem dL_law_816 : decode cL_law 816 = .ok (.iadd, 1) := by decide +kernel
theorem dL_law_817 : decode cL_law 817 = .ok (.iaload, 1) := by decide +kernel
theorem dL_law_818 : decode cL_law 818 = .ok (.invokevirtual 126, 3) := by decide +kernel
theorem dL_law_821 : decode cL_law 821 = .ok (.istore 6, 2) := by decide +kernel
theorem dL_law_823 : decode cL_law 823 = .ok (.aload_n 2, 1) := by decide +kernel
theorem dL_law_824 : decode cL_law 824 = .ok (.invokevirtual 86, 3) := by decide +kernel
theorem dL_law_827 : decode cL_law 827 = .ok (.iload 5, 2) := by decide +kernel
theorem dL_law_829 : decode cL_law 829 = .ok (.if_icmp .eq 5, 3) := by decide +kernel
theorem dL_law_832 : decode cL_law 832 = .ok (.iconst 0, 1) := by decide +kernel
theorem dL_law_833 : decode cL_law 833 = .ok (.ireturn, 1) := by decide +kernel
theorem dL_law_834 : decode cL_law 834 = .ok (.iload 5, 2) := by decide +kernel
theorem dL_law_836 : decode cL_law 836 = .ok (.ifCond .ne 15, 3) := by decide +kernel
theorem dL_law_839 : decode cL_law 839 = .ok (.aload_n 3, 1) := by decide +kernel
theorem dL_law_840 : decode cL_law 840 = .ok (.iconst 0, 1) := by decide +kernel
theorem dL_law_841 : decode cL_law 841 = .ok (.laload, 1) := by decide +kernel
theorem dL_law_842 : decode cL_law 842 = .ok (.iload 6, 2) := by decide +kernel
theorem dL_law_844 : decode cL_law 844 = .ok (.i2l, 1) := by decide +kernel
theorem dL_law_845 : decode cL_law 845 = .ok (.lcmp, 1) := by decide +kernel
theorem dL_law_846 : decode cL_law 846 = .ok (.ifCond .eq 5, 3) := by decide +kernel
theorem dL_law_849 : decode cL_law 849 = .ok (.iconst 0, 1) := by decide +kernel
theorem dL_law_850 : decode cL_law 850 = .ok (.ireturn, 1) := by decide +kernel
theorem dL_law_851 : decode cL_law 851 = .ok (.goto 622, 3) := by decide +kernel
theorem dL_law_854 : decode cL_law 854 = .ok (.aload_n 1, 1) := by decide +kernel
theorem dL_law_855 : decode cL_law 855 = .ok (.aload_n 0, 1) := by decide +kernel
theorem dL_law_856 : decode cL_law 856 = .ok (.iload 4, 2) := by decide +kernel
theorem dL_law_858 : decode cL_law 858 = .ok (.iconst 1, 1) := by decide +kernel
theorem dL_law_859 : decode cL_law 859 = .ok (.iadd, 1) := by decide +kernel
theorem dL_law_860 : decode cL_law 860 = .ok (.iaload, 1) := by decide +kernel
theorem dL_law_861 : decode cL_law 861 = .ok (.aload_n 3, 1) := by decide +kernel
theorem dL_law_862 : decode cL_law 862 = .ok (.invokestatic 127, 3) := by decide +kernel
theorem dL_law_865 : decode cL_law 865 = .ok (.istore 5, 2) := by decide +kernel
theorem dL_law_867 : decode cL_law 867 = .ok (.aload_n 2, 1) := by decide +kernel
theorem dL_law_868 : decode cL_law 868 = .ok (.aload_n 0, 1) := by decide +kernel
theorem dL_law_869 : decode cL_law 869 = .ok (.iload 4, 2) := by decide +kernel
theorem dL_law_871 : decode cL_law 871 = .ok (.iconst 1, 1) := by decide +kernel
theorem dL_law_872 : decode cL_law 872 = .ok (.iadd, 1) := by decide +kernel
theorem dL_law_873 : decode cL_law 873 = .ok (.iaload, 1) := by decide +kernel
theorem dL_law_874 : decode cL_law 874 = .ok (.invokevirtual 129, 3) := by decide +kernel
theorem dL_law_877 : decode cL_law 877 = .ok (.istore 6, 2) := by decide +kernel
theorem dL_law_879 : decode cL_law 879 = .ok (.aload_n 2, 1) := by decide +kernel
theorem dL_law_880 : decode cL_law 880 = .ok (.invokevirtual 86, 3) := by decide +kernel
theorem dL_law_883 : decode cL_law 883 = .ok (.iload 5, 2) := by decide +kernel
theorem dL_law_885 : decode cL_law 885 = .ok (.if_icmp .eq 5, 3) := by decide +kernel
theorem dL_law_888 : decode cL_law 888 = .ok (.iconst 0, 1) := by decide +kernel
theorem dL_law_889 : decode cL_law 889 = .ok (.ireturn, 1) := by decide +kernel
theorem dL_law_890 : decode cL_law 890 = .ok (.iload 5, 2) := by decide +kernel
theorem dL_law_892 : decode cL_law 892 = .ok (.ifCond .ne 15, 3) := by decide +kernel
theorem dL_law_895 : decode cL_law 895 = .ok (.aload_n 3, 1) := by decide +kernel
theorem dL_law_896 : decode cL_law 896 = .ok (.iconst 0, 1) := by decide +kernel
theorem dL_law_897 : decode cL_law 897 = .ok (.laload, 1) := by decide +kernel
theorem dL_law_898 : decode cL_law 898 = .ok (.iload 6, 2) := by decide +kernel
theorem dL_law_900 : decode cL_law 900 = .ok (.i2l, 1) := by decide +kernel
theorem dL_law_901 : decode cL_law 901 = .ok (.lcmp, 1) := by decide +kernel
theorem dL_law_902 : decode cL_law 902 = .ok (.ifCond .eq 5, 3) := by decide +kernel
theorem dL_law_905 : decode cL_law 905 = .ok (.iconst 0, 1) := by decide +kernel
theorem dL_law_906 : decode cL_law 906 = .ok (.ireturn, 1) := by decide +kernel
theorem dL_law_907 : decode cL_law 907 = .ok (.goto 566, 3) := by decide +kernel
theorem dL_law_910 : decode cL_law 910 = .ok (.aload_n 1, 1) := by decide +kernel
theorem dL_law_911 : decode cL_law 911 = .ok (.aload_n 0, 1) := by decide +kernel
theorem dL_law_912 : decode cL_law 912 = .ok (.iload 4, 2) := by decide +kernel
theorem dL_law_914 : decode cL_law 914 = .ok (.iconst 1, 1) := by decide +kernel
theorem dL_law_915 : decode cL_law 915 = .ok (.iadd, 1) := by decide +kernel
theorem dL_law_916 : decode cL_law 916 = .ok (.iaload, 1) := by decide +kernel
theorem dL_law_917 : decode cL_law 917 = .ok (.aload_n 0, 1) := by decide +kernel
theorem dL_law_918 : decode cL_law 918 = .ok (.iload 4, 2) := by decide +kernel
theorem dL_law_920 : decode cL_law 920 = .ok (.iconst 2, 1) := by decide +kernel
theorem dL_law_921 : decode cL_law 921 = .ok (.iadd, 1) := by decide +kernel
theorem dL_law_922 : decode cL_law 922 = .ok (.iaload, 1) := by decide +kernel
theorem dL_law_923 : decode cL_law 923 = .ok (.aload_n 0, 1) := by decide +kernel
theorem dL_law_924 : decode cL_law 924 = .ok (.iload 4, 2) := by decide +kernel
theorem dL_law_926 : decode cL_law 926 = .ok (.iconst 3, 1) := by decide +kernel
theorem dL_law_927 : decode cL_law 927 = .ok (.iadd, 1) := by decide +kernel
theorem dL_law_928 : decode cL_law 928 = .ok (.iaload, 1) := by decide +kernel
theorem dL_law_929 : decode cL_law 929 = .ok (.aload_n 3, 1) := by decide +kernel
theorem dL_law_930 : decode cL_law 930 = .ok (.invokestatic 130, 3) := by decide +kernel
theorem dL_law_933 : decode cL_law 933 = .ok (.istore 5, 2) := by decide +kernel
theorem dL_law_935 : decode cL_law 935 = .ok (.aload_n 2, 1) := by decide +kernel
theorem dL_law_936 : decode cL_law 936 = .ok (.aload_n 0, 1) := by decide +kernel
theorem dL_law_937 : decode cL_law 937 = .ok (.iload 4, 2) := by decide +kernel
theorem dL_law_939 : decode cL_law 939 = .ok (.iconst 1, 1) := by decide +kernel
theorem dL_law_940 : decode cL_law 940 = .ok (.iadd, 1) := by decide +kernel
theorem dL_law_941 : decode cL_law 941 = .ok (.iaload, 1) := by decide +kernel
theorem dL_law_942 : decode cL_law 942 = .ok (.aload_n 0, 1) := by decide +kernel
theorem dL_law_943 : decode cL_law 943 = .ok (.iload 4, 2) := by decide +kernel
theorem dL_law_945 : decode cL_law 945 = .ok (.iconst 2, 1) := by decide +kernel
theorem dL_law_946 : decode cL_law 946 = .ok (.iadd, 1) := by decide +kernel
theorem dL_law_947 : decode cL_law 947 = .ok (.iaload, 1) := by decide +kernel
theorem dL_law_948 : decode cL_law 948 = .ok (.aload_n 0, 1) := by decide +kernel
theorem dL_law_949 : decode cL_law 949 = .ok (.iload 4, 2) := by decide +kernel
theorem dL_law_951 : decode cL_law 951 = .ok (.iconst 3, 1) := by decide +kernel
theorem dL_law_952 : decode cL_law 952 = .ok (.iadd, 1) := by decide +kernel
theorem dL_law_953 : decode cL_law 953 = .ok (.iaload, 1) := by decide +kernel
theorem dL_law_954 : decode cL_law 954 = .ok (.invokevirtual 133, 3) := by decide +kernel
theorem dL_law_957 : decode cL_law 957 = .ok (.istore 6, 2) := by decide +kernel
theorem dL_law_959 : decode cL_law 959 = .ok (.aload_n 2, 1) := by decide +kernel
theorem dL_law_960 : decode cL_law 960 = .ok (.invokevirtual 86, 3) := by decide +kernel
theorem dL_law_963 : decode cL_law 963 = .ok (.iload 5, 2) := by decide +kernel
theorem dL_law_965 : decode cL_law 965 = .ok (.if_icmp .eq 5, 3) := by decide +kernel
theorem dL_law_968 : decode cL_law 968 = .ok (.iconst 0, 1) := by decide +kernel
theorem dL_law_969 : decode cL_law 969 = .ok (.ireturn, 1) := by decide +kernel
theorem dL_law_970 : decode cL_law 970 = .ok (.iload 5, 2) := by decide +kernel
theorem dL_law_972 : decode cL_law 972 = .ok (.ifCond .ne 15, 3) := by decide +kernel
theorem dL_law_975 : decode cL_law 975 = .ok (.aload_n 3, 1) := by decide +kernel
theorem dL_law_976 : decode cL_law 976 = .ok (.iconst 0, 1) := by decide +kernel
theorem dL_law_977 : decode cL_law 977 = .ok (.laload, 1) := by decide +kernel
theorem dL_law_978 : decode cL_law 978 = .ok (.iload 6, 2) := by decide +kernel
theorem dL_law_980 : decode cL_law 980 = .ok (.i2l, 1) := by decide +kernel
theorem dL_law_981 : decode cL_law 981 = .ok (.lcmp, 1) := by decide +kernel
theorem dL_law_982 : decode cL_law 982 = .ok (.ifCond .eq 5, 3) := by decide +kernel
theorem dL_law_985 : decode cL_law 985 = .ok (.iconst 0, 1) := by decide +kernel
theorem dL_law_986 : decode cL_law 986 = .ok (.ireturn, 1) := by decide +kernel
theorem dL_law_987 : decode cL_law 987 = .ok (.goto 486, 3) := by decide +kernel
theorem dL_law_990 : decode cL_law 990 = .ok (.aload_n 1, 1) := by decide +kernel
theorem dL_law_991 : decode cL_law 991 = .ok (.aload_n 0, 1) := by decide +kernel
theorem dL_law_992 : decode cL_law 992 = .ok (.iload 4, 2) := by decide +kernel
theorem dL_law_994 : decode cL_law 994 = .ok (.iconst 1, 1) := by decide +kernel
theorem dL_law_995 : decode cL_law 995 = .ok (.iadd, 1) := by decide +kernel
theorem dL_law_996 : decode cL_law 996 = .ok (.iaload, 1) := by decide +kernel
theorem dL_law_997 : decode cL_law 997 = .ok (.aload_n 0, 1) := by decide +kernel
theorem dL_law_998 : decode cL_law 998 = .ok (.iload 4, 2) := by decide +kernel
theorem dL_law_1000 : decode cL_law 1000 = .ok (.iconst 2, 1) := by decide +kernel
theorem dL_law_1001 : decode cL_law 1001 = .ok (.iadd, 1) := by decide +kernel
theorem dL_law_1002 : decode cL_law 1002 = .ok (.iaload, 1) := by decide +kernel
theorem dL_law_1003 : decode cL_law 1003 = .ok (.aload_n 3, 1) := by decide +kernel
theorem dL_law_1004 : decode cL_law 1004 = .ok (.invokestatic 134, 3) := by decide +kernel
theorem dL_law_1007 : decode cL_law 1007 = .ok (.istore 5, 2) := by decide +kernel
theorem dL_law_1009 : decode cL_law 1009 = .ok (.aload_n 2, 1) := by decide +kernel
theorem dL_law_1010 : decode cL_law 1010 = .ok (.aload_n 0, 1) := by decide +kernel
theorem dL_law_1011 : decode cL_law 1011 = .ok (.iload 4, 2) := by decide +kernel
theorem dL_law_1013 : decode cL_law 1013 = .ok (.iconst 1, 1) := by decide +kernel
theorem dL_law_1014 : decode cL_law 1014 = .ok (.iadd, 1) := by decide +kernel
theorem dL_law_1015 : decode cL_law 1015 = .ok (.iaload, 1) := by decide +kernel
theorem dL_law_1016 : decode cL_law 1016 = .ok (.aload_n 0, 1) := by decide +kernel
theorem dL_law_1017 : decode cL_law 1017 = .ok (.iload 4, 2) := by decide +kernel
theorem dL_law_1019 : decode cL_law 1019 = .ok (.iconst 2, 1) := by decide +kernel
theorem dL_law_1020 : decode cL_law 1020 = .ok (.iadd, 1) := by decide +kernel
theorem dL_law_1021 : decode cL_law 1021 = .ok (.iaload, 1) := by decide +kernel
theorem dL_law_1022 : decode cL_law 1022 = .ok (.invokevirtual 136, 3) := by decide +kernel
theorem dL_law_1025 : decode cL_law 1025 = .ok (.istore 6, 2) := by decide +kernel
theorem dL_law_1027 : decode cL_law 1027 = .ok (.aload_n 2, 1) := by decide +kernel
theorem dL_law_1028 : decode cL_law 1028 = .ok (.invokevirtual 86, 3) := by decide +kernel
theorem dL_law_1031 : decode cL_law 1031 = .ok (.iload 5, 2) := by decide +kernel
theorem dL_law_1033 : decode cL_law 1033 = .ok (.if_icmp .eq 5, 3) := by decide +kernel
theorem dL_law_1036 : decode cL_law 1036 = .ok (.iconst 0, 1) := by decide +kernel
theorem dL_law_1037 : decode cL_law 1037 = .ok (.ireturn, 1) := by decide +kernel
theorem dL_law_1038 : decode cL_law 1038 = .ok (.iload 5, 2) := by decide +kernel
theorem dL_law_1040 : decode cL_law 1040 = .ok (.ifCond .ne 15, 3) := by decide +kernel
theorem dL_law_1043 : decode cL_law 1043 = .ok (.aload_n 3, 1) := by decide +kernel
theorem dL_law_1044 : decode cL_law 1044 = .ok (.iconst 0, 1) := by decide +kernel
theorem dL_law_1045 : decode cL_law 1045 = .ok (.laload, 1) := by decide +kernel
theorem dL_law_1046 : decode cL_law 1046 = .ok (.iload 6, 2) := by decide +kernel
theorem dL_law_1048 : decode cL_law 1048 = .ok (.i2l, 1) := by decide +kernel
theorem dL_law_1049 : decode cL_law 1049 = .ok (.lcmp, 1) := by decide +kernel
theorem dL_law_1050 : decode cL_law 1050 = .ok (.ifCond .eq 5, 3) := by decide +kernel
theorem dL_law_1053 : decode cL_law 1053 = .ok (.iconst 0, 1) := by decide +kernel
theorem dL_law_1054 : decode cL_law 1054 = .ok (.ireturn, 1) := by decide +kernel
theorem dL_law_1055 : decode cL_law 1055 = .ok (.goto 418, 3) := by decide +kernel
theorem dL_law_1058 : decode cL_law 1058 = .ok (.aload_n 1, 1) := by decide +kernel
theorem dL_law_1059 : decode cL_law 1059 = .ok (.aload_n 0, 1) := by decide +kernel
theorem dL_law_1060 : decode cL_law 1060 = .ok (.iload 4, 2) := by decide +kernel
theorem dL_law_1062 : decode cL_law 1062 = .ok (.iconst 1, 1) := by decide +kernel
theorem dL_law_1063 : decode cL_law 1063 = .ok (.iadd, 1) := by decide +kernel
theorem dL_law_1064 : decode cL_law 1064 = .ok (.iaload, 1) := by decide +kernel
theorem dL_law_1065 : decode cL_law 1065 = .ok (.aload_n 3, 1) := by decide +kernel
theorem dL_law_1066 : decode cL_law 1066 = .ok (.invokestatic 137, 3) := by decide +kernel
theorem dL_law_1069 : decode cL_law 1069 = .ok (.istore 5, 2) := by decide +kernel
theorem dL_law_1071 : decode cL_law 1071 = .ok (.aload_n 2, 1) := by decide +kernel
theorem dL_law_1072 : decode cL_law 1072 = .ok (.aload_n 0, 1) := by decide +kernel
theorem dL_law_1073 : decode cL_law 1073 = .ok (.iload 4, 2) := by decide +kernel
theorem dL_law_1075 : decode cL_law 1075 = .ok (.iconst 1, 1) := by decide +kernel
theorem dL_law_1076 : decode cL_law 1076 = .ok (.iadd, 1) := by decide +kernel
theorem dL_law_1077 : decode cL_law 1077 = .ok (.iaload, 1) := by decide +kernel
theorem dL_law_1078 : decode cL_law 1078 = .ok (.invokevirtual 139, 3) := by decide +kernel
theorem dL_law_1081 : decode cL_law 1081 = .ok (.istore 6, 2) := by decide +kernel
theorem dL_law_1083 : decode cL_law 1083 = .ok (.aload_n 2, 1) := by decide +kernel
theorem dL_law_1084 : decode cL_law 1084 = .ok (.invokevirtual 86, 3) := by decide +kernel
theorem dL_law_1087 : decode cL_law 1087 = .ok (.iload 5, 2) := by decide +kernel
theorem dL_law_1089 : decode cL_law 1089 = .ok (.if_icmp .eq 5, 3) := by decide +kernel
theorem dL_law_1092 : decode cL_law 1092 = .ok (.iconst 0, 1) := by decide +kernel
theorem dL_law_1093 : decode cL_law 1093 = .ok (.ireturn, 1) := by decide +kernel
theorem dL_law_1094 : decode cL_law 1094 = .ok (.iload 5, 2) := by decide +kernel
theorem dL_law_1096 : decode cL_law 1096 = .ok (.ifCond .ne 15, 3) := by decide +kernel
theorem dL_law_1099 : decode cL_law 1099 = .ok (.aload_n 3, 1) := by decide +kernel
theorem dL_law_1100 : decode cL_law 1100 = .ok (.iconst 0, 1) := by decide +kernel
theorem dL_law_1101 : decode cL_law 1101 = .ok (.laload, 1) := by decide +kernel
theorem dL_law_1102 : decode cL_law 1102 = .ok (.iload 6, 2) := by decide +kernel
theorem dL_law_1104 : decode cL_law 1104 = .ok (.i2l, 1) := by decide +kernel
theorem dL_law_1105 : decode cL_law 1105 = .ok (.lcmp, 1) := by decide +kernel
theorem dL_law_1106 : decode cL_law 1106 = .ok (.ifCond .eq 5, 3) := by decide +kernel
theorem dL_law_1109 : decode cL_law 1109 = .ok (.iconst 0, 1) := by decide +kernel
theorem dL_law_1110 : decode cL_law 1110 = .ok (.ireturn, 1) := by decide +kernel
theorem dL_law_1111 : decode cL_law 1111 = .ok (.goto 362, 3) := by decide +kernel
theorem dL_law_1114 : decode cL_law 1114 = .ok (.aload_n 1, 1) := by decide +kernel
theorem dL_law_1115 : decode cL_law 1115 = .ok (.aload_n 0, 1) := by decide +kernel
theorem dL_law_1116 : decode cL_law 1116 = .ok (.iload 4, 2) := by decide +kernel
theorem dL_law_1118 : decode cL_law 1118 = .ok (.iconst 1, 1) := by decide +kernel
theorem dL_law_1119 : decode cL_law 1119 = .ok (.iadd, 1) := by decide +kernel
theorem dL_law_1120 : decode cL_law 1120 = .ok (.iaload, 1) := by decide +kernel
theorem dL_law_1121 : decode cL_law 1121 = .ok (.aload_n 3, 1) := by decide +kernel
theorem dL_law_1122 : decode cL_law 1122 = .ok (.invokestatic 140, 3) := by decide +kernel
theorem dL_law_1125 : decode cL_law 1125 = .ok (.istore 5, 2) := by decide +kernel
theorem dL_law_1127 : decode cL_law 1127 = .ok (.aload_n 2, 1) := by decide +kernel
theorem dL_law_1128 : decode cL_law 1128 = .ok (.aload_n 0, 1) := by decide +kernel
theorem dL_law_1129 : decode cL_law 1129 = .ok (.iload 4, 2) := by decide +kernel
theorem dL_law_1131 : decode cL_law 1131 = .ok (.iconst 1, 1) := by decide +kernel
theorem dL_law_1132 : decode cL_law 1132 = .ok (.iadd, 1) := by decide +kernel
theorem dL_law_1133 : decode cL_law 1133 = .ok (.iaload, 1) := by decide +kernel
theorem dL_law_1134 : decode cL_law 1134 = .ok (.invokevirtual 142, 3) := by decide +kernel
theorem dL_law_1137 : decode cL_law 1137 = .ok (.istore 6, 2) := by decide +kernel
theorem dL_law_1139 : decode cL_law 1139 = .ok (.aload_n 2, 1) := by decide +kernel
theorem dL_law_1140 : decode cL_law 1140 = .ok (.invokevirtual 86, 3) := by decide +kernel
theorem dL_law_1143 : decode cL_law 1143 = .ok (.iload 5, 2) := by decide +kernel
theorem dL_law_1145 : decode cL_law 1145 = .ok (.if_icmp .eq 5, 3) := by decide +kernel
theorem dL_law_1148 : decode cL_law 1148 = .ok (.iconst 0, 1) := by decide +kernel
theorem dL_law_1149 : decode cL_law 1149 = .ok (.ireturn, 1) := by decide +kernel
theorem dL_law_1150 : decode cL_law 1150 = .ok (.iload 5, 2) := by decide +kernel
theorem dL_law_1152 : decode cL_law 1152 = .ok (.ifCond .ne 15, 3) := by decide +kernel
theorem dL_law_1155 : decode cL_law 1155 = .ok (.aload_n 3, 1) := by decide +kernel
theorem dL_law_1156 : decode cL_law 1156 = .ok (.iconst 0, 1) := by decide +kernel
theorem dL_law_1157 : decode cL_law 1157 = .ok (.laload, 1) := by decide +kernel
theorem dL_law_1158 : decode cL_law 1158 = .ok (.iload 6, 2) := by decide +kernel
theorem dL_law_1160 : decode cL_law 1160 = .ok (.i2l, 1) := by decide +kernel
theorem dL_law_1161 : decode cL_law 1161 = .ok (.lcmp, 1) := by decide +kernel
theorem dL_law_1162 : decode cL_law 1162 = .ok (.ifCond .eq 5, 3) := by decide +kernel
theorem dL_law_1165 : decode cL_law 1165 = .ok (.iconst 0, 1) := by decide +kernel
theorem dL_law_1166 : decode cL_law 1166 = .ok (.ireturn, 1) := by decide +kernel
theorem dL_law_1167 : decode cL_law 1167 = .ok (.goto 306, 3) := by decide +kernel
theorem dL_law_1170 : decode cL_law 1170 = .ok (.aload_n 1, 1) := by decide +kernel
theorem dL_law_1171 : decode cL_law 1171 = .ok (.aload_n 0, 1) := by decide +kernel
theorem dL_law_1172 : decode cL_law 1172 = .ok (.iload 4, 2) := by decide +kernel
theorem dL_law_1174 : decode cL_law 1174 = .ok (.iconst 1, 1) := by decide +kernel
theorem dL_law_1175 : decode cL_law 1175 = .ok (.iadd, 1) := by decide +kernel
theorem dL_law_1176 : decode cL_law 1176 = .ok (.iaload, 1) := by decide +kernel
theorem dL_law_1177 : decode cL_law 1177 = .ok (.aload_n 0, 1) := by decide +kernel
theorem dL_law_1178 : decode cL_law 1178 = .ok (.iload 4, 2) := by decide +kernel
theorem dL_law_1180 : decode cL_law 1180 = .ok (.iconst 2, 1) := by decide +kernel
theorem dL_law_1181 : decode cL_law 1181 = .ok (.iadd, 1) := by decide +kernel
theorem dL_law_1182 : decode cL_law 1182 = .ok (.iaload, 1) := by decide +kernel
theorem dL_law_1183 : decode cL_law 1183 = .ok (.aload_n 3, 1) := by decide +kernel
theorem dL_law_1184 : decode cL_law 1184 = .ok (.invokestatic 143, 3) := by decide +kernel
theorem dL_law_1187 : decode cL_law 1187 = .ok (.istore 5, 2) := by decide +kernel
theorem dL_law_1189 : decode cL_law 1189 = .ok (.aload_n 2, 1) := by decide +kernel
theorem dL_law_1190 : decode cL_law 1190 = .ok (.aload_n 0, 1) := by decide +kernel
theorem dL_law_1191 : decode cL_law 1191 = .ok (.iload 4, 2) := by decide +kernel
theorem dL_law_1193 : decode cL_law 1193 = .ok (.iconst 1, 1) := by decide +kernel
theorem dL_law_1194 : decode cL_law 1194 = .ok (.iadd, 1) := by decide +kernel
theorem dL_law_1195 : decode cL_law 1195 = .ok (.iaload, 1) := by decide +kernel
theorem dL_law_1196 : decode cL_law 1196 = .ok (.aload_n 0, 1) := by decide +kernel
theorem dL_law_1197 : decode cL_law 1197 = .ok (.iload 4, 2) := by decide +kernel
theorem dL_law_1199 : decode cL_law 1199 = .ok (.iconst 2, 1) := by decide +kernel
theorem dL_law_1200 : decode cL_law 1200 = .ok (.iadd, 1) := by decide +kernel
theorem dL_law_1201 : decode cL_law 1201 = .ok (.iaload, 1) := by decide +kernel
theorem dL_law_1202 : decode cL_law 1202 = .ok (.invokevirtual 145, 3) := by decide +kernel
theorem dL_law_1205 : decode cL_law 1205 = .ok (.istore 6, 2) := by decide +kernel
theorem dL_law_1207 : decode cL_law 1207 = .ok (.aload_n 2, 1) := by decide +kernel
theorem dL_law_1208 : decode cL_law 1208 = .ok (.invokevirtual 86, 3) := by decide +kernel
theorem dL_law_1211 : decode cL_law 1211 = .ok (.iload 5, 2) := by decide +kernel
theorem dL_law_1213 : decode cL_law 1213 = .ok (.if_icmp .eq 5, 3) := by decide +kernel
theorem dL_law_1216 : decode cL_law 1216 = .ok (.iconst 0, 1) := by decide +kernel
theorem dL_law_1217 : decode cL_law 1217 = .ok (.ireturn, 1) := by decide +kernel
theorem dL_law_1218 : decode cL_law 1218 = .ok (.iload 5, 2) := by decide +kernel
theorem dL_law_1220 : decode cL_law 1220 = .ok (.ifCond .ne 15, 3) := by decide +kernel
theorem dL_law_1223 : decode cL_law 1223 = .ok (.aload_n 3, 1) := by decide +kernel
theorem dL_law_1224 : decode cL_law 1224 = .ok (.iconst 0, 1) := by decide +kernel
theorem dL_law_1225 : decode cL_law 1225 = .ok (.laload, 1) := by decide +kernel
theorem dL_law_1226 : decode cL_law 1226 = .ok (.iload 6, 2) := by decide +kernel
theorem dL_law_1228 : decode cL_law 1228 = .ok (.i2l, 1) := by decide +kernel
theorem dL_law_1229 : decode cL_law 1229 = .ok (.lcmp, 1) := by decide +kernel
theorem dL_law_1230 : decode cL_law 1230 = .ok (.ifCond .eq 5, 3) := by decide +kernel
theorem dL_law_1233 : decode cL_law 1233 = .ok (.iconst 0, 1) := by decide +kernel
theorem dL_law_1234 : decode cL_law 1234 = .ok (.ireturn, 1) := by decide +kernel
theorem dL_law_1235 : decode cL_law 1235 = .ok (.goto 238, 3) := by decide +kernel
theorem dL_law_1238 : decode cL_law 1238 = .ok (.aload_n 1, 1) := by decide +kernel
theorem dL_law_1239 : decode cL_law 1239 = .ok (.aload_n 0, 1) := by decide +kernel
theorem dL_law_1240 : decode cL_law 1240 = .ok (.iload 4, 2) := by decide +kernel
theorem dL_law_1242 : decode cL_law 1242 = .ok (.iconst 1, 1) := by decide +kernel
theorem dL_law_1243 : decode cL_law 1243 = .ok (.iadd, 1) := by decide +kernel
theorem dL_law_1244 : decode cL_law 1244 = .ok (.iaload, 1) := by decide +kernel
theorem dL_law_1245 : decode cL_law 1245 = .ok (.aload_n 0, 1) := by decide +kernel
theorem dL_law_1246 : decode cL_law 1246 = .ok (.iload 4, 2) := by decide +kernel
theorem dL_law_1248 : decode cL_law 1248 = .ok (.iconst 2, 1) := by decide +kernel
theorem dL_law_1249 : decode cL_law 1249 = .ok (.iadd, 1) := by decide +kernel
theorem dL_law_1250 : decode cL_law 1250 = .ok (.iaload, 1) := by decide +kernel
theorem dL_law_1251 : decode cL_law 1251 = .ok (.aload_n 3, 1) := by decide +kernel
theorem dL_law_1252 : decode cL_law 1252 = .ok (.invokestatic 146, 3) := by decide +kernel
theorem dL_law_1255 : decode cL_law 1255 = .ok (.istore 5, 2) := by decide +kernel
theorem dL_law_1257 : decode cL_law 1257 = .ok (.aload_n 2, 1) := by decide +kernel
theorem dL_law_1258 : decode cL_law 1258 = .ok (.aload_n 0, 1) := by decide +kernel
theorem dL_law_1259 : decode cL_law 1259 = .ok (.iload 4, 2) := by decide +kernel
theorem dL_law_1261 : decode cL_law 1261 = .ok (.iconst 1, 1) := by decide +kernel
theorem dL_law_1262 : decode cL_law 1262 = .ok (.iadd, 1) := by decide +kernel
theorem dL_law_1263 : decode cL_law 1263 = .ok (.iaload, 1) := by decide +kernel
theorem dL_law_1264 : decode cL_law 1264 = .ok (.aload_n 0, 1) := by decide +kernel
theorem dL_law_1265 : decode cL_law 1265 = .ok (.iload 4, 2) := by decide +kernel
theorem dL_law_1267 : decode cL_law 1267 = .ok (.iconst 2, 1) := by decide +kernel
theorem dL_law_1268 : decode cL_law 1268 = .ok (.iadd, 1) := by decide +kernel
theorem dL_law_1269 : decode cL_law 1269 = .ok (.iaload, 1) := by decide +kernel
theorem dL_law_1270 : decode cL_law 1270 = .ok (.invokevirtual 148, 3) := by decide +kernel
theorem dL_law_1273 : decode cL_law 1273 = .ok (.istore 6, 2) := by decide +kernel
theorem dL_law_1275 : decode cL_law 1275 = .ok (.aload_n 2, 1) := by decide +kernel
theorem dL_law_1276 : decode cL_law 1276 = .ok (.invokevirtual 86, 3) := by decide +kernel
theorem dL_law_1279 : decode cL_law 1279 = .ok (.iload 5, 2) := by decide +kernel
theorem dL_law_1281 : decode cL_law 1281 = .ok (.if_icmp .eq 5, 3) := by decide +kernel
theorem dL_law_1284 : decode cL_law 1284 = .ok (.iconst 0, 1) := by decide +kernel
theorem dL_law_1285 : decode cL_law 1285 = .ok (.ireturn, 1) := by decide +kernel
theorem dL_law_1286 : decode cL_law 1286 = .ok (.iload 5, 2) := by decide +kernel
theorem dL_law_1288 : decode cL_law 1288 = .ok (.ifCond .ne 15, 3) := by decide +kernel
theorem dL_law_1291 : decode cL_law 1291 = .ok (.aload_n 3, 1) := by decide +kernel
theorem dL_law_1292 : decode cL_law 1292 = .ok (.iconst 0, 1) := by decide +kernel
theorem dL_law_1293 : decode cL_law 1293 = .ok (.laload, 1) := by decide +kernel
theorem dL_law_1294 : decode cL_law 1294 = .ok (.iload 6, 2) := by decide +kernel
theorem dL_law_1296 : decode cL_law 1296 = .ok (.i2l, 1) := by decide +kernel
theorem dL_law_1297 : decode cL_law 1297 = .ok (.lcmp, 1) := by decide +kernel
theorem dL_law_1298 : decode cL_law 1298 = .ok (.ifCond .eq 5, 3) := by decide +kernel
theorem dL_law_1301 : decode cL_law 1301 = .ok (.iconst 0, 1) := by decide +kernel
theorem dL_law_1302 : decode cL_law 1302 = .ok (.ireturn, 1) := by decide +kernel
theorem dL_law_1303 : decode cL_law 1303 = .ok (.goto 170, 3) := by decide +kernel
theorem dL_law_1306 : decode cL_law 1306 = .ok (.aload_n 1, 1) := by decide +kernel
theorem dL_law_1307 : decode cL_law 1307 = .ok (.aload_n 0, 1) := by decide +kernel
theorem dL_law_1308 : decode cL_law 1308 = .ok (.iload 4, 2) := by decide +kernel
theorem dL_law_1310 : decode cL_law 1310 = .ok (.iconst 1, 1) := by decide +kernel
theorem dL_law_1311 : decode cL_law 1311 = .ok (.iadd, 1) := by decide +kernel
theorem dL_law_1312 : decode cL_law 1312 = .ok (.iaload, 1) := by decide +kernel
theorem dL_law_1313 : decode cL_law 1313 = .ok (.aload_n 3, 1) := by decide +kernel
theorem dL_law_1314 : decode cL_law 1314 = .ok (.invokestatic 149, 3) := by decide +kernel
theorem dL_law_1317 : decode cL_law 1317 = .ok (.istore 5, 2) := by decide +kernel
theorem dL_law_1319 : decode cL_law 1319 = .ok (.aload_n 2, 1) := by decide +kernel
theorem dL_law_1320 : decode cL_law 1320 = .ok (.aload_n 0, 1) := by decide +kernel
theorem dL_law_1321 : decode cL_law 1321 = .ok (.iload 4, 2) := by decide +kernel
theorem dL_law_1323 : decode cL_law 1323 = .ok (.iconst 1, 1) := by decide +kernel
theorem dL_law_1324 : decode cL_law 1324 = .ok (.iadd, 1) := by decide +kernel
theorem dL_law_1325 : decode cL_law 1325 = .ok (.iaload, 1) := by decide +kernel
theorem dL_law_1326 : decode cL_law 1326 = .ok (.invokevirtual 151, 3) := by decide +kernel
theorem dL_law_1329 : decode cL_law 1329 = .ok (.istore 6, 2) := by decide +kernel
theorem dL_law_1331 : decode cL_law 1331 = .ok (.aload_n 2, 1) := by decide +kernel
theorem dL_law_1332 : decode cL_law 1332 = .ok (.invokevirtual 86, 3) := by decide +kernel
theorem dL_law_1335 : decode cL_law 1335 = .ok (.iload 5, 2) := by decide +kernel
theorem dL_law_1337 : decode cL_law 1337 = .ok (.if_icmp .eq 5, 3) := by decide +kernel
theorem dL_law_1340 : decode cL_law 1340 = .ok (.iconst 0, 1) := by decide +kernel
theorem dL_law_1341 : decode cL_law 1341 = .ok (.ireturn, 1) := by decide +kernel
theorem dL_law_1342 : decode cL_law 1342 = .ok (.iload 5, 2) := by decide +kernel
theorem dL_law_1344 : decode cL_law 1344 = .ok (.ifCond .ne 15, 3) := by decide +kernel
theorem dL_law_1347 : decode cL_law 1347 = .ok (.aload_n 3, 1) := by decide +kernel
theorem dL_law_1348 : decode cL_law 1348 = .ok (.iconst 0, 1) := by decide +kernel
theorem dL_law_1349 : decode cL_law 1349 = .ok (.laload, 1) := by decide +kernel
theorem dL_law_1350 : decode cL_law 1350 = .ok (.iload 6, 2) := by decide +kernel
theorem dL_law_1352 : decode cL_law 1352 = .ok (.i2l, 1) := by decide +kernel
theorem dL_law_1353 : decode cL_law 1353 = .ok (.lcmp, 1) := by decide +kernel
theorem dL_law_1354 : decode cL_law 1354 = .ok (.ifCond .eq 5, 3) := by decide +kernel
theorem dL_law_1357 : decode cL_law 1357 = .ok (.iconst 0, 1) := by decide +kernel
theorem dL_law_1358 : decode cL_law 1358 = .ok (.ireturn, 1) := by decide +kernel
theorem dL_law_1359 : decode cL_law 1359 = .ok (.goto 114, 3) := by decide +kernel
theorem dL_law_1362 : decode cL_law 1362 = .ok (.aload_n 1, 1) := by decide +kernel
theorem dL_law_1363 : decode cL_law 1363 = .ok (.aload_n 0, 1) := by decide +kernel
theorem dL_law_1364 : decode cL_law 1364 = .ok (.iload 4, 2) := by decide +kernel
theorem dL_law_1366 : decode cL_law 1366 = .ok (.iconst 1, 1) := by decide +kernel
theorem dL_law_1367 : decode cL_law 1367 = .ok (.iadd, 1) := by decide +kernel
theorem dL_law_1368 : decode cL_law 1368 = .ok (.iaload, 1) := by decide +kernel
theorem dL_law_1369 : decode cL_law 1369 = .ok (.aload_n 3, 1) := by decide +kernel
theorem dL_law_1370 : decode cL_law 1370 = .ok (.invokestatic 152, 3) := by decide +kernel
theorem dL_law_1373 : decode cL_law 1373 = .ok (.istore 5, 2) := by decide +kernel
theorem dL_law_1375 : decode cL_law 1375 = .ok (.aload_n 2, 1) := by decide +kernel
theorem dL_law_1376 : decode cL_law 1376 = .ok (.aload_n 0, 1) := by decide +kernel
theorem dL_law_1377 : decode cL_law 1377 = .ok (.iload 4, 2) := by decide +kernel
theorem dL_law_1379 : decode cL_law 1379 = .ok (.iconst 1, 1) := by decide +kernel
theorem dL_law_1380 : decode cL_law 1380 = .ok (.iadd, 1) := by decide +kernel
theorem dL_law_1381 : decode cL_law 1381 = .ok (.iaload, 1) := by decide +kernel
theorem dL_law_1382 : decode cL_law 1382 = .ok (.invokevirtual 154, 3) := by decide +kernel
theorem dL_law_1385 : decode cL_law 1385 = .ok (.istore 6, 2) := by decide +kernel
theorem dL_law_1387 : decode cL_law 1387 = .ok (.aload_n 2, 1) := by decide +kernel
theorem dL_law_1388 : decode cL_law 1388 = .ok (.invokevirtual 86, 3) := by decide +kernel
theorem dL_law_1391 : decode cL_law 1391 = .ok (.iload 5, 2) := by decide +kernel
theorem dL_law_1393 : decode cL_law 1393 = .ok (.if_icmp .eq 5, 3) := by decide +kernel
theorem dL_law_1396 : decode cL_law 1396 = .ok (.iconst 0, 1) := by decide +kernel
theorem dL_law_1397 : decode cL_law 1397 = .ok (.ireturn, 1) := by decide +kernel
theorem dL_law_1398 : decode cL_law 1398 = .ok (.iload 5, 2) := by decide +kernel
theorem dL_law_1400 : decode cL_law 1400 = .ok (.ifCond .ne 15, 3) := by decide +kernel
theorem dL_law_1403 : decode cL_law 1403 = .ok (.aload_n 3, 1) := by decide +kernel
theorem dL_law_1404 : decode cL_law 1404 = .ok (.iconst 0, 1) := by decide +kernel
theorem dL_law_1405 : decode cL_law 1405 = .ok (.laload, 1) := by decide +kernel
theorem dL_law_1406 : decode cL_law 1406 = .ok (.iload 6, 2) := by decide +kernel
theorem dL_law_1408 : decode cL_law 1408 = .ok (.i2l, 1) := by decide +kernel
theorem dL_law_1409 : decode cL_law 1409 = .ok (.lcmp, 1) := by decide +kernel
theorem dL_law_1410 : decode cL_law 1410 = .ok (.ifCond .eq 5, 3) := by decide +kernel
theorem dL_law_1413 : decode cL_law 1413 = .ok (.iconst 0, 1) := by decide +kernel
theorem dL_law_1414 : decode cL_law 1414 = .ok (.ireturn, 1) := by decide +kernel
theorem dL_law_1415 : decode cL_law 1415 = .ok (.goto 58, 3) := by decide +kernel
theorem dL_law_1418 : decode cL_law 1418 = .ok (.aload_n 1, 1) := by decide +kernel
theorem dL_law_1419 : decode cL_law 1419 = .ok (.invokevirtual 155, 3) := by decide +kernel
theorem dL_law_1422 : decode cL_law 1422 = .ok (.dstore 5, 2) := by decide +kernel
theorem dL_law_1424 : decode cL_law 1424 = .ok (.aload_n 2, 1) := by decide +kernel
theorem dL_law_1425 : decode cL_law 1425 = .ok (.invokevirtual 159, 3) := by decide +kernel
theorem dL_law_1428 : decode cL_law 1428 = .ok (.dstore 7, 2) := by decide +kernel
theorem dL_law_1430 : decode cL_law 1430 = .ok (.dload 5, 2) := by decide +kernel
theorem dL_law_1432 : decode cL_law 1432 = .ok (.dload 7, 2) := by decide +kernel
theorem dL_law_1434 : decode cL_law 1434 = .ok (.dcmp .l, 1) := by decide +kernel
theorem dL_law_1435 : decode cL_law 1435 = .ok (.ifCond .eq 21, 3) := by decide +kernel
theorem dL_law_1438 : decode cL_law 1438 = .ok (.dload 5, 2) := by decide +kernel
theorem dL_law_1440 : decode cL_law 1440 = .ok (.dload 5, 2) := by decide +kernel
theorem dL_law_1442 : decode cL_law 1442 = .ok (.dcmp .l, 1) := by decide +kernel
theorem dL_law_1443 : decode cL_law 1443 = .ok (.ifCond .eq 11, 3) := by decide +kernel
theorem dL_law_1446 : decode cL_law 1446 = .ok (.dload 7, 2) := by decide +kernel
theorem dL_law_1448 : decode cL_law 1448 = .ok (.dload 7, 2) := by decide +kernel
theorem dL_law_1450 : decode cL_law 1450 = .ok (.dcmp .l, 1) := by decide +kernel
theorem dL_law_1451 : decode cL_law 1451 = .ok (.ifCond .ne 5, 3) := by decide +kernel
theorem dL_law_1454 : decode cL_law 1454 = .ok (.iconst 0, 1) := by decide +kernel
theorem dL_law_1455 : decode cL_law 1455 = .ok (.ireturn, 1) := by decide +kernel
theorem dL_law_1456 : decode cL_law 1456 = .ok (.goto 17, 3) := by decide +kernel
theorem dL_law_1459 : decode cL_law 1459 = .ok (.aload_n 1, 1) := by decide +kernel
theorem dL_law_1460 : decode cL_law 1460 = .ok (.invokevirtual 160, 3) := by decide +kernel
theorem dL_law_1463 : decode cL_law 1463 = .ok (.aload_n 2, 1) := by decide +kernel
theorem dL_law_1464 : decode cL_law 1464 = .ok (.invokevirtual 164, 3) := by decide +kernel
theorem dL_law_1467 : decode cL_law 1467 = .ok (.lcmp, 1) := by decide +kernel
theorem dL_law_1468 : decode cL_law 1468 = .ok (.ifCond .eq 5, 3) := by decide +kernel
theorem dL_law_1471 : decode cL_law 1471 = .ok (.iconst 0, 1) := by decide +kernel
theorem dL_law_1472 : decode cL_law 1472 = .ok (.ireturn, 1) := by decide +kernel
theorem dL_law_1473 : decode cL_law 1473 = .ok (.iinc 4 6, 3) := by decide +kernel
theorem dL_law_1476 : decode cL_law 1476 = .ok (.goto (-1453), 3) := by decide +kernel
theorem dL_law_1479 : decode cL_law 1479 = .ok (.iconst 1, 1) := by decide +kernel
theorem dL_law_1480 : decode cL_law 1480 = .ok (.ireturn, 1) := by decide +kernel
theorem dX0_init_0 : decode cX0_init 0 = .ok (.aload_n 0, 1) := by decide +kernel
theorem dX0_init_1 : decode cX0_init 1 = .ok (.invokespecial 1, 3) := by decide +kernel
theorem dX0_init_4 : decode cX0_init 4 = .ok (.aload_n 0, 1) := by decide +kernel
theorem dX0_init_5 : decode cX0_init 5 = .ok (.aload_n 1, 1) := by decide +kernel
theorem dX0_init_6 : decode cX0_init 6 = .ok (.putfield 7, 3) := by decide +kernel
theorem dX0_init_9 : decode cX0_init 9 = .ok (.aload_n 0, 1) := by decide +kernel
theorem dX0_init_10 : decode cX0_init 10 = .ok (.aload_n 2, 1) := by decide +kernel
theorem dX0_init_11 : decode cX0_init 11 = .ok (.putfield 13, 3) := by decide +kernel
theorem dX0_init_14 : decode cX0_init 14 = .ok (.aload_n 0, 1) := by decide +kernel
theorem dX0_init_15 : decode cX0_init 15 = .ok (.new 17, 3) := by decide +kernel
theorem dX0_init_18 : decode cX0_init 18 = .ok (.dup, 1) := by decide +kernel
theorem dX0_init_19 : decode cX0_init 19 = .ok (.aload_n 1, 1) := by decide +kernel
theorem dX0_init_20 : decode cX0_init 20 = .ok (.getfield 19, 3) := by decide +kernel
theorem dX0_init_23 : decode cX0_init 23 = .ok (.aload_n 2, 1) := by decide +kernel
theorem dX0_init_24 : decode cX0_init 24 = .ok (.invokespecial 25, 3) := by decide +kernel
theorem dX0_init_27 : decode cX0_init 27 = .ok (.putfield 28, 3) := by decide +kernel
theorem dX0_init_30 : decode cX0_init 30 = .ok (.return_, 1) := by decide +kernel
theorem dX0_goOn_0 : decode cX0_goOn 0 = .ok (.iconst 0, 1) := by decide +kernel
theorem dX0_goOn_1 : decode cX0_goOn 1 = .ok (.istore_n 2, 1) := by decide +kernel
theorem dX0_goOn_2 : decode cX0_goOn 2 = .ok (.iconst 0, 1) := by decide +kernel
theorem dX0_goOn_3 : decode cX0_goOn 3 = .ok (.istore_n 3, 1) := by decide +kernel
theorem dX0_goOn_4 : decode cX0_goOn 4 = .ok (.iload_n 3, 1) := by decide +kernel
theorem dX0_goOn_5 : decode cX0_goOn 5 = .ok (.iload_n 1, 1) := by decide +kernel
theorem dX0_goOn_6 : decode cX0_goOn 6 = .ok (.if_icmp .ge 61, 3) := by decide +kernel
theorem dX0_goOn_9 : decode cX0_goOn 9 = .ok (.aload_n 0, 1) := by decide +kernel
theorem dX0_goOn_10 : decode cX0_goOn 10 = .ok (.getfield 13, 3) := by decide +kernel
theorem dX0_goOn_13 : decode cX0_goOn 13 = .ok (.invokevirtual 32, 3) := by decide +kernel
theorem dX0_goOn_16 : decode cX0_goOn 16 = .ok (.iload_n 2, 1) := by decide +kernel
theorem dX0_goOn_17 : decode cX0_goOn 17 = .ok (.aload_n 0, 1) := by decide +kernel
theorem dX0_goOn_18 : decode cX0_goOn 18 = .ok (.invokevirtual 37, 3) := by decide +kernel
theorem dX0_goOn_21 : decode cX0_goOn 21 = .ok (.iadd, 1) := by decide +kernel
theorem dX0_goOn_22 : decode cX0_goOn 22 = .ok (.istore_n 2, 1) := by decide +kernel
theorem dX0_goOn_23 : decode cX0_goOn 23 = .ok (.aload_n 0, 1) := by decide +kernel
theorem dX0_goOn_24 : decode cX0_goOn 24 = .ok (.getfield 13, 3) := by decide +kernel
theorem dX0_goOn_27 : decode cX0_goOn 27 = .ok (.getfield 41, 3) := by decide +kernel
theorem dX0_goOn_30 : decode cX0_goOn 30 = .ok (.bipush 7, 2) := by decide +kernel
theorem dX0_goOn_32 : decode cX0_goOn 32 = .ok (.irem, 1) := by decide +kernel
theorem dX0_goOn_33 : decode cX0_goOn 33 = .ok (.bipush 6, 2) := by decide +kernel
theorem dX0_goOn_35 : decode cX0_goOn 35 = .ok (.if_icmp .ne 13, 3) := by decide +kernel
theorem dX0_goOn_38 : decode cX0_goOn 38 = .ok (.aload_n 0, 1) := by decide +kernel
theorem dX0_goOn_39 : decode cX0_goOn 39 = .ok (.getfield 13, 3) := by decide +kernel
theorem dX0_goOn_42 : decode cX0_goOn 42 = .ok (.getfield 45, 3) := by decide +kernel
theorem dX0_goOn_45 : decode cX0_goOn 45 = .ok (.invokevirtual 49, 3) := by decide +kernel
theorem dX0_goOn_48 : decode cX0_goOn 48 = .ok (.aload_n 0, 1) := by decide +kernel
theorem dX0_goOn_49 : decode cX0_goOn 49 = .ok (.getfield 13, 3) := by decide +kernel
theorem dX0_goOn_52 : decode cX0_goOn 52 = .ok (.dup, 1) := by decide +kernel
theorem dX0_goOn_53 : decode cX0_goOn 53 = .ok (.getfield 41, 3) := by decide +kernel
theorem dX0_goOn_56 : decode cX0_goOn 56 = .ok (.iconst 1, 1) := by decide +kernel
theorem dX0_goOn_57 : decode cX0_goOn 57 = .ok (.iadd, 1) := by decide +kernel
theorem dX0_goOn_58 : decode cX0_goOn 58 = .ok (.putfield 41, 3) := by decide +kernel
theorem dX0_goOn_61 : decode cX0_goOn 61 = .ok (.iinc 3 1, 3) := by decide +kernel
theorem dX0_goOn_64 : decode cX0_goOn 64 = .ok (.goto (-60), 3) := by decide +kernel
theorem dX0_goOn_67 : decode cX0_goOn 67 = .ok (.iload_n 2, 1) := by decide +kernel
theorem dX0_goOn_68 : decode cX0_goOn 68 = .ok (.ireturn, 1) := by decide +kernel
theorem dX0_followOrders_0 : decode cX0_followOrders 0 = .ok (.iconst 0, 1) := by decide +kernel
theorem dX0_followOrders_1 : decode cX0_followOrders 1 = .ok (.istore_n 1, 1) := by decide +kernel
theorem dX0_followOrders_2 : decode cX0_followOrders 2 = .ok (.iconst 0, 1) := by decide +kernel
theorem dX0_followOrders_3 : decode cX0_followOrders 3 = .ok (.istore_n 2, 1) := by decide +kernel
theorem dX0_followOrders_4 : decode cX0_followOrders 4 = .ok (.iload_n 2, 1) := by decide +kernel
theorem dX0_followOrders_5 : decode cX0_followOrders 5 = .ok (.aload_n 0, 1) := by decide +kernel
theorem dX0_followOrders_6 : decode cX0_followOrders 6 = .ok (.getfield 7, 3) := by decide +kernel
theorem dX0_followOrders_9 : decode cX0_followOrders 9 = .ok (.getfield 54, 3) := by decide +kernel
theorem dX0_followOrders_12 : decode cX0_followOrders 12 = .ok (.if_icmp .ge 25, 3) := by decide +kernel
theorem dX0_followOrders_15 : decode cX0_followOrders 15 = .ok (.aload_n 0, 1) := by decide +kernel
theorem dX0_followOrders_16 : decode cX0_followOrders 16 = .ok (.iload_n 2, 1) := by decide +kernel
theorem dX0_followOrders_17 : decode cX0_followOrders 17 = .ok (.invokevirtual 57, 3) := by decide +kernel
theorem dX0_followOrders_20 : decode cX0_followOrders 20 = .ok (.ifCond .eq 11, 3) := by decide +kernel
theorem dX0_followOrders_23 : decode cX0_followOrders 23 = .ok (.aload_n 0, 1) := by decide +kernel
theorem dX0_followOrders_24 : decode cX0_followOrders 24 = .ok (.iload_n 2, 1) := by decide +kernel
theorem dX0_followOrders_25 : decode cX0_followOrders 25 = .ok (.invokevirtual 61, 3) := by decide +kernel
theorem dX0_followOrders_28 : decode cX0_followOrders 28 = .ok (.iinc 1 1, 3) := by decide +kernel
theorem dX0_followOrders_31 : decode cX0_followOrders 31 = .ok (.iinc 2 1, 3) := by decide +kernel
theorem dX0_followOrders_34 : decode cX0_followOrders 34 = .ok (.goto (-30), 3) := by decide +kernel
theorem dX0_followOrders_37 : decode cX0_followOrders 37 = .ok (.iload_n 1, 1) := by decide +kernel
theorem dX0_followOrders_38 : decode cX0_followOrders 38 = .ok (.ireturn, 1) := by decide +kernel
theorem dX0_wouldCarryOut_0 : decode cX0_wouldCarryOut 0 = .ok (.aload_n 0, 1) := by decide +kernel
theorem dX0_wouldCarryOut_1 : decode cX0_wouldCarryOut 1 = .ok (.getfield 7, 3) := by decide +kernel
theorem dX0_wouldCarryOut_4 : decode cX0_wouldCarryOut 4 = .ok (.getfield 65, 3) := by decide +kernel
theorem dX0_wouldCarryOut_7 : decode cX0_wouldCarryOut 7 = .ok (.iload_n 1, 1) := by decide +kernel
theorem dX0_wouldCarryOut_8 : decode cX0_wouldCarryOut 8 = .ok (.invokevirtual 69, 3) := by decide +kernel
theorem dX0_wouldCarryOut_11 : decode cX0_wouldCarryOut 11 = .ok (.istore_n 2, 1) := by decide +kernel
theorem dX0_wouldCarryOut_12 : decode cX0_wouldCarryOut 12 = .ok (.aload_n 0, 1) := by decide +kernel
theorem dX0_wouldCarryOut_13 : decode cX0_wouldCarryOut 13 = .ok (.getfield 7, 3) := by decide +kernel
theorem dX0_wouldCarryOut_16 : decode cX0_wouldCarryOut 16 = .ok (.getfield 75, 3) := by decide +kernel
theorem dX0_wouldCarryOut_19 : decode cX0_wouldCarryOut 19 = .ok (.iload_n 1, 1) := by decide +kernel
theorem dX0_wouldCarryOut_20 : decode cX0_wouldCarryOut 20 = .ok (.invokevirtual 69, 3) := by decide +kernel
theorem dX0_wouldCarryOut_23 : decode cX0_wouldCarryOut 23 = .ok (.istore_n 3, 1) := by decide +kernel
theorem dX0_wouldCarryOut_24 : decode cX0_wouldCarryOut 24 = .ok (.iload_n 2, 1) := by decide +kernel
theorem dX0_wouldCarryOut_25 : decode cX0_wouldCarryOut 25 = .ok (.iload_n 3, 1) := by decide +kernel
theorem dX0_wouldCarryOut_26 : decode cX0_wouldCarryOut 26 = .ok (.if_icmp .ge 17, 3) := by decide +kernel
theorem dX0_wouldCarryOut_29 : decode cX0_wouldCarryOut 29 = .ok (.aload_n 0, 1) := by decide +kernel
theorem dX0_wouldCarryOut_30 : decode cX0_wouldCarryOut 30 = .ok (.getfield 28, 3) := by decide +kernel
theorem dX0_wouldCarryOut_33 : decode cX0_wouldCarryOut 33 = .ok (.iload_n 2, 1) := by decide +kernel
theorem dX0_wouldCarryOut_34 : decode cX0_wouldCarryOut 34 = .ok (.iload_n 3, 1) := by decide +kernel
theorem dX0_wouldCarryOut_35 : decode cX0_wouldCarryOut 35 = .ok (.invokevirtual 78, 3) := by decide +kernel
theorem dX0_wouldCarryOut_38 : decode cX0_wouldCarryOut 38 = .ok (.ifCond .ne 5, 3) := by decide +kernel
theorem dX0_wouldCarryOut_41 : decode cX0_wouldCarryOut 41 = .ok (.iconst 0, 1) := by decide +kernel
theorem dX0_wouldCarryOut_42 : decode cX0_wouldCarryOut 42 = .ok (.ireturn, 1) := by decide +kernel
theorem dX0_wouldCarryOut_43 : decode cX0_wouldCarryOut 43 = .ok (.aload_n 0, 1) := by decide +kernel
theorem dX0_wouldCarryOut_44 : decode cX0_wouldCarryOut 44 = .ok (.getfield 28, 3) := by decide +kernel
theorem dX0_wouldCarryOut_47 : decode cX0_wouldCarryOut 47 = .ok (.aload_n 0, 1) := by decide +kernel
theorem dX0_wouldCarryOut_48 : decode cX0_wouldCarryOut 48 = .ok (.getfield 7, 3) := by decide +kernel
theorem dX0_wouldCarryOut_51 : decode cX0_wouldCarryOut 51 = .ok (.getfield 82, 3) := by decide +kernel
theorem dX0_wouldCarryOut_54 : decode cX0_wouldCarryOut 54 = .ok (.iload_n 1, 1) := by decide +kernel
theorem dX0_wouldCarryOut_55 : decode cX0_wouldCarryOut 55 = .ok (.invokevirtual 69, 3) := by decide +kernel
theorem dX0_wouldCarryOut_58 : decode cX0_wouldCarryOut 58 = .ok (.iload_n 2, 1) := by decide +kernel
theorem dX0_wouldCarryOut_59 : decode cX0_wouldCarryOut 59 = .ok (.invokevirtual 78, 3) := by decide +kernel
theorem dX0_wouldCarryOut_62 : decode cX0_wouldCarryOut 62 = .ok (.istore 4, 2) := by decide +kernel
theorem dX0_wouldCarryOut_64 : decode cX0_wouldCarryOut 64 = .ok (.aload_n 0, 1) := by decide +kernel
theorem dX0_wouldCarryOut_65 : decode cX0_wouldCarryOut 65 = .ok (.getfield 7, 3) := by decide +kernel
theorem dX0_wouldCarryOut_68 : decode cX0_wouldCarryOut 68 = .ok (.getfield 85, 3) := by decide +kernel
theorem dX0_wouldCarryOut_71 : decode cX0_wouldCarryOut 71 = .ok (.iload_n 1, 1) := by decide +kernel
theorem dX0_wouldCarryOut_72 : decode cX0_wouldCarryOut 72 = .ok (.invokevirtual 69, 3) := by decide +kernel
theorem dX0_wouldCarryOut_75 : decode cX0_wouldCarryOut 75 = .ok (.istore 5, 2) := by decide +kernel
theorem dX0_wouldCarryOut_77 : decode cX0_wouldCarryOut 77 = .ok (.aload_n 0, 1) := by decide +kernel
theorem dX0_wouldCarryOut_78 : decode cX0_wouldCarryOut 78 = .ok (.getfield 7, 3) := by decide +kernel
theorem dX0_wouldCarryOut_81 : decode cX0_wouldCarryOut 81 = .ok (.getfield 88, 3) := by decide +kernel
theorem dX0_wouldCarryOut_84 : decode cX0_wouldCarryOut 84 = .ok (.iload_n 1, 1) := by decide +kernel
theorem dX0_wouldCarryOut_85 : decode cX0_wouldCarryOut 85 = .ok (.invokevirtual 69, 3) := by decide +kernel
theorem dX0_wouldCarryOut_88 : decode cX0_wouldCarryOut 88 = .ok (.istore 6, 2) := by decide +kernel
theorem dX0_wouldCarryOut_90 : decode cX0_wouldCarryOut 90 = .ok (.aload_n 0, 1) := by decide +kernel
theorem dX0_wouldCarryOut_91 : decode cX0_wouldCarryOut 91 = .ok (.getfield 7, 3) := by decide +kernel
theorem dX0_wouldCarryOut_94 : decode cX0_wouldCarryOut 94 = .ok (.getfield 91, 3) := by decide +kernel
theorem dX0_wouldCarryOut_97 : decode cX0_wouldCarryOut 97 = .ok (.iload_n 1, 1) := by decide +kernel
theorem dX0_wouldCarryOut_98 : decode cX0_wouldCarryOut 98 = .ok (.invokevirtual 69, 3) := by decide +kernel
theorem dX0_wouldCarryOut_101 : decode cX0_wouldCarryOut 101 = .ok (.lookupswitch 47 #[(0, 27), (1, 36)], 27) := by decide +kernel
theorem dX0_wouldCarryOut_128 : decode cX0_wouldCarryOut 128 = .ok (.aload_n 0, 1) := by decide +kernel
theorem dX0_wouldCarryOut_129 : decode cX0_wouldCarryOut 129 = .ok (.iload 5, 2) := by decide +kernel
theorem dX0_wouldCarryOut_131 : decode cX0_wouldCarryOut 131 = .ok (.iload 6, 2) := by decide +kernel
theorem dX0_wouldCarryOut_133 : decode cX0_wouldCarryOut 133 = .ok (.invokevirtual 94, 3) := by decide +kernel
theorem dX0_wouldCarryOut_136 : decode cX0_wouldCarryOut 136 = .ok (.ireturn, 1) := by decide +kernel
theorem dX0_wouldCarryOut_137 : decode cX0_wouldCarryOut 137 = .ok (.aload_n 0, 1) := by decide +kernel
theorem dX0_wouldCarryOut_138 : decode cX0_wouldCarryOut 138 = .ok (.iload 5, 2) := by decide +kernel
theorem dX0_wouldCarryOut_140 : decode cX0_wouldCarryOut 140 = .ok (.iload 6, 2) := by decide +kernel
theorem dX0_wouldCarryOut_142 : decode cX0_wouldCarryOut 142 = .ok (.iload 4, 2) := by decide +kernel
theorem dX0_wouldCarryOut_144 : decode cX0_wouldCarryOut 144 = .ok (.invokevirtual 98, 3) := by decide +kernel
theorem dX0_wouldCarryOut_147 : decode cX0_wouldCarryOut 147 = .ok (.ireturn, 1) := by decide +kernel
theorem dX0_wouldCarryOut_148 : decode cX0_wouldCarryOut 148 = .ok (.aload_n 0, 1) := by decide +kernel
theorem dX0_wouldCarryOut_149 : decode cX0_wouldCarryOut 149 = .ok (.iload 5, 2) := by decide +kernel
theorem dX0_wouldCarryOut_151 : decode cX0_wouldCarryOut 151 = .ok (.iload 6, 2) := by decide +kernel
theorem dX0_wouldCarryOut_153 : decode cX0_wouldCarryOut 153 = .ok (.iload 4, 2) := by decide +kernel
theorem dX0_wouldCarryOut_155 : decode cX0_wouldCarryOut 155 = .ok (.invokevirtual 102, 3) := by decide +kernel
theorem dX0_wouldCarryOut_158 : decode cX0_wouldCarryOut 158 = .ok (.iconst 1, 1) := by decide +kernel
theorem dX0_wouldCarryOut_159 : decode cX0_wouldCarryOut 159 = .ok (.if_icmp .lt 7, 3) := by decide +kernel
theorem dX0_wouldCarryOut_162 : decode cX0_wouldCarryOut 162 = .ok (.iconst 1, 1) := by decide +kernel
theorem dX0_wouldCarryOut_163 : decode cX0_wouldCarryOut 163 = .ok (.goto 4, 3) := by decide +kernel
theorem dX0_wouldCarryOut_166 : decode cX0_wouldCarryOut 166 = .ok (.iconst 0, 1) := by decide +kernel
theorem dX0_wouldCarryOut_167 : decode cX0_wouldCarryOut 167 = .ok (.ireturn, 1) := by decide +kernel
theorem dX0_carryOut_0 : decode cX0_carryOut 0 = .ok (.aload_n 0, 1) := by decide +kernel
theorem dX0_carryOut_1 : decode cX0_carryOut 1 = .ok (.getfield 28, 3) := by decide +kernel
theorem dX0_carryOut_4 : decode cX0_carryOut 4 = .ok (.aload_n 0, 1) := by decide +kernel
theorem dX0_carryOut_5 : decode cX0_carryOut 5 = .ok (.getfield 7, 3) := by decide +kernel
theorem dX0_carryOut_8 : decode cX0_carryOut 8 = .ok (.getfield 82, 3) := by decide +kernel
theorem dX0_carryOut_11 : decode cX0_carryOut 11 = .ok (.iload_n 1, 1) := by decide +kernel
theorem dX0_carryOut_12 : decode cX0_carryOut 12 = .ok (.invokevirtual 69, 3) := by decide +kernel
theorem dX0_carryOut_15 : decode cX0_carryOut 15 = .ok (.aload_n 0, 1) := by decide +kernel
theorem dX0_carryOut_16 : decode cX0_carryOut 16 = .ok (.getfield 7, 3) := by decide +kernel
theorem dX0_carryOut_19 : decode cX0_carryOut 19 = .ok (.getfield 65, 3) := by decide +kernel
theorem dX0_carryOut_22 : decode cX0_carryOut 22 = .ok (.iload_n 1, 1) := by decide +kernel
theorem dX0_carryOut_23 : decode cX0_carryOut 23 = .ok (.invokevirtual 69, 3) := by decide +kernel
theorem dX0_carryOut_26 : decode cX0_carryOut 26 = .ok (.invokevirtual 78, 3) := by decide +kernel
theorem dX0_carryOut_29 : decode cX0_carryOut 29 = .ok (.istore_n 2, 1) := by decide +kernel
theorem dX0_carryOut_30 : decode cX0_carryOut 30 = .ok (.aload_n 0, 1) := by decide +kernel
theorem dX0_carryOut_31 : decode cX0_carryOut 31 = .ok (.getfield 7, 3) := by decide +kernel
theorem dX0_carryOut_34 : decode cX0_carryOut 34 = .ok (.getfield 85, 3) := by decide +kernel
theorem dX0_carryOut_37 : decode cX0_carryOut 37 = .ok (.iload_n 1, 1) := by decide +kernel
theorem dX0_carryOut_38 : decode cX0_carryOut 38 = .ok (.invokevirtual 69, 3) := by decide +kernel
theorem dX0_carryOut_41 : decode cX0_carryOut 41 = .ok (.istore_n 3, 1) := by decide +kernel
theorem dX0_carryOut_42 : decode cX0_carryOut 42 = .ok (.aload_n 0, 1) := by decide +kernel
theorem dX0_carryOut_43 : decode cX0_carryOut 43 = .ok (.getfield 7, 3) := by decide +kernel
theorem dX0_carryOut_46 : decode cX0_carryOut 46 = .ok (.getfield 88, 3) := by decide +kernel
theorem dX0_carryOut_49 : decode cX0_carryOut 49 = .ok (.iload_n 1, 1) := by decide +kernel
theorem dX0_carryOut_50 : decode cX0_carryOut 50 = .ok (.invokevirtual 69, 3) := by decide +kernel
theorem dX0_carryOut_53 : decode cX0_carryOut 53 = .ok (.istore 4, 2) := by decide +kernel
theorem dX0_carryOut_55 : decode cX0_carryOut 55 = .ok (.aload_n 0, 1) := by decide +kernel
theorem dX0_carryOut_56 : decode cX0_carryOut 56 = .ok (.getfield 7, 3) := by decide +kernel
theorem dX0_carryOut_59 : decode cX0_carryOut 59 = .ok (.getfield 91, 3) := by decide +kernel
theorem dX0_carryOut_62 : decode cX0_carryOut 62 = .ok (.iload_n 1, 1) := by decide +kernel
theorem dX0_carryOut_63 : decode cX0_carryOut 63 = .ok (.invokevirtual 69, 3) := by decide +kernel
theorem dX0_carryOut_66 : decode cX0_carryOut 66 = .ok (.lookupswitch 47 #[(0, 26), (1, 36)], 26) := by decide +kernel
theorem dX0_carryOut_92 : decode cX0_carryOut 92 = .ok (.aload_n 0, 1) := by decide +kernel
theorem dX0_carryOut_93 : decode cX0_carryOut 93 = .ok (.iload_n 3, 1) := by decide +kernel
theorem dX0_carryOut_94 : decode cX0_carryOut 94 = .ok (.iload 4, 2) := by decide +kernel
theorem dX0_carryOut_96 : decode cX0_carryOut 96 = .ok (.invokevirtual 106, 3) := by decide +kernel
theorem dX0_carryOut_99 : decode cX0_carryOut 99 = .ok (.goto 22, 3) := by decide +kernel
theorem dX0_carryOut_102 : decode cX0_carryOut 102 = .ok (.aload_n 0, 1) := by decide +kernel
theorem dX0_carryOut_103 : decode cX0_carryOut 103 = .ok (.iload_n 3, 1) := by decide +kernel
theorem dX0_carryOut_104 : decode cX0_carryOut 104 = .ok (.iload 4, 2) := by decide +kernel
theorem dX0_carryOut_106 : decode cX0_carryOut 106 = .ok (.iload_n 2, 1) := by decide +kernel
theorem dX0_carryOut_107 : decode cX0_carryOut 107 = .ok (.invokevirtual 110, 3) := by decide +kernel
theorem dX0_carryOut_110 : decode cX0_carryOut 110 = .ok (.goto 11, 3) := by decide +kernel
theorem dX0_carryOut_113 : decode cX0_carryOut 113 = .ok (.aload_n 0, 1) := by decide +kernel
theorem dX0_carryOut_114 : decode cX0_carryOut 114 = .ok (.iload_n 3, 1) := by decide +kernel
theorem dX0_carryOut_115 : decode cX0_carryOut 115 = .ok (.iload 4, 2) := by decide +kernel
theorem dX0_carryOut_117 : decode cX0_carryOut 117 = .ok (.iload_n 2, 1) := by decide +kernel
theorem dX0_carryOut_118 : decode cX0_carryOut 118 = .ok (.invokevirtual 114, 3) := by decide +kernel
theorem dX0_carryOut_121 : decode cX0_carryOut 121 = .ok (.aload_n 0, 1) := by decide +kernel
theorem dX0_carryOut_122 : decode cX0_carryOut 122 = .ok (.getfield 13, 3) := by decide +kernel
theorem dX0_carryOut_125 : decode cX0_carryOut 125 = .ok (.getfield 117, 3) := by decide +kernel
theorem dX0_carryOut_128 : decode cX0_carryOut 128 = .ok (.iload_n 1, 1) := by decide +kernel
theorem dX0_carryOut_129 : decode cX0_carryOut 129 = .ok (.iconst 1, 1) := by decide +kernel
theorem dX0_carryOut_130 : decode cX0_carryOut 130 = .ok (.invokevirtual 120, 3) := by decide +kernel
theorem dX0_carryOut_133 : decode cX0_carryOut 133 = .ok (.return_, 1) := by decide +kernel
theorem dX0_canWeigh_0 : decode cX0_canWeigh 0 = .ok (.aload_n 0, 1) := by decide +kernel
theorem dX0_canWeigh_1 : decode cX0_canWeigh 1 = .ok (.getfield 13, 3) := by decide +kernel
theorem dX0_canWeigh_4 : decode cX0_canWeigh 4 = .ok (.getfield 123, 3) := by decide +kernel
theorem dX0_canWeigh_7 : decode cX0_canWeigh 7 = .ok (.aload_n 0, 1) := by decide +kernel
theorem dX0_canWeigh_8 : decode cX0_canWeigh 8 = .ok (.getfield 13, 3) := by decide +kernel
theorem dX0_canWeigh_11 : decode cX0_canWeigh 11 = .ok (.getfield 126, 3) := by decide +kernel
theorem dX0_canWeigh_14 : decode cX0_canWeigh 14 = .ok (.iload_n 1, 1) := by decide +kernel
theorem dX0_canWeigh_15 : decode cX0_canWeigh 15 = .ok (.invokevirtual 69, 3) := by decide +kernel
theorem dX0_canWeigh_18 : decode cX0_canWeigh 18 = .ok (.invokevirtual 69, 3) := by decide +kernel
theorem dX0_canWeigh_21 : decode cX0_canWeigh 21 = .ok (.aload_n 0, 1) := by decide +kernel
theorem dX0_canWeigh_22 : decode cX0_canWeigh 22 = .ok (.getfield 7, 3) := by decide +kernel
theorem dX0_canWeigh_25 : decode cX0_canWeigh 25 = .ok (.getfield 129, 3) := by decide +kernel
theorem dX0_canWeigh_28 : decode cX0_canWeigh 28 = .ok (.iload_n 2, 1) := by decide +kernel
theorem dX0_canWeigh_29 : decode cX0_canWeigh 29 = .ok (.invokevirtual 69, 3) := by decide +kernel
theorem dX0_canWeigh_32 : decode cX0_canWeigh 32 = .ok (.if_icmp .lt 7, 3) := by decide +kernel
theorem dX0_canWeigh_35 : decode cX0_canWeigh 35 = .ok (.iconst 1, 1) := by decide +kernel
theorem dX0_canWeigh_36 : decode cX0_canWeigh 36 = .ok (.goto 4, 3) := by decide +kernel
theorem dX0_canWeigh_39 : decode cX0_canWeigh 39 = .ok (.iconst 0, 1) := by decide +kernel
theorem dX0_canWeigh_40 : decode cX0_canWeigh 40 = .ok (.ireturn, 1) := by decide +kernel
theorem dX0_weigh_0 : decode cX0_weigh 0 = .ok (.aload_n 0, 1) := by decide +kernel
theorem dX0_weigh_1 : decode cX0_weigh 1 = .ok (.getfield 7, 3) := by decide +kernel
theorem dX0_weigh_4 : decode cX0_weigh 4 = .ok (.getfield 129, 3) := by decide +kernel
theorem dX0_weigh_7 : decode cX0_weigh 7 = .ok (.iload_n 2, 1) := by decide +kernel
theorem dX0_weigh_8 : decode cX0_weigh 8 = .ok (.invokevirtual 69, 3) := by decide +kernel
theorem dX0_weigh_11 : decode cX0_weigh 11 = .ok (.istore_n 3, 1) := by decide +kernel
theorem dX0_weigh_12 : decode cX0_weigh 12 = .ok (.aload_n 0, 1) := by decide +kernel
theorem dX0_weigh_13 : decode cX0_weigh 13 = .ok (.getfield 13, 3) := by decide +kernel
theorem dX0_weigh_16 : decode cX0_weigh 16 = .ok (.getfield 132, 3) := by decide +kernel
theorem dX0_weigh_19 : decode cX0_weigh 19 = .ok (.iload_n 1, 1) := by decide +kernel
theorem dX0_weigh_20 : decode cX0_weigh 20 = .ok (.invokevirtual 69, 3) := by decide +kernel
theorem dX0_weigh_23 : decode cX0_weigh 23 = .ok (.istore 4, 2) := by decide +kernel
theorem dX0_weigh_25 : decode cX0_weigh 25 = .ok (.aload_n 0, 1) := by decide +kernel
theorem dX0_weigh_26 : decode cX0_weigh 26 = .ok (.getfield 13, 3) := by decide +kernel
theorem dX0_weigh_29 : decode cX0_weigh 29 = .ok (.getfield 123, 3) := by decide +kernel
theorem dX0_weigh_32 : decode cX0_weigh 32 = .ok (.aload_n 0, 1) := by decide +kernel
theorem dX0_weigh_33 : decode cX0_weigh 33 = .ok (.getfield 13, 3) := by decide +kernel
theorem dX0_weigh_36 : decode cX0_weigh 36 = .ok (.getfield 126, 3) := by decide +kernel
theorem dX0_weigh_39 : decode cX0_weigh 39 = .ok (.iload_n 1, 1) := by decide +kernel
theorem dX0_weigh_40 : decode cX0_weigh 40 = .ok (.invokevirtual 69, 3) := by decide +kernel
theorem dX0_weigh_43 : decode cX0_weigh 43 = .ok (.iload_n 3, 1) := by decide +kernel
theorem dX0_weigh_44 : decode cX0_weigh 44 = .ok (.ineg, 1) := by decide +kernel
theorem dX0_weigh_45 : decode cX0_weigh 45 = .ok (.invokevirtual 120, 3) := by decide +kernel
theorem dX0_weigh_48 : decode cX0_weigh 48 = .ok (.aload_n 0, 1) := by decide +kernel
theorem dX0_weigh_49 : decode cX0_weigh 49 = .ok (.getfield 13, 3) := by decide +kernel
theorem dX0_weigh_52 : decode cX0_weigh 52 = .ok (.getfield 135, 3) := by decide +kernel
theorem dX0_weigh_55 : decode cX0_weigh 55 = .ok (.iload_n 2, 1) := by decide +kernel
theorem dX0_weigh_56 : decode cX0_weigh 56 = .ok (.iload_n 3, 1) := by decide +kernel
theorem dX0_weigh_57 : decode cX0_weigh 57 = .ok (.invokevirtual 120, 3) := by decide +kernel
theorem dX0_weigh_60 : decode cX0_weigh 60 = .ok (.aload_n 0, 1) := by decide +kernel
theorem dX0_weigh_61 : decode cX0_weigh 61 = .ok (.getfield 13, 3) := by decide +kernel
theorem dX0_weigh_64 : decode cX0_weigh 64 = .ok (.iload_n 1, 1) := by decide +kernel
theorem dX0_weigh_65 : decode cX0_weigh 65 = .ok (.iload_n 2, 1) := by decide +kernel
theorem dX0_weigh_66 : decode cX0_weigh 66 = .ok (.iload 4, 2) := by decide +kernel
theorem dX0_weigh_68 : decode cX0_weigh 68 = .ok (.iload 4, 2) := by decide +kernel
theorem dX0_weigh_70 : decode cX0_weigh 70 = .ok (.aload_n 0, 1) := by decide +kernel
theorem dX0_weigh_71 : decode cX0_weigh 71 = .ok (.getfield 7, 3) := by decide +kernel
theorem dX0_weigh_74 : decode cX0_weigh 74 = .ok (.getfield 138, 3) := by decide +kernel
theorem dX0_weigh_77 : decode cX0_weigh 77 = .ok (.iload_n 2, 1) := by decide +kernel
theorem dX0_weigh_78 : decode cX0_weigh 78 = .ok (.invokevirtual 69, 3) := by decide +kernel
theorem dX0_weigh_81 : decode cX0_weigh 81 = .ok (.imul, 1) := by decide +kernel
theorem dX0_weigh_82 : decode cX0_weigh 82 = .ok (.bipush 100, 2) := by decide +kernel
theorem dX0_weigh_84 : decode cX0_weigh 84 = .ok (.idiv, 1) := by decide +kernel
theorem dX0_weigh_85 : decode cX0_weigh 85 = .ok (.isub, 1) := by decide +kernel
theorem dX0_weigh_86 : decode cX0_weigh 86 = .ok (.invokevirtual 141, 3) := by decide +kernel
theorem dX0_weigh_89 : decode cX0_weigh 89 = .ok (.aload_n 0, 1) := by decide +kernel
theorem dX0_weigh_90 : decode cX0_weigh 90 = .ok (.getfield 13, 3) := by decide +kernel
theorem dX0_weigh_93 : decode cX0_weigh 93 = .ok (.dup, 1) := by decide +kernel
theorem dX0_weigh_94 : decode cX0_weigh 94 = .ok (.getfield 144, 3) := by decide +kernel
theorem dX0_weigh_97 : decode cX0_weigh 97 = .ok (.iconst 1, 1) := by decide +kernel
theorem dX0_weigh_98 : decode cX0_weigh 98 = .ok (.iadd, 1) := by decide +kernel
theorem dX0_weigh_99 : decode cX0_weigh 99 = .ok (.putfield 144, 3) := by decide +kernel
theorem dX0_weigh_102 : decode cX0_weigh 102 = .ok (.return_, 1) := by decide +kernel
theorem dX0_canSell_0 : decode cX0_canSell 0 = .ok (.aload_n 0, 1) := by decide +kernel
theorem dX0_canSell_1 : decode cX0_canSell 1 = .ok (.getfield 13, 3) := by decide +kernel
theorem dX0_canSell_4 : decode cX0_canSell 4 = .ok (.iload_n 1, 1) := by decide +kernel
theorem dX0_canSell_5 : decode cX0_canSell 5 = .ok (.invokevirtual 147, 3) := by decide +kernel
theorem dX0_canSell_8 : decode cX0_canSell 8 = .ok (.ifCond .eq 18, 3) := by decide +kernel
theorem dX0_canSell_11 : decode cX0_canSell 11 = .ok (.aload_n 0, 1) := by decide +kernel
theorem dX0_canSell_12 : decode cX0_canSell 12 = .ok (.getfield 13, 3) := by decide +kernel
theorem dX0_canSell_15 : decode cX0_canSell 15 = .ok (.getfield 126, 3) := by decide +kernel
theorem dX0_canSell_18 : decode cX0_canSell 18 = .ok (.iload_n 1, 1) := by decide +kernel
theorem dX0_canSell_19 : decode cX0_canSell 19 = .ok (.invokevirtual 69, 3) := by decide +kernel
theorem dX0_canSell_22 : decode cX0_canSell 22 = .ok (.iload_n 2, 1) := by decide +kernel
theorem dX0_canSell_23 : decode cX0_canSell 23 = .ok (.if_icmp .ne 5, 3) := by decide +kernel
theorem dX0_canSell_26 : decode cX0_canSell 26 = .ok (.iconst 0, 1) := by decide +kernel
theorem dX0_canSell_27 : decode cX0_canSell 27 = .ok (.ireturn, 1) := by decide +kernel
theorem dX0_canSell_28 : decode cX0_canSell 28 = .ok (.iconst 0, 1) := by decide +kernel
theorem dX0_canSell_29 : decode cX0_canSell 29 = .ok (.aload_n 0, 1) := by decide +kernel
theorem dX0_canSell_30 : decode cX0_canSell 30 = .ok (.iload_n 1, 1) := by decide +kernel
theorem dX0_canSell_31 : decode cX0_canSell 31 = .ok (.iload_n 3, 1) := by decide +kernel
theorem dX0_canSell_32 : decode cX0_canSell 32 = .ok (.invokevirtual 150, 3) := by decide +kernel
theorem dX0_canSell_35 : decode cX0_canSell 35 = .ok (.aload_n 0, 1) := by decide +kernel
theorem dX0_canSell_36 : decode cX0_canSell 36 = .ok (.getfield 13, 3) := by decide +kernel
theorem dX0_canSell_39 : decode cX0_canSell 39 = .ok (.getfield 123, 3) := by decide +kernel
theorem dX0_canSell_42 : decode cX0_canSell 42 = .ok (.iload_n 2, 1) := by decide +kernel
theorem dX0_canSell_43 : decode cX0_canSell 43 = .ok (.invokevirtual 69, 3) := by decide +kernel
theorem dX0_canSell_46 : decode cX0_canSell 46 = .ok (.isub, 1) := by decide +kernel
theorem dX0_canSell_47 : decode cX0_canSell 47 = .ok (.invokestatic 153, 3) := by decide +kernel
theorem dX0_canSell_50 : decode cX0_canSell 50 = .ok (.istore 4, 2) := by decide +kernel
theorem dX0_canSell_52 : decode cX0_canSell 52 = .ok (.aload_n 0, 1) := by decide +kernel
theorem dX0_canSell_53 : decode cX0_canSell 53 = .ok (.getfield 13, 3) := by decide +kernel
theorem dX0_canSell_56 : decode cX0_canSell 56 = .ok (.getfield 45, 3) := by decide +kernel
theorem dX0_canSell_59 : decode cX0_canSell 59 = .ok (.iload_n 2, 1) := by decide +kernel
theorem dX0_canSell_60 : decode cX0_canSell 60 = .ok (.invokevirtual 158, 3) := by decide +kernel
theorem dX0_canSell_63 : decode cX0_canSell 63 = .ok (.iload 4, 2) := by decide +kernel
theorem dX0_canSell_65 : decode cX0_canSell 65 = .ok (.iadd, 1) := by decide +kernel
theorem dX0_canSell_66 : decode cX0_canSell 66 = .ok (.aload_n 0, 1) := by decide +kernel
theorem dX0_canSell_67 : decode cX0_canSell 67 = .ok (.getfield 7, 3) := by decide +kernel
theorem dX0_canSell_70 : decode cX0_canSell 70 = .ok (.getfield 161, 3) := by decide +kernel
theorem dX0_canSell_73 : decode cX0_canSell 73 = .ok (.iload_n 2, 1) := by decide +kernel
theorem dX0_canSell_74 : decode cX0_canSell 74 = .ok (.invokevirtual 69, 3) := by decide +kernel
theorem dX0_canSell_77 : decode cX0_canSell 77 = .ok (.if_icmp .gt 7, 3) := by decide +kernel
theorem dX0_canSell_80 : decode cX0_canSell 80 = .ok (.iconst 1, 1) := by decide +kernel
theorem dX0_canSell_81 : decode cX0_canSell 81 = .ok (.goto 4, 3) := by decide +kernel
theorem dX0_canSell_84 : decode cX0_canSell 84 = .ok (.iconst 0, 1) := by decide +kernel
theorem dX0_canSell_85 : decode cX0_canSell 85 = .ok (.ireturn, 1) := by decide +kernel
theorem dX0_sell_0 : decode cX0_sell 0 = .ok (.aload_n 0, 1) := by decide +kernel
theorem dX0_sell_1 : decode cX0_sell 1 = .ok (.getfield 13, 3) := by decide +kernel
theorem dX0_sell_4 : decode cX0_sell 4 = .ok (.getfield 126, 3) := by decide +kernel
theorem dX0_sell_7 : decode cX0_sell 7 = .ok (.iload_n 1, 1) := by decide +kernel
theorem dX0_sell_8 : decode cX0_sell 8 = .ok (.invokevirtual 69, 3) := by decide +kernel
theorem dX0_sell_11 : decode cX0_sell 11 = .ok (.istore 4, 2) := by decide +kernel
theorem dX0_sell_13 : decode cX0_sell 13 = .ok (.aload_n 0, 1) := by decide +kernel
theorem dX0_sell_14 : decode cX0_sell 14 = .ok (.iload_n 1, 1) := by decide +kernel
theorem dX0_sell_15 : decode cX0_sell 15 = .ok (.iload_n 3, 1) := by decide +kernel
theorem dX0_sell_16 : decode cX0_sell 16 = .ok (.invokevirtual 150, 3) := by decide +kernel
theorem dX0_sell_19 : decode cX0_sell 19 = .ok (.istore 5, 2) := by decide +kernel
theorem dX0_sell_21 : decode cX0_sell 21 = .ok (.iload 5, 2) := by decide +kernel
theorem dX0_sell_23 : decode cX0_sell 23 = .ok (.aload_n 0, 1) := by decide +kernel
theorem dX0_sell_24 : decode cX0_sell 24 = .ok (.getfield 13, 3) := by decide +kernel
theorem dX0_sell_27 : decode cX0_sell 27 = .ok (.getfield 123, 3) := by decide +kernel
theorem dX0_sell_30 : decode cX0_sell 30 = .ok (.iload_n 2, 1) := by decide +kernel
theorem dX0_sell_31 : decode cX0_sell 31 = .ok (.invokevirtual 69, 3) := by decide +kernel
theorem dX0_sell_34 : decode cX0_sell 34 = .ok (.invokestatic 164, 3) := by decide +kernel
theorem dX0_sell_37 : decode cX0_sell 37 = .ok (.istore 6, 2) := by decide +kernel
theorem dX0_sell_39 : decode cX0_sell 39 = .ok (.aload_n 0, 1) := by decide +kernel
theorem dX0_sell_40 : decode cX0_sell 40 = .ok (.getfield 13, 3) := by decide +kernel
theorem dX0_sell_43 : decode cX0_sell 43 = .ok (.iload_n 2, 1) := by decide +kernel
theorem dX0_sell_44 : decode cX0_sell 44 = .ok (.iload 4, 2) := by decide +kernel
theorem dX0_sell_46 : decode cX0_sell 46 = .ok (.iload 6, 2) := by decide +kernel
theorem dX0_sell_48 : decode cX0_sell 48 = .ok (.invokevirtual 167, 3) := by decide +kernel
theorem dX0_sell_51 : decode cX0_sell 51 = .ok (.aload_n 0, 1) := by decide +kernel
theorem dX0_sell_52 : decode cX0_sell 52 = .ok (.getfield 13, 3) := by decide +kernel
theorem dX0_sell_55 : decode cX0_sell 55 = .ok (.getfield 45, 3) := by decide +kernel
theorem dX0_sell_58 : decode cX0_sell 58 = .ok (.iload_n 2, 1) := by decide +kernel
theorem dX0_sell_59 : decode cX0_sell 59 = .ok (.iload 4, 2) := by decide +kernel
theorem dX0_sell_61 : decode cX0_sell 61 = .ok (.iload 5, 2) := by decide +kernel
theorem dX0_sell_63 : decode cX0_sell 63 = .ok (.iload 6, 2) := by decide +kernel
theorem dX0_sell_65 : decode cX0_sell 65 = .ok (.isub, 1) := by decide +kernel
theorem dX0_sell_66 : decode cX0_sell 66 = .ok (.invokevirtual 170, 3) := by decide +kernel
theorem dX0_sell_69 : decode cX0_sell 69 = .ok (.aload_n 0, 1) := by decide +kernel
theorem dX0_sell_70 : decode cX0_sell 70 = .ok (.getfield 13, 3) := by decide +kernel
theorem dX0_sell_73 : decode cX0_sell 73 = .ok (.getfield 126, 3) := by decide +kernel
theorem dX0_sell_76 : decode cX0_sell 76 = .ok (.iload_n 1, 1) := by decide +kernel
theorem dX0_sell_77 : decode cX0_sell 77 = .ok (.iload_n 2, 1) := by decide +kernel
theorem dX0_sell_78 : decode cX0_sell 78 = .ok (.invokevirtual 173, 3) := by decide +kernel
theorem dX0_sell_81 : decode cX0_sell 81 = .ok (.aload_n 0, 1) := by decide +kernel
theorem dX0_sell_82 : decode cX0_sell 82 = .ok (.getfield 13, 3) := by decide +kernel
theorem dX0_sell_85 : decode cX0_sell 85 = .ok (.dup, 1) := by decide +kernel
theorem dX0_sell_86 : decode cX0_sell 86 = .ok (.getfield 176, 3) := by decide +kernel
theorem dX0_sell_89 : decode cX0_sell 89 = .ok (.iconst 1, 1) := by decide +kernel
theorem dX0_sell_90 : decode cX0_sell 90 = .ok (.iadd, 1) := by decide +kernel
theorem dX0_sell_91 : decode cX0_sell 91 = .ok (.putfield 176, 3) := by decide +kernel
theorem dX0_sell_94 : decode cX0_sell 94 = .ok (.return_, 1) := by decide +kernel
theorem dX0_price_0 : decode cX0_price 0 = .ok (.iconst 0, 1) := by decide +kernel
theorem dX0_price_1 : decode cX0_price 1 = .ok (.sipush 999, 3) := by decide +kernel
theorem dX0_price_4 : decode cX0_price 4 = .ok (.iload_n 2, 1) := by decide +kernel
theorem dX0_price_5 : decode cX0_price 5 = .ok (.invokestatic 164, 3) := by decide +kernel
theorem dX0_price_8 : decode cX0_price 8 = .ok (.invokestatic 153, 3) := by decide +kernel
theorem dX0_price_11 : decode cX0_price 11 = .ok (.istore_n 3, 1) := by decide +kernel
theorem dX0_price_12 : decode cX0_price 12 = .ok (.iload_n 3, 1) := by decide +kernel
theorem dX0_price_13 : decode cX0_price 13 = .ok (.aload_n 0, 1) := by decide +kernel
theorem dX0_price_14 : decode cX0_price 14 = .ok (.getfield 13, 3) := by decide +kernel
theorem dX0_price_17 : decode cX0_price 17 = .ok (.getfield 179, 3) := by decide +kernel
theorem dX0_price_20 : decode cX0_price 20 = .ok (.iload_n 1, 1) := by decide +kernel
theorem dX0_price_21 : decode cX0_price 21 = .ok (.invokevirtual 69, 3) := by decide +kernel
theorem dX0_price_24 : decode cX0_price 24 = .ok (.imul, 1) := by decide +kernel
theorem dX0_price_25 : decode cX0_price 25 = .ok (.bipush 100, 2) := by decide +kernel
theorem dX0_price_27 : decode cX0_price 27 = .ok (.idiv, 1) := by decide +kernel
theorem dX0_price_28 : decode cX0_price 28 = .ok (.ireturn, 1) := by decide +kernel
theorem dX0_due_0 : decode cX0_due 0 = .ok (.aload_n 0, 1) := by decide +kernel
theorem dX0_due_1 : decode cX0_due 1 = .ok (.getfield 13, 3) := by decide +kernel
theorem dX0_due_4 : decode cX0_due 4 = .ok (.getfield 45, 3) := by decide +kernel
theorem dX0_due_7 : decode cX0_due 7 = .ok (.iload_n 1, 1) := by decide +kernel
theorem dX0_due_8 : decode cX0_due 8 = .ok (.iload_n 2, 1) := by decide +kernel
theorem dX0_due_9 : decode cX0_due 9 = .ok (.invokevirtual 182, 3) := by decide +kernel
theorem dX0_due_12 : decode cX0_due 12 = .ok (.istore 4, 2) := by decide +kernel
theorem dX0_due_14 : decode cX0_due 14 = .ok (.iload_n 3, 1) := by decide +kernel
theorem dX0_due_15 : decode cX0_due 15 = .ok (.iload 4, 2) := by decide +kernel
theorem dX0_due_17 : decode cX0_due 17 = .ok (.aload_n 0, 1) := by decide +kernel
theorem dX0_due_18 : decode cX0_due 18 = .ok (.getfield 13, 3) := by decide +kernel
theorem dX0_due_21 : decode cX0_due 21 = .ok (.getfield 123, 3) := by decide +kernel
theorem dX0_due_24 : decode cX0_due 24 = .ok (.iload_n 1, 1) := by decide +kernel
theorem dX0_due_25 : decode cX0_due 25 = .ok (.invokevirtual 69, 3) := by decide +kernel
theorem dX0_due_28 : decode cX0_due 28 = .ok (.invokestatic 164, 3) := by decide +kernel
theorem dX0_due_31 : decode cX0_due 31 = .ok (.invokestatic 164, 3) := by decide +kernel
theorem dX0_due_34 : decode cX0_due 34 = .ok (.ireturn, 1) := by decide +kernel
theorem dX0_payBack_0 : decode cX0_payBack 0 = .ok (.aload_n 0, 1) := by decide +kernel
theorem dX0_payBack_1 : decode cX0_payBack 1 = .ok (.iload_n 1, 1) := by decide +kernel
theorem dX0_payBack_2 : decode cX0_payBack 2 = .ok (.iload_n 2, 1) := by decide +kernel
theorem dX0_payBack_3 : decode cX0_payBack 3 = .ok (.iload_n 3, 1) := by decide +kernel
theorem dX0_payBack_4 : decode cX0_payBack 4 = .ok (.invokevirtual 102, 3) := by decide +kernel
theorem dX0_payBack_7 : decode cX0_payBack 7 = .ok (.istore 4, 2) := by decide +kernel
theorem dX0_payBack_9 : decode cX0_payBack 9 = .ok (.aload_n 0, 1) := by decide +kernel
theorem dX0_payBack_10 : decode cX0_payBack 10 = .ok (.getfield 13, 3) := by decide +kernel
theorem dX0_payBack_13 : decode cX0_payBack 13 = .ok (.iload_n 1, 1) := by decide +kernel
theorem dX0_payBack_14 : decode cX0_payBack 14 = .ok (.iload_n 2, 1) := by decide +kernel
theorem dX0_payBack_15 : decode cX0_payBack 15 = .ok (.iload 4, 2) := by decide +kernel
theorem dX0_payBack_17 : decode cX0_payBack 17 = .ok (.invokevirtual 167, 3) := by decide +kernel
theorem dX0_payBack_20 : decode cX0_payBack 20 = .ok (.aload_n 0, 1) := by decide +kernel
theorem dX0_payBack_21 : decode cX0_payBack 21 = .ok (.getfield 13, 3) := by decide +kernel
theorem dX0_payBack_24 : decode cX0_payBack 24 = .ok (.getfield 45, 3) := by decide +kernel
theorem dX0_payBack_27 : decode cX0_payBack 27 = .ok (.iload_n 1, 1) := by decide +kernel
theorem dX0_payBack_28 : decode cX0_payBack 28 = .ok (.iload_n 2, 1) := by decide +kernel
theorem dX0_payBack_29 : decode cX0_payBack 29 = .ok (.iload 4, 2) := by decide +kernel
theorem dX0_payBack_31 : decode cX0_payBack 31 = .ok (.ineg, 1) := by decide +kernel
theorem dX0_payBack_32 : decode cX0_payBack 32 = .ok (.invokevirtual 170, 3) := by decide +kernel
theorem dX0_payBack_35 : decode cX0_payBack 35 = .ok (.aload_n 0, 1) := by decide +kernel
theorem dX0_payBack_36 : decode cX0_payBack 36 = .ok (.getfield 13, 3) := by decide +kernel
theorem dX0_payBack_39 : decode cX0_payBack 39 = .ok (.dup, 1) := by decide +kernel
theorem dX0_payBack_40 : decode cX0_payBack 40 = .ok (.getfield 185, 3) := by decide +kernel
theorem dX0_payBack_43 : decode cX0_payBack 43 = .ok (.iconst 1, 1) := by decide +kernel
theorem dX0_payBack_44 : decode cX0_payBack 44 = .ok (.iadd, 1) := by decide +kernel
theorem dX0_payBack_45 : decode cX0_payBack 45 = .ok (.putfield 185, 3) := by decide +kernel
theorem dX0_payBack_48 : decode cX0_payBack 48 = .ok (.return_, 1) := by decide +kernel
theorem dX1_init_0 : decode cX1_init 0 = .ok (.aload_n 0, 1) := by decide +kernel
theorem dX1_init_1 : decode cX1_init 1 = .ok (.invokespecial 3, 3) := by decide +kernel
theorem dX1_init_4 : decode cX1_init 4 = .ok (.aload_n 0, 1) := by decide +kernel
theorem dX1_init_5 : decode cX1_init 5 = .ok (.new 9, 3) := by decide +kernel
theorem dX1_init_8 : decode cX1_init 8 = .ok (.dup, 1) := by decide +kernel
theorem dX1_init_9 : decode cX1_init 9 = .ok (.bipush 36, 2) := by decide +kernel
theorem dX1_init_11 : decode cX1_init 11 = .ok (.invokespecial 13, 3) := by decide +kernel
theorem dX1_init_14 : decode cX1_init 14 = .ok (.putfield 16, 3) := by decide +kernel
theorem dX1_init_17 : decode cX1_init 17 = .ok (.aload_n 0, 1) := by decide +kernel
theorem dX1_init_18 : decode cX1_init 18 = .ok (.new 9, 3) := by decide +kernel
theorem dX1_init_21 : decode cX1_init 21 = .ok (.dup, 1) := by decide +kernel
theorem dX1_init_22 : decode cX1_init 22 = .ok (.bipush 6, 2) := by decide +kernel
theorem dX1_init_24 : decode cX1_init 24 = .ok (.invokespecial 13, 3) := by decide +kernel
theorem dX1_init_27 : decode cX1_init 27 = .ok (.putfield 20, 3) := by decide +kernel
theorem dX1_init_30 : decode cX1_init 30 = .ok (.return_, 1) := by decide +kernel
theorem dX1_forget_0 : decode cX1_forget 0 = .ok (.aload_n 0, 1) := by decide +kernel
theorem dX1_forget_1 : decode cX1_forget 1 = .ok (.getfield 16, 3) := by decide +kernel
theorem dX1_forget_4 : decode cX1_forget 4 = .ok (.iconst 0, 1) := by decide +kernel
theorem dX1_forget_5 : decode cX1_forget 5 = .ok (.invokevirtual 23, 3) := by decide +kernel
theorem dX1_forget_8 : decode cX1_forget 8 = .ok (.return_, 1) := by decide +kernel
theorem dX1_copyFrom_0 : decode cX1_copyFrom 0 = .ok (.aload_n 0, 1) := by decide +kernel
theorem dX1_copyFrom_1 : decode cX1_copyFrom 1 = .ok (.getfield 16, 3) := by decide +kernel
theorem dX1_copyFrom_4 : decode cX1_copyFrom 4 = .ok (.aload_n 1, 1) := by decide +kernel
theorem dX1_copyFrom_5 : decode cX1_copyFrom 5 = .ok (.getfield 16, 3) := by decide +kernel
theorem dX1_copyFrom_8 : decode cX1_copyFrom 8 = .ok (.invokevirtual 26, 3) := by decide +kernel
theorem dX1_copyFrom_11 : decode cX1_copyFrom 11 = .ok (.return_, 1) := by decide +kernel
theorem dX1_between_0 : decode cX1_between 0 = .ok (.aload_n 0, 1) := by decide +kernel
theorem dX1_between_1 : decode cX1_between 1 = .ok (.getfield 16, 3) := by decide +kernel
theorem dX1_between_4 : decode cX1_between 4 = .ok (.iload_n 1, 1) := by decide +kernel
theorem dX1_between_5 : decode cX1_between 5 = .ok (.bipush 6, 2) := by decide +kernel
theorem dX1_between_7 : decode cX1_between 7 = .ok (.imul, 1) := by decide +kernel
theorem dX1_between_8 : decode cX1_between 8 = .ok (.iload_n 2, 1) := by decide +kernel
theorem dX1_between_9 : decode cX1_between 9 = .ok (.iadd, 1) := by decide +kernel
theorem dX1_between_10 : decode cX1_between 10 = .ok (.invokevirtual 30, 3) := by decide +kernel
theorem dX1_between_13 : decode cX1_between 13 = .ok (.ireturn, 1) := by decide +kernel
theorem dX1_grow_0 : decode cX1_grow 0 = .ok (.aload_n 0, 1) := by decide +kernel
theorem dX1_grow_1 : decode cX1_grow 1 = .ok (.getfield 16, 3) := by decide +kernel
theorem dX1_grow_4 : decode cX1_grow 4 = .ok (.iload_n 1, 1) := by decide +kernel
theorem dX1_grow_5 : decode cX1_grow 5 = .ok (.bipush 6, 2) := by decide +kernel
theorem dX1_grow_7 : decode cX1_grow 7 = .ok (.imul, 1) := by decide +kernel
theorem dX1_grow_8 : decode cX1_grow 8 = .ok (.iload_n 2, 1) := by decide +kernel
theorem dX1_grow_9 : decode cX1_grow 9 = .ok (.iadd, 1) := by decide +kernel
theorem dX1_grow_10 : decode cX1_grow 10 = .ok (.ldc 34, 2) := by decide +kernel
theorem dX1_grow_12 : decode cX1_grow 12 = .ok (.aload_n 0, 1) := by decide +kernel
theorem dX1_grow_13 : decode cX1_grow 13 = .ok (.getfield 16, 3) := by decide +kernel
theorem dX1_grow_16 : decode cX1_grow 16 = .ok (.iload_n 1, 1) := by decide +kernel
theorem dX1_grow_17 : decode cX1_grow 17 = .ok (.bipush 6, 2) := by decide +kernel
theorem dX1_grow_19 : decode cX1_grow 19 = .ok (.imul, 1) := by decide +kernel
theorem dX1_grow_20 : decode cX1_grow 20 = .ok (.iload_n 2, 1) := by decide +kernel
theorem dX1_grow_21 : decode cX1_grow 21 = .ok (.iadd, 1) := by decide +kernel
theorem dX1_grow_22 : decode cX1_grow 22 = .ok (.invokevirtual 30, 3) := by decide +kernel
theorem dX1_grow_25 : decode cX1_grow 25 = .ok (.iload_n 3, 1) := by decide +kernel
theorem dX1_grow_26 : decode cX1_grow 26 = .ok (.iadd, 1) := by decide +kernel
theorem dX1_grow_27 : decode cX1_grow 27 = .ok (.invokestatic 35, 3) := by decide +kernel
theorem dX1_grow_30 : decode cX1_grow 30 = .ok (.invokevirtual 41, 3) := by decide +kernel
theorem dX1_grow_33 : decode cX1_grow 33 = .ok (.return_, 1) := by decide +kernel
theorem dX1_growAll_0 : decode cX1_growAll 0 = .ok (.iconst 0, 1) := by decide +kernel
theorem dX1_growAll_1 : decode cX1_growAll 1 = .ok (.istore_n 1, 1) := by decide +kernel
theorem dX1_growAll_2 : decode cX1_growAll 2 = .ok (.iload_n 1, 1) := by decide +kernel
theorem dX1_growAll_3 : decode cX1_growAll 3 = .ok (.bipush 36, 2) := by decide +kernel
theorem dX1_growAll_5 : decode cX1_growAll 5 = .ok (.if_icmp .ge 44, 3) := by decide +kernel
theorem dX1_growAll_8 : decode cX1_growAll 8 = .ok (.aload_n 0, 1) := by decide +kernel
theorem dX1_growAll_9 : decode cX1_growAll 9 = .ok (.getfield 16, 3) := by decide +kernel
theorem dX1_growAll_12 : decode cX1_growAll 12 = .ok (.iload_n 1, 1) := by decide +kernel
theorem dX1_growAll_13 : decode cX1_growAll 13 = .ok (.invokevirtual 30, 3) := by decide +kernel
theorem dX1_growAll_16 : decode cX1_growAll 16 = .ok (.istore_n 2, 1) := by decide +kernel
theorem dX1_growAll_17 : decode cX1_growAll 17 = .ok (.iload_n 2, 1) := by decide +kernel
theorem dX1_growAll_18 : decode cX1_growAll 18 = .ok (.iconst 1, 1) := by decide +kernel
theorem dX1_growAll_19 : decode cX1_growAll 19 = .ok (.if_icmp .lt 24, 3) := by decide +kernel
theorem dX1_growAll_22 : decode cX1_growAll 22 = .ok (.aload_n 0, 1) := by decide +kernel
theorem dX1_growAll_23 : decode cX1_growAll 23 = .ok (.getfield 16, 3) := by decide +kernel
theorem dX1_growAll_26 : decode cX1_growAll 26 = .ok (.iload_n 1, 1) := by decide +kernel
theorem dX1_growAll_27 : decode cX1_growAll 27 = .ok (.ldc 34, 2) := by decide +kernel
theorem dX1_growAll_29 : decode cX1_growAll 29 = .ok (.iload_n 2, 1) := by decide +kernel
theorem dX1_growAll_30 : decode cX1_growAll 30 = .ok (.iload_n 2, 1) := by decide +kernel
theorem dX1_growAll_31 : decode cX1_growAll 31 = .ok (.bipush 20, 2) := by decide +kernel
theorem dX1_growAll_33 : decode cX1_growAll 33 = .ok (.idiv, 1) := by decide +kernel
theorem dX1_growAll_34 : decode cX1_growAll 34 = .ok (.iadd, 1) := by decide +kernel
theorem dX1_growAll_35 : decode cX1_growAll 35 = .ok (.iconst 1, 1) := by decide +kernel
theorem dX1_growAll_36 : decode cX1_growAll 36 = .ok (.iadd, 1) := by decide +kernel
theorem dX1_growAll_37 : decode cX1_growAll 37 = .ok (.invokestatic 35, 3) := by decide +kernel
theorem dX1_growAll_40 : decode cX1_growAll 40 = .ok (.invokevirtual 41, 3) := by decide +kernel
theorem dX1_growAll_43 : decode cX1_growAll 43 = .ok (.iinc 1 1, 3) := by decide +kernel
theorem dX1_growAll_46 : decode cX1_growAll 46 = .ok (.goto (-44), 3) := by decide +kernel
theorem dX1_growAll_49 : decode cX1_growAll 49 = .ok (.return_, 1) := by decide +kernel
theorem dX1_sumOf_0 : decode cX1_sumOf 0 = .ok (.iconst 0, 1) := by decide +kernel
theorem dX1_sumOf_1 : decode cX1_sumOf 1 = .ok (.istore_n 2, 1) := by decide +kernel
theorem dX1_sumOf_2 : decode cX1_sumOf 2 = .ok (.iconst 0, 1) := by decide +kernel
theorem dX1_sumOf_3 : decode cX1_sumOf 3 = .ok (.istore_n 3, 1) := by decide +kernel
theorem dX1_sumOf_4 : decode cX1_sumOf 4 = .ok (.iload_n 3, 1) := by decide +kernel
theorem dX1_sumOf_5 : decode cX1_sumOf 5 = .ok (.bipush 6, 2) := by decide +kernel
theorem dX1_sumOf_7 : decode cX1_sumOf 7 = .ok (.if_icmp .ge 25, 3) := by decide +kernel
theorem dX1_sumOf_10 : decode cX1_sumOf 10 = .ok (.iload_n 2, 1) := by decide +kernel
theorem dX1_sumOf_11 : decode cX1_sumOf 11 = .ok (.aload_n 0, 1) := by decide +kernel
theorem dX1_sumOf_12 : decode cX1_sumOf 12 = .ok (.getfield 16, 3) := by decide +kernel
theorem dX1_sumOf_15 : decode cX1_sumOf 15 = .ok (.iload_n 1, 1) := by decide +kernel
theorem dX1_sumOf_16 : decode cX1_sumOf 16 = .ok (.bipush 6, 2) := by decide +kernel
theorem dX1_sumOf_18 : decode cX1_sumOf 18 = .ok (.imul, 1) := by decide +kernel
theorem dX1_sumOf_19 : decode cX1_sumOf 19 = .ok (.iload_n 3, 1) := by decide +kernel
theorem dX1_sumOf_20 : decode cX1_sumOf 20 = .ok (.iadd, 1) := by decide +kernel
theorem dX1_sumOf_21 : decode cX1_sumOf 21 = .ok (.invokevirtual 30, 3) := by decide +kernel
theorem dX1_sumOf_24 : decode cX1_sumOf 24 = .ok (.iadd, 1) := by decide +kernel
theorem dX1_sumOf_25 : decode cX1_sumOf 25 = .ok (.istore_n 2, 1) := by decide +kernel
theorem dX1_sumOf_26 : decode cX1_sumOf 26 = .ok (.iinc 3 1, 3) := by decide +kernel
theorem dX1_sumOf_29 : decode cX1_sumOf 29 = .ok (.goto (-25), 3) := by decide +kernel
theorem dX1_sumOf_32 : decode cX1_sumOf 32 = .ok (.iload_n 2, 1) := by decide +kernel
theorem dX1_sumOf_33 : decode cX1_sumOf 33 = .ok (.ireturn, 1) := by decide +kernel
theorem dX1_sumOwedTo_0 : decode cX1_sumOwedTo 0 = .ok (.iconst 0, 1) := by decide +kernel
theorem dX1_sumOwedTo_1 : decode cX1_sumOwedTo 1 = .ok (.istore_n 2, 1) := by decide +kernel
theorem dX1_sumOwedTo_2 : decode cX1_sumOwedTo 2 = .ok (.iconst 0, 1) := by decide +kernel
theorem dX1_sumOwedTo_3 : decode cX1_sumOwedTo 3 = .ok (.istore_n 3, 1) := by decide +kernel
theorem dX1_sumOwedTo_4 : decode cX1_sumOwedTo 4 = .ok (.iload_n 3, 1) := by decide +kernel
theorem dX1_sumOwedTo_5 : decode cX1_sumOwedTo 5 = .ok (.bipush 6, 2) := by decide +kernel
theorem dX1_sumOwedTo_7 : decode cX1_sumOwedTo 7 = .ok (.if_icmp .ge 25, 3) := by decide +kernel
theorem dX1_sumOwedTo_10 : decode cX1_sumOwedTo 10 = .ok (.iload_n 2, 1) := by decide +kernel
theorem dX1_sumOwedTo_11 : decode cX1_sumOwedTo 11 = .ok (.aload_n 0, 1) := by decide +kernel
theorem dX1_sumOwedTo_12 : decode cX1_sumOwedTo 12 = .ok (.getfield 16, 3) := by decide +kernel
theorem dX1_sumOwedTo_15 : decode cX1_sumOwedTo 15 = .ok (.iload_n 3, 1) := by decide +kernel
theorem dX1_sumOwedTo_16 : decode cX1_sumOwedTo 16 = .ok (.bipush 6, 2) := by decide +kernel
theorem dX1_sumOwedTo_18 : decode cX1_sumOwedTo 18 = .ok (.imul, 1) := by decide +kernel
theorem dX1_sumOwedTo_19 : decode cX1_sumOwedTo 19 = .ok (.iload_n 1, 1) := by decide +kernel
theorem dX1_sumOwedTo_20 : decode cX1_sumOwedTo 20 = .ok (.iadd, 1) := by decide +kernel
theorem dX1_sumOwedTo_21 : decode cX1_sumOwedTo 21 = .ok (.invokevirtual 30, 3) := by decide +kernel
theorem dX1_sumOwedTo_24 : decode cX1_sumOwedTo 24 = .ok (.iadd, 1) := by decide +kernel
theorem dX1_sumOwedTo_25 : decode cX1_sumOwedTo 25 = .ok (.istore_n 2, 1) := by decide +kernel
theorem dX1_sumOwedTo_26 : decode cX1_sumOwedTo 26 = .ok (.iinc 3 1, 3) := by decide +kernel
theorem dX1_sumOwedTo_29 : decode cX1_sumOwedTo 29 = .ok (.goto (-25), 3) := by decide +kernel
theorem dX1_sumOwedTo_32 : decode cX1_sumOwedTo 32 = .ok (.iload_n 2, 1) := by decide +kernel
theorem dX1_sumOwedTo_33 : decode cX1_sumOwedTo 33 = .ok (.ireturn, 1) := by decide +kernel
theorem dX1_sumOfAll_0 : decode cX1_sumOfAll 0 = .ok (.aload_n 0, 1) := by decide +kernel
theorem dX1_sumOfAll_1 : decode cX1_sumOfAll 1 = .ok (.getfield 16, 3) := by decide +kernel
theorem dX1_sumOfAll_4 : decode cX1_sumOfAll 4 = .ok (.invokevirtual 45, 3) := by decide +kernel
theorem dX1_sumOfAll_7 : decode cX1_sumOfAll 7 = .ok (.ireturn, 1) := by decide +kernel
theorem dX1_fewestFromTo_0 : decode cX1_fewestFromTo 0 = .ok (.aload_n 0, 1) := by decide +kernel
theorem dX1_fewestFromTo_1 : decode cX1_fewestFromTo 1 = .ok (.getfield 20, 3) := by decide +kernel
theorem dX1_fewestFromTo_4 : decode cX1_fewestFromTo 4 = .ok (.iconst (-1), 1) := by decide +kernel
theorem dX1_fewestFromTo_5 : decode cX1_fewestFromTo 5 = .ok (.invokevirtual 23, 3) := by decide +kernel
theorem dX1_fewestFromTo_8 : decode cX1_fewestFromTo 8 = .ok (.aload_n 0, 1) := by decide +kernel
theorem dX1_fewestFromTo_9 : decode cX1_fewestFromTo 9 = .ok (.getfield 20, 3) := by decide +kernel
theorem dX1_fewestFromTo_12 : decode cX1_fewestFromTo 12 = .ok (.iload_n 1, 1) := by decide +kernel
theorem dX1_fewestFromTo_13 : decode cX1_fewestFromTo 13 = .ok (.iconst 0, 1) := by decide +kernel
theorem dX1_fewestFromTo_14 : decode cX1_fewestFromTo 14 = .ok (.invokevirtual 41, 3) := by decide +kernel
theorem dX1_fewestFromTo_17 : decode cX1_fewestFromTo 17 = .ok (.iconst 1, 1) := by decide +kernel
theorem dX1_fewestFromTo_18 : decode cX1_fewestFromTo 18 = .ok (.istore_n 3, 1) := by decide +kernel
theorem dX1_fewestFromTo_19 : decode cX1_fewestFromTo 19 = .ok (.iload_n 3, 1) := by decide +kernel
theorem dX1_fewestFromTo_20 : decode cX1_fewestFromTo 20 = .ok (.bipush 6, 2) := by decide +kernel
theorem dX1_fewestFromTo_22 : decode cX1_fewestFromTo 22 = .ok (.if_icmp .ge 14, 3) := by decide +kernel
theorem dX1_fewestFromTo_25 : decode cX1_fewestFromTo 25 = .ok (.aload_n 0, 1) := by decide +kernel
theorem dX1_fewestFromTo_26 : decode cX1_fewestFromTo 26 = .ok (.iload_n 3, 1) := by decide +kernel
theorem dX1_fewestFromTo_27 : decode cX1_fewestFromTo 27 = .ok (.invokevirtual 49, 3) := by decide +kernel
theorem dX1_fewestFromTo_30 : decode cX1_fewestFromTo 30 = .ok (.iinc 3 1, 3) := by decide +kernel
theorem dX1_fewestFromTo_33 : decode cX1_fewestFromTo 33 = .ok (.goto (-14), 3) := by decide +kernel
theorem dX1_fewestFromTo_36 : decode cX1_fewestFromTo 36 = .ok (.aload_n 0, 1) := by decide +kernel
theorem dX1_fewestFromTo_37 : decode cX1_fewestFromTo 37 = .ok (.getfield 20, 3) := by decide +kernel
theorem dX1_fewestFromTo_40 : decode cX1_fewestFromTo 40 = .ok (.iload_n 2, 1) := by decide +kernel
theorem dX1_fewestFromTo_41 : decode cX1_fewestFromTo 41 = .ok (.invokevirtual 30, 3) := by decide +kernel
theorem dX1_fewestFromTo_44 : decode cX1_fewestFromTo 44 = .ok (.ireturn, 1) := by decide +kernel
theorem dX1_reachBy_0 : decode cX1_reachBy 0 = .ok (.iconst 0, 1) := by decide +kernel
theorem dX1_reachBy_1 : decode cX1_reachBy 1 = .ok (.istore_n 2, 1) := by decide +kernel
theorem dX1_reachBy_2 : decode cX1_reachBy 2 = .ok (.iload_n 2, 1) := by decide +kernel
theorem dX1_reachBy_3 : decode cX1_reachBy 3 = .ok (.bipush 6, 2) := by decide +kernel
theorem dX1_reachBy_5 : decode cX1_reachBy 5 = .ok (.if_icmp .ge 66, 3) := by decide +kernel
theorem dX1_reachBy_8 : decode cX1_reachBy 8 = .ok (.iconst 0, 1) := by decide +kernel
theorem dX1_reachBy_9 : decode cX1_reachBy 9 = .ok (.istore_n 3, 1) := by decide +kernel
theorem dX1_reachBy_10 : decode cX1_reachBy 10 = .ok (.iload_n 3, 1) := by decide +kernel
theorem dX1_reachBy_11 : decode cX1_reachBy 11 = .ok (.bipush 6, 2) := by decide +kernel
theorem dX1_reachBy_13 : decode cX1_reachBy 13 = .ok (.if_icmp .ge 52, 3) := by decide +kernel
theorem dX1_reachBy_16 : decode cX1_reachBy 16 = .ok (.aload_n 0, 1) := by decide +kernel
theorem dX1_reachBy_17 : decode cX1_reachBy 17 = .ok (.getfield 20, 3) := by decide +kernel
theorem dX1_reachBy_20 : decode cX1_reachBy 20 = .ok (.iload_n 2, 1) := by decide +kernel
theorem dX1_reachBy_21 : decode cX1_reachBy 21 = .ok (.invokevirtual 30, 3) := by decide +kernel
theorem dX1_reachBy_24 : decode cX1_reachBy 24 = .ok (.iload_n 1, 1) := by decide +kernel
theorem dX1_reachBy_25 : decode cX1_reachBy 25 = .ok (.iconst 1, 1) := by decide +kernel
theorem dX1_reachBy_26 : decode cX1_reachBy 26 = .ok (.isub, 1) := by decide +kernel
theorem dX1_reachBy_27 : decode cX1_reachBy 27 = .ok (.if_icmp .ne 32, 3) := by decide +kernel
theorem dX1_reachBy_30 : decode cX1_reachBy 30 = .ok (.aload_n 0, 1) := by decide +kernel
theorem dX1_reachBy_31 : decode cX1_reachBy 31 = .ok (.getfield 20, 3) := by decide +kernel
theorem dX1_reachBy_34 : decode cX1_reachBy 34 = .ok (.iload_n 3, 1) := by decide +kernel
theorem dX1_reachBy_35 : decode cX1_reachBy 35 = .ok (.invokevirtual 30, 3) := by decide +kernel
theorem dX1_reachBy_38 : decode cX1_reachBy 38 = .ok (.ifCond .ge 21, 3) := by decide +kernel
theorem dX1_reachBy_41 : decode cX1_reachBy 41 = .ok (.aload_n 0, 1) := by decide +kernel
theorem dX1_reachBy_42 : decode cX1_reachBy 42 = .ok (.iload_n 2, 1) := by decide +kernel
theorem dX1_reachBy_43 : decode cX1_reachBy 43 = .ok (.iload_n 3, 1) := by decide +kernel
theorem dX1_reachBy_44 : decode cX1_reachBy 44 = .ok (.invokevirtual 52, 3) := by decide +kernel
theorem dX1_reachBy_47 : decode cX1_reachBy 47 = .ok (.ifCond .le 12, 3) := by decide +kernel
theorem dX1_reachBy_50 : decode cX1_reachBy 50 = .ok (.aload_n 0, 1) := by decide +kernel
theorem dX1_reachBy_51 : decode cX1_reachBy 51 = .ok (.getfield 20, 3) := by decide +kernel
theorem dX1_reachBy_54 : decode cX1_reachBy 54 = .ok (.iload_n 3, 1) := by decide +kernel
theorem dX1_reachBy_55 : decode cX1_reachBy 55 = .ok (.iload_n 1, 1) := by decide +kernel
theorem dX1_reachBy_56 : decode cX1_reachBy 56 = .ok (.invokevirtual 41, 3) := by decide +kernel
theorem dX1_reachBy_59 : decode cX1_reachBy 59 = .ok (.iinc 3 1, 3) := by decide +kernel
theorem dX1_reachBy_62 : decode cX1_reachBy 62 = .ok (.goto (-52), 3) := by decide +kernel
theorem dX1_reachBy_65 : decode cX1_reachBy 65 = .ok (.iinc 2 1, 3) := by decide +kernel
theorem dX1_reachBy_68 : decode cX1_reachBy 68 = .ok (.goto (-66), 3) := by decide +kernel
theorem dX1_reachBy_71 : decode cX1_reachBy 71 = .ok (.return_, 1) := by decide +kernel
theorem dX1_widestRing_0 : decode cX1_widestRing 0 = .ok (.iconst 0, 1) := by decide +kernel
theorem dX1_widestRing_1 : decode cX1_widestRing 1 = .ok (.istore_n 2, 1) := by decide +kernel
theorem dX1_widestRing_2 : decode cX1_widestRing 2 = .ok (.iload_n 2, 1) := by decide +kernel
theorem dX1_widestRing_3 : decode cX1_widestRing 3 = .ok (.bipush 6, 2) := by decide +kernel
theorem dX1_widestRing_5 : decode cX1_widestRing 5 = .ok (.if_icmp .ge 23, 3) := by decide +kernel
theorem dX1_widestRing_8 : decode cX1_widestRing 8 = .ok (.aload_n 0, 1) := by decide +kernel
theorem dX1_widestRing_9 : decode cX1_widestRing 9 = .ok (.getfield 20, 3) := by decide +kernel
theorem dX1_widestRing_12 : decode cX1_widestRing 12 = .ok (.iload_n 2, 1) := by decide +kernel
theorem dX1_widestRing_13 : decode cX1_widestRing 13 = .ok (.aload_n 0, 1) := by decide +kernel
theorem dX1_widestRing_14 : decode cX1_widestRing 14 = .ok (.iload_n 1, 1) := by decide +kernel
theorem dX1_widestRing_15 : decode cX1_widestRing 15 = .ok (.iload_n 2, 1) := by decide +kernel
theorem dX1_widestRing_16 : decode cX1_widestRing 16 = .ok (.invokevirtual 52, 3) := by decide +kernel
theorem dX1_widestRing_19 : decode cX1_widestRing 19 = .ok (.invokevirtual 41, 3) := by decide +kernel
theorem dX1_widestRing_22 : decode cX1_widestRing 22 = .ok (.iinc 2 1, 3) := by decide +kernel
theorem dX1_widestRing_25 : decode cX1_widestRing 25 = .ok (.goto (-23), 3) := by decide +kernel
theorem dX1_widestRing_28 : decode cX1_widestRing 28 = .ok (.iconst 2, 1) := by decide +kernel
theorem dX1_widestRing_29 : decode cX1_widestRing 29 = .ok (.istore_n 2, 1) := by decide +kernel
theorem dX1_widestRing_30 : decode cX1_widestRing 30 = .ok (.iload_n 2, 1) := by decide +kernel
theorem dX1_widestRing_31 : decode cX1_widestRing 31 = .ok (.bipush 6, 2) := by decide +kernel
theorem dX1_widestRing_33 : decode cX1_widestRing 33 = .ok (.if_icmp .ge 13, 3) := by decide +kernel
theorem dX1_widestRing_36 : decode cX1_widestRing 36 = .ok (.aload_n 0, 1) := by decide +kernel
theorem dX1_widestRing_37 : decode cX1_widestRing 37 = .ok (.invokevirtual 55, 3) := by decide +kernel
theorem dX1_widestRing_40 : decode cX1_widestRing 40 = .ok (.iinc 2 1, 3) := by decide +kernel
theorem dX1_widestRing_43 : decode cX1_widestRing 43 = .ok (.goto (-13), 3) := by decide +kernel
theorem dX1_widestRing_46 : decode cX1_widestRing 46 = .ok (.iconst 0, 1) := by decide +kernel
theorem dX1_widestRing_47 : decode cX1_widestRing 47 = .ok (.istore_n 2, 1) := by decide +kernel
theorem dX1_widestRing_48 : decode cX1_widestRing 48 = .ok (.iconst 0, 1) := by decide +kernel
theorem dX1_widestRing_49 : decode cX1_widestRing 49 = .ok (.istore_n 3, 1) := by decide +kernel
theorem dX1_widestRing_50 : decode cX1_widestRing 50 = .ok (.iload_n 3, 1) := by decide +kernel
theorem dX1_widestRing_51 : decode cX1_widestRing 51 = .ok (.bipush 6, 2) := by decide +kernel
theorem dX1_widestRing_53 : decode cX1_widestRing 53 = .ok (.if_icmp .ge 31, 3) := by decide +kernel
theorem dX1_widestRing_56 : decode cX1_widestRing 56 = .ok (.iload_n 2, 1) := by decide +kernel
theorem dX1_widestRing_57 : decode cX1_widestRing 57 = .ok (.aload_n 0, 1) := by decide +kernel
theorem dX1_widestRing_58 : decode cX1_widestRing 58 = .ok (.getfield 20, 3) := by decide +kernel
theorem dX1_widestRing_61 : decode cX1_widestRing 61 = .ok (.iload_n 3, 1) := by decide +kernel
theorem dX1_widestRing_62 : decode cX1_widestRing 62 = .ok (.invokevirtual 30, 3) := by decide +kernel
theorem dX1_widestRing_65 : decode cX1_widestRing 65 = .ok (.aload_n 0, 1) := by decide +kernel
theorem dX1_widestRing_66 : decode cX1_widestRing 66 = .ok (.iload_n 3, 1) := by decide +kernel
theorem dX1_widestRing_67 : decode cX1_widestRing 67 = .ok (.iload_n 1, 1) := by decide +kernel
theorem dX1_widestRing_68 : decode cX1_widestRing 68 = .ok (.invokevirtual 52, 3) := by decide +kernel
theorem dX1_widestRing_71 : decode cX1_widestRing 71 = .ok (.invokestatic 35, 3) := by decide +kernel
theorem dX1_widestRing_74 : decode cX1_widestRing 74 = .ok (.invokestatic 58, 3) := by decide +kernel
theorem dX1_widestRing_77 : decode cX1_widestRing 77 = .ok (.istore_n 2, 1) := by decide +kernel
theorem dX1_widestRing_78 : decode cX1_widestRing 78 = .ok (.iinc 3 1, 3) := by decide +kernel
theorem dX1_widestRing_81 : decode cX1_widestRing 81 = .ok (.goto (-31), 3) := by decide +kernel
theorem dX1_widestRing_84 : decode cX1_widestRing 84 = .ok (.iload_n 2, 1) := by decide +kernel
theorem dX1_widestRing_85 : decode cX1_widestRing 85 = .ok (.ireturn, 1) := by decide +kernel
theorem dX1_widen_0 : decode cX1_widen 0 = .ok (.iconst 0, 1) := by decide +kernel
theorem dX1_widen_1 : decode cX1_widen 1 = .ok (.istore_n 1, 1) := by decide +kernel
theorem dX1_widen_2 : decode cX1_widen 2 = .ok (.iload_n 1, 1) := by decide +kernel
theorem dX1_widen_3 : decode cX1_widen 3 = .ok (.bipush 6, 2) := by decide +kernel
theorem dX1_widen_5 : decode cX1_widen 5 = .ok (.if_icmp .ge 61, 3) := by decide +kernel
theorem dX1_widen_8 : decode cX1_widen 8 = .ok (.iconst 0, 1) := by decide +kernel
theorem dX1_widen_9 : decode cX1_widen 9 = .ok (.istore_n 2, 1) := by decide +kernel
theorem dX1_widen_10 : decode cX1_widen 10 = .ok (.iload_n 2, 1) := by decide +kernel
theorem dX1_widen_11 : decode cX1_widen 11 = .ok (.bipush 6, 2) := by decide +kernel
theorem dX1_widen_13 : decode cX1_widen 13 = .ok (.if_icmp .ge 47, 3) := by decide +kernel
theorem dX1_widen_16 : decode cX1_widen 16 = .ok (.aload_n 0, 1) := by decide +kernel
theorem dX1_widen_17 : decode cX1_widen 17 = .ok (.getfield 20, 3) := by decide +kernel
theorem dX1_widen_20 : decode cX1_widen 20 = .ok (.iload_n 1, 1) := by decide +kernel
theorem dX1_widen_21 : decode cX1_widen 21 = .ok (.invokevirtual 30, 3) := by decide +kernel
theorem dX1_widen_24 : decode cX1_widen 24 = .ok (.aload_n 0, 1) := by decide +kernel
theorem dX1_widen_25 : decode cX1_widen 25 = .ok (.iload_n 1, 1) := by decide +kernel
theorem dX1_widen_26 : decode cX1_widen 26 = .ok (.iload_n 2, 1) := by decide +kernel
theorem dX1_widen_27 : decode cX1_widen 27 = .ok (.invokevirtual 52, 3) := by decide +kernel
theorem dX1_widen_30 : decode cX1_widen 30 = .ok (.invokestatic 35, 3) := by decide +kernel
theorem dX1_widen_33 : decode cX1_widen 33 = .ok (.istore_n 3, 1) := by decide +kernel
theorem dX1_widen_34 : decode cX1_widen 34 = .ok (.aload_n 0, 1) := by decide +kernel
theorem dX1_widen_35 : decode cX1_widen 35 = .ok (.getfield 20, 3) := by decide +kernel
theorem dX1_widen_38 : decode cX1_widen 38 = .ok (.iload_n 2, 1) := by decide +kernel
theorem dX1_widen_39 : decode cX1_widen 39 = .ok (.aload_n 0, 1) := by decide +kernel
theorem dX1_widen_40 : decode cX1_widen 40 = .ok (.getfield 20, 3) := by decide +kernel
theorem dX1_widen_43 : decode cX1_widen 43 = .ok (.iload_n 2, 1) := by decide +kernel
theorem dX1_widen_44 : decode cX1_widen 44 = .ok (.invokevirtual 30, 3) := by decide +kernel
theorem dX1_widen_47 : decode cX1_widen 47 = .ok (.iload_n 3, 1) := by decide +kernel
theorem dX1_widen_48 : decode cX1_widen 48 = .ok (.invokestatic 58, 3) := by decide +kernel
theorem dX1_widen_51 : decode cX1_widen 51 = .ok (.invokevirtual 41, 3) := by decide +kernel
theorem dX1_widen_54 : decode cX1_widen 54 = .ok (.iinc 2 1, 3) := by decide +kernel
theorem dX1_widen_57 : decode cX1_widen 57 = .ok (.goto (-47), 3) := by decide +kernel
theorem dX1_widen_60 : decode cX1_widen 60 = .ok (.iinc 1 1, 3) := by decide +kernel
theorem dX1_widen_63 : decode cX1_widen 63 = .ok (.goto (-61), 3) := by decide +kernel
theorem dX1_widen_66 : decode cX1_widen 66 = .ok (.return_, 1) := by decide +kernel
theorem dX10_init_0 : decode cX10_init 0 = .ok (.aload_n 0, 1) := by decide +kernel
theorem dX10_init_1 : decode cX10_init 1 = .ok (.invokespecial 1, 3) := by decide +kernel
theorem dX10_init_4 : decode cX10_init 4 = .ok (.aload_n 0, 1) := by decide +kernel
theorem dX10_init_5 : decode cX10_init 5 = .ok (.aload_n 1, 1) := by decide +kernel
theorem dX10_init_6 : decode cX10_init 6 = .ok (.putfield 7, 3) := by decide +kernel
theorem dX10_init_9 : decode cX10_init 9 = .ok (.aload_n 0, 1) := by decide +kernel
theorem dX10_init_10 : decode cX10_init 10 = .ok (.new 13, 3) := by decide +kernel
theorem dX10_init_13 : decode cX10_init 13 = .ok (.dup, 1) := by decide +kernel
theorem dX10_init_14 : decode cX10_init 14 = .ok (.sipush 401, 3) := by decide +kernel
theorem dX10_init_17 : decode cX10_init 17 = .ok (.invokespecial 15, 3) := by decide +kernel
theorem dX10_init_20 : decode cX10_init 20 = .ok (.putfield 18, 3) := by decide +kernel
theorem dX10_init_23 : decode cX10_init 23 = .ok (.aload_n 0, 1) := by decide +kernel
theorem dX10_init_24 : decode cX10_init 24 = .ok (.new 13, 3) := by decide +kernel
theorem dX10_init_27 : decode cX10_init 27 = .ok (.dup, 1) := by decide +kernel
theorem dX10_init_28 : decode cX10_init 28 = .ok (.sipush 401, 3) := by decide +kernel
theorem dX10_init_31 : decode cX10_init 31 = .ok (.invokespecial 15, 3) := by decide +kernel
theorem dX10_init_34 : decode cX10_init 34 = .ok (.putfield 21, 3) := by decide +kernel
theorem dX10_init_37 : decode cX10_init 37 = .ok (.aload_n 0, 1) := by decide +kernel
theorem dX10_init_38 : decode cX10_init 38 = .ok (.new 13, 3) := by decide +kernel
theorem dX10_init_41 : decode cX10_init 41 = .ok (.dup, 1) := by decide +kernel
theorem dX10_init_42 : decode cX10_init 42 = .ok (.sipush 401, 3) := by decide +kernel
theorem dX10_init_45 : decode cX10_init 45 = .ok (.invokespecial 15, 3) := by decide +kernel
theorem dX10_init_48 : decode cX10_init 48 = .ok (.putfield 24, 3) := by decide +kernel
theorem dX10_init_51 : decode cX10_init 51 = .ok (.aload_n 0, 1) := by decide +kernel
theorem dX10_init_52 : decode cX10_init 52 = .ok (.new 13, 3) := by decide +kernel
theorem dX10_init_55 : decode cX10_init 55 = .ok (.dup, 1) := by decide +kernel
theorem dX10_init_56 : decode cX10_init 56 = .ok (.sipush 401, 3) := by decide +kernel
theorem dX10_init_59 : decode cX10_init 59 = .ok (.invokespecial 15, 3) := by decide +kernel
theorem dX10_init_62 : decode cX10_init 62 = .ok (.putfield 27, 3) := by decide +kernel
theorem dX10_init_65 : decode cX10_init 65 = .ok (.aload_n 0, 1) := by decide +kernel
theorem dX10_init_66 : decode cX10_init 66 = .ok (.iconst 0, 1) := by decide +kernel
theorem dX10_init_67 : decode cX10_init 67 = .ok (.putfield 30, 3) := by decide +kernel
theorem dX10_init_70 : decode cX10_init 70 = .ok (.aload_n 0, 1) := by decide +kernel
theorem dX10_init_71 : decode cX10_init 71 = .ok (.iconst 0, 1) := by decide +kernel
theorem dX10_init_72 : decode cX10_init 72 = .ok (.putfield 34, 3) := by decide +kernel
theorem dX10_init_75 : decode cX10_init 75 = .ok (.return_, 1) := by decide +kernel
theorem dX10_scan_0 : decode cX10_scan 0 = .ok (.aload_n 0, 1) := by decide +kernel
theorem dX10_scan_1 : decode cX10_scan 1 = .ok (.iload_n 1, 1) := by decide +kernel
theorem dX10_scan_2 : decode cX10_scan 2 = .ok (.putfield 30, 3) := by decide +kernel
theorem dX10_scan_5 : decode cX10_scan 5 = .ok (.aload_n 0, 1) := by decide +kernel
theorem dX10_scan_6 : decode cX10_scan 6 = .ok (.iconst 0, 1) := by decide +kernel
theorem dX10_scan_7 : decode cX10_scan 7 = .ok (.putfield 34, 3) := by decide +kernel
theorem dX10_scan_10 : decode cX10_scan 10 = .ok (.aload_n 0, 1) := by decide +kernel
theorem dX10_scan_11 : decode cX10_scan 11 = .ok (.iconst 0, 1) := by decide +kernel
theorem dX10_scan_12 : decode cX10_scan 12 = .ok (.invokevirtual 37, 3) := by decide +kernel
theorem dX10_scan_15 : decode cX10_scan 15 = .ok (.istore_n 2, 1) := by decide +kernel
theorem dX10_scan_16 : decode cX10_scan 16 = .ok (.iconst 0, 1) := by decide +kernel
theorem dX10_scan_17 : decode cX10_scan 17 = .ok (.istore_n 3, 1) := by decide +kernel
theorem dX10_scan_18 : decode cX10_scan 18 = .ok (.iload_n 3, 1) := by decide +kernel
theorem dX10_scan_19 : decode cX10_scan 19 = .ok (.sipush 400, 3) := by decide +kernel
theorem dX10_scan_22 : decode cX10_scan 22 = .ok (.if_icmp .ge 42, 3) := by decide +kernel
theorem dX10_scan_25 : decode cX10_scan 25 = .ok (.iload_n 2, 1) := by decide +kernel
theorem dX10_scan_26 : decode cX10_scan 26 = .ok (.iload_n 1, 1) := by decide +kernel
theorem dX10_scan_27 : decode cX10_scan 27 = .ok (.if_icmp .ge 37, 3) := by decide +kernel
theorem dX10_scan_30 : decode cX10_scan 30 = .ok (.aload_n 0, 1) := by decide +kernel
theorem dX10_scan_31 : decode cX10_scan 31 = .ok (.iload_n 2, 1) := by decide +kernel
theorem dX10_scan_32 : decode cX10_scan 32 = .ok (.invokevirtual 41, 3) := by decide +kernel
theorem dX10_scan_35 : decode cX10_scan 35 = .ok (.ifCond .eq 29, 3) := by decide +kernel
theorem dX10_scan_38 : decode cX10_scan 38 = .ok (.aload_n 0, 1) := by decide +kernel
theorem dX10_scan_39 : decode cX10_scan 39 = .ok (.iload_n 2, 1) := by decide +kernel
theorem dX10_scan_40 : decode cX10_scan 40 = .ok (.aload_n 0, 1) := by decide +kernel
theorem dX10_scan_41 : decode cX10_scan 41 = .ok (.getfield 24, 3) := by decide +kernel
theorem dX10_scan_44 : decode cX10_scan 44 = .ok (.aload_n 0, 1) := by decide +kernel
theorem dX10_scan_45 : decode cX10_scan 45 = .ok (.getfield 34, 3) := by decide +kernel
theorem dX10_scan_48 : decode cX10_scan 48 = .ok (.iconst 1, 1) := by decide +kernel
theorem dX10_scan_49 : decode cX10_scan 49 = .ok (.isub, 1) := by decide +kernel
theorem dX10_scan_50 : decode cX10_scan 50 = .ok (.invokevirtual 45, 3) := by decide +kernel
theorem dX10_scan_53 : decode cX10_scan 53 = .ok (.iadd, 1) := by decide +kernel
theorem dX10_scan_54 : decode cX10_scan 54 = .ok (.invokevirtual 37, 3) := by decide +kernel
theorem dX10_scan_57 : decode cX10_scan 57 = .ok (.istore_n 2, 1) := by decide +kernel
theorem dX10_scan_58 : decode cX10_scan 58 = .ok (.iinc 3 1, 3) := by decide +kernel
theorem dX10_scan_61 : decode cX10_scan 61 = .ok (.goto (-43), 3) := by decide +kernel
theorem dX10_scan_64 : decode cX10_scan 64 = .ok (.aload_n 0, 1) := by decide +kernel
theorem dX10_scan_65 : decode cX10_scan 65 = .ok (.iload_n 2, 1) := by decide +kernel
theorem dX10_scan_66 : decode cX10_scan 66 = .ok (.iload_n 1, 1) := by decide +kernel
theorem dX10_scan_67 : decode cX10_scan 67 = .ok (.if_icmp .ge 8, 3) := by decide +kernel
theorem dX10_scan_70 : decode cX10_scan 70 = .ok (.bipush 50, 2) := by decide +kernel
theorem dX10_scan_72 : decode cX10_scan 72 = .ok (.goto 5, 3) := by decide +kernel
theorem dX10_scan_75 : decode cX10_scan 75 = .ok (.bipush 49, 2) := by decide +kernel
theorem dX10_scan_77 : decode cX10_scan 77 = .ok (.iload_n 2, 1) := by decide +kernel
theorem dX10_scan_78 : decode cX10_scan 78 = .ok (.iconst 0, 1) := by decide +kernel
theorem dX10_scan_79 : decode cX10_scan 79 = .ok (.iconst 0, 1) := by decide +kernel
theorem dX10_scan_80 : decode cX10_scan 80 = .ok (.invokevirtual 50, 3) := by decide +kernel
theorem dX10_scan_83 : decode cX10_scan 83 = .ok (.return_, 1) := by decide +kernel
theorem dX10_behindBlanks_0 : decode cX10_behindBlanks 0 = .ok (.iload_n 1, 1) := by decide +kernel
theorem dX10_behindBlanks_1 : decode cX10_behindBlanks 1 = .ok (.istore_n 2, 1) := by decide +kernel
theorem dX10_behindBlanks_2 : decode cX10_behindBlanks 2 = .ok (.iload_n 2, 1) := by decide +kernel
theorem dX10_behindBlanks_3 : decode cX10_behindBlanks 3 = .ok (.aload_n 0, 1) := by decide +kernel
theorem dX10_behindBlanks_4 : decode cX10_behindBlanks 4 = .ok (.getfield 30, 3) := by decide +kernel
theorem dX10_behindBlanks_7 : decode cX10_behindBlanks 7 = .ok (.if_icmp .ge 35, 3) := by decide +kernel
theorem dX10_behindBlanks_10 : decode cX10_behindBlanks 10 = .ok (.aload_n 0, 1) := by decide +kernel
theorem dX10_behindBlanks_11 : decode cX10_behindBlanks 11 = .ok (.getfield 7, 3) := by decide +kernel
theorem dX10_behindBlanks_14 : decode cX10_behindBlanks 14 = .ok (.iload_n 2, 1) := by decide +kernel
theorem dX10_behindBlanks_15 : decode cX10_behindBlanks 15 = .ok (.invokevirtual 45, 3) := by decide +kernel
theorem dX10_behindBlanks_18 : decode cX10_behindBlanks 18 = .ok (.bipush 32, 2) := by decide +kernel
theorem dX10_behindBlanks_20 : decode cX10_behindBlanks 20 = .ok (.if_icmp .eq 16, 3) := by decide +kernel
theorem dX10_behindBlanks_23 : decode cX10_behindBlanks 23 = .ok (.aload_n 0, 1) := by decide +kernel
theorem dX10_behindBlanks_24 : decode cX10_behindBlanks 24 = .ok (.getfield 7, 3) := by decide +kernel
theorem dX10_behindBlanks_27 : decode cX10_behindBlanks 27 = .ok (.iload_n 2, 1) := by decide +kernel
theorem dX10_behindBlanks_28 : decode cX10_behindBlanks 28 = .ok (.invokevirtual 45, 3) := by decide +kernel
theorem dX10_behindBlanks_31 : decode cX10_behindBlanks 31 = .ok (.bipush 10, 2) := by decide +kernel
theorem dX10_behindBlanks_33 : decode cX10_behindBlanks 33 = .ok (.if_icmp .ne 9, 3) := by decide +kernel
theorem dX10_behindBlanks_36 : decode cX10_behindBlanks 36 = .ok (.iinc 2 1, 3) := by decide +kernel
theorem dX10_behindBlanks_39 : decode cX10_behindBlanks 39 = .ok (.goto (-37), 3) := by decide +kernel
theorem dX10_behindBlanks_42 : decode cX10_behindBlanks 42 = .ok (.iload_n 2, 1) := by decide +kernel
theorem dX10_behindBlanks_43 : decode cX10_behindBlanks 43 = .ok (.ireturn, 1) := by decide +kernel
theorem dX10_reads_0 : decode cX10_reads 0 = .ok (.aload_n 0, 1) := by decide +kernel
theorem dX10_reads_1 : decode cX10_reads 1 = .ok (.getfield 7, 3) := by decide +kernel
theorem dX10_reads_4 : decode cX10_reads 4 = .ok (.iload_n 1, 1) := by decide +kernel
theorem dX10_reads_5 : decode cX10_reads 5 = .ok (.invokevirtual 45, 3) := by decide +kernel
theorem dX10_reads_8 : decode cX10_reads 8 = .ok (.istore_n 2, 1) := by decide +kernel
theorem dX10_reads_9 : decode cX10_reads 9 = .ok (.iload_n 2, 1) := by decide +kernel
theorem dX10_reads_10 : decode cX10_reads 10 = .ok (.invokestatic 54, 3) := by decide +kernel
theorem dX10_reads_13 : decode cX10_reads 13 = .ok (.ifCond .eq 9, 3) := by decide +kernel
theorem dX10_reads_16 : decode cX10_reads 16 = .ok (.aload_n 0, 1) := by decide +kernel
theorem dX10_reads_17 : decode cX10_reads 17 = .ok (.iload_n 1, 1) := by decide +kernel
theorem dX10_reads_18 : decode cX10_reads 18 = .ok (.invokevirtual 57, 3) := by decide +kernel
theorem dX10_reads_21 : decode cX10_reads 21 = .ok (.ireturn, 1) := by decide +kernel
theorem dX10_reads_22 : decode cX10_reads 22 = .ok (.iload_n 2, 1) := by decide +kernel
theorem dX10_reads_23 : decode cX10_reads 23 = .ok (.invokestatic 60, 3) := by decide +kernel
theorem dX10_reads_26 : decode cX10_reads 26 = .ok (.ifCond .eq 11, 3) := by decide +kernel
theorem dX10_reads_29 : decode cX10_reads 29 = .ok (.aload_n 0, 1) := by decide +kernel
theorem dX10_reads_30 : decode cX10_reads 30 = .ok (.iload_n 1, 1) := by decide +kernel
theorem dX10_reads_31 : decode cX10_reads 31 = .ok (.invokevirtual 63, 3) := by decide +kernel
theorem dX10_reads_34 : decode cX10_reads 34 = .ok (.goto 9, 3) := by decide +kernel
theorem dX10_reads_37 : decode cX10_reads 37 = .ok (.aload_n 0, 1) := by decide +kernel
theorem dX10_reads_38 : decode cX10_reads 38 = .ok (.iload_n 1, 1) := by decide +kernel
theorem dX10_reads_39 : decode cX10_reads 39 = .ok (.iload_n 2, 1) := by decide +kernel
theorem dX10_reads_40 : decode cX10_reads 40 = .ok (.invokevirtual 66, 3) := by decide +kernel
theorem dX10_reads_43 : decode cX10_reads 43 = .ok (.ireturn, 1) := by decide +kernel
theorem dX10_readsWord_0 : decode cX10_readsWord 0 = .ok (.iload_n 1, 1) := by decide +kernel
theorem dX10_readsWord_1 : decode cX10_readsWord 1 = .ok (.iconst 1, 1) := by decide +kernel
theorem dX10_readsWord_2 : decode cX10_readsWord 2 = .ok (.iadd, 1) := by decide +kernel
theorem dX10_readsWord_3 : decode cX10_readsWord 3 = .ok (.istore_n 2, 1) := by decide +kernel
theorem dX10_readsWord_4 : decode cX10_readsWord 4 = .ok (.iload_n 2, 1) := by decide +kernel
theorem dX10_readsWord_5 : decode cX10_readsWord 5 = .ok (.aload_n 0, 1) := by decide +kernel
theorem dX10_readsWord_6 : decode cX10_readsWord 6 = .ok (.getfield 30, 3) := by decide +kernel
theorem dX10_readsWord_9 : decode cX10_readsWord 9 = .ok (.if_icmp .ge 37, 3) := by decide +kernel
theorem dX10_readsWord_12 : decode cX10_readsWord 12 = .ok (.aload_n 0, 1) := by decide +kernel
theorem dX10_readsWord_13 : decode cX10_readsWord 13 = .ok (.getfield 7, 3) := by decide +kernel
theorem dX10_readsWord_16 : decode cX10_readsWord 16 = .ok (.iload_n 2, 1) := by decide +kernel
theorem dX10_readsWord_17 : decode cX10_readsWord 17 = .ok (.invokevirtual 45, 3) := by decide +kernel
theorem dX10_readsWord_20 : decode cX10_readsWord 20 = .ok (.invokestatic 54, 3) := by decide +kernel
theorem dX10_readsWord_23 : decode cX10_readsWord 23 = .ok (.ifCond .ne 17, 3) := by decide +kernel
theorem dX10_readsWord_26 : decode cX10_readsWord 26 = .ok (.aload_n 0, 1) := by decide +kernel
theorem dX10_readsWord_27 : decode cX10_readsWord 27 = .ok (.getfield 7, 3) := by decide +kernel
theorem dX10_readsWord_30 : decode cX10_readsWord 30 = .ok (.iload_n 2, 1) := by decide +kernel
theorem dX10_readsWord_31 : decode cX10_readsWord 31 = .ok (.invokevirtual 45, 3) := by decide +kernel
theorem dX10_readsWord_34 : decode cX10_readsWord 34 = .ok (.invokestatic 60, 3) := by decide +kernel
theorem dX10_readsWord_37 : decode cX10_readsWord 37 = .ok (.ifCond .eq 9, 3) := by decide +kernel
theorem dX10_readsWord_40 : decode cX10_readsWord 40 = .ok (.iinc 2 1, 3) := by decide +kernel
theorem dX10_readsWord_43 : decode cX10_readsWord 43 = .ok (.goto (-39), 3) := by decide +kernel
theorem dX10_readsWord_46 : decode cX10_readsWord 46 = .ok (.iload_n 2, 1) := by decide +kernel
theorem dX10_readsWord_47 : decode cX10_readsWord 47 = .ok (.iload_n 1, 1) := by decide +kernel
theorem dX10_readsWord_48 : decode cX10_readsWord 48 = .ok (.isub, 1) := by decide +kernel
theorem dX10_readsWord_49 : decode cX10_readsWord 49 = .ok (.bipush 10, 2) := by decide +kernel
theorem dX10_readsWord_51 : decode cX10_readsWord 51 = .ok (.if_icmp .le 5, 3) := by decide +kernel
theorem dX10_readsWord_54 : decode cX10_readsWord 54 = .ok (.iconst 0, 1) := by decide +kernel
theorem dX10_readsWord_55 : decode cX10_readsWord 55 = .ok (.ireturn, 1) := by decide +kernel
theorem dX10_readsWord_56 : decode cX10_readsWord 56 = .ok (.aload_n 0, 1) := by decide +kernel
theorem dX10_readsWord_57 : decode cX10_readsWord 57 = .ok (.iload_n 1, 1) := by decide +kernel
theorem dX10_readsWord_58 : decode cX10_readsWord 58 = .ok (.iload_n 2, 1) := by decide +kernel
theorem dX10_readsWord_59 : decode cX10_readsWord 59 = .ok (.iload_n 1, 1) := by decide +kernel
theorem dX10_readsWord_60 : decode cX10_readsWord 60 = .ok (.isub, 1) := by decide +kernel
theorem dX10_readsWord_61 : decode cX10_readsWord 61 = .ok (.invokevirtual 70, 3) := by decide +kernel
theorem dX10_readsWord_64 : decode cX10_readsWord 64 = .ok (.istore_n 3, 1) := by decide +kernel
theorem dX10_readsWord_65 : decode cX10_readsWord 65 = .ok (.aload_n 0, 1) := by decide +kernel
theorem dX10_readsWord_66 : decode cX10_readsWord 66 = .ok (.iload_n 3, 1) := by decide +kernel
theorem dX10_readsWord_67 : decode cX10_readsWord 67 = .ok (.iload_n 1, 1) := by decide +kernel
theorem dX10_readsWord_68 : decode cX10_readsWord 68 = .ok (.iload_n 2, 1) := by decide +kernel
theorem dX10_readsWord_69 : decode cX10_readsWord 69 = .ok (.iload_n 1, 1) := by decide +kernel
theorem dX10_readsWord_70 : decode cX10_readsWord 70 = .ok (.isub, 1) := by decide +kernel
theorem dX10_readsWord_71 : decode cX10_readsWord 71 = .ok (.iload_n 3, 1) := by decide +kernel
theorem dX10_readsWord_72 : decode cX10_readsWord 72 = .ok (.bipush 47, 2) := by decide +kernel
theorem dX10_readsWord_74 : decode cX10_readsWord 74 = .ok (.if_icmp .ne 14, 3) := by decide +kernel
theorem dX10_readsWord_77 : decode cX10_readsWord 77 = .ok (.aload_n 0, 1) := by decide +kernel
theorem dX10_readsWord_78 : decode cX10_readsWord 78 = .ok (.iload_n 1, 1) := by decide +kernel
theorem dX10_readsWord_79 : decode cX10_readsWord 79 = .ok (.iload_n 2, 1) := by decide +kernel
theorem dX10_readsWord_80 : decode cX10_readsWord 80 = .ok (.iload_n 1, 1) := by decide +kernel
theorem dX10_readsWord_81 : decode cX10_readsWord 81 = .ok (.isub, 1) := by decide +kernel
theorem dX10_readsWord_82 : decode cX10_readsWord 82 = .ok (.invokevirtual 74, 3) := by decide +kernel
theorem dX10_readsWord_85 : decode cX10_readsWord 85 = .ok (.goto 4, 3) := by decide +kernel
theorem dX10_readsWord_88 : decode cX10_readsWord 88 = .ok (.iconst 0, 1) := by decide +kernel
theorem dX10_readsWord_89 : decode cX10_readsWord 89 = .ok (.invokevirtual 50, 3) := by decide +kernel
theorem dX10_readsWord_92 : decode cX10_readsWord 92 = .ok (.iconst 1, 1) := by decide +kernel
theorem dX10_readsWord_93 : decode cX10_readsWord 93 = .ok (.ireturn, 1) := by decide +kernel
theorem dX10_readsNumber_0 : decode cX10_readsNumber 0 = .ok (.iload_n 1, 1) := by decide +kernel
theorem dX10_readsNumber_1 : decode cX10_readsNumber 1 = .ok (.istore_n 2, 1) := by decide +kernel
theorem dX10_readsNumber_2 : decode cX10_readsNumber 2 = .ok (.iconst 0, 1) := by decide +kernel
theorem dX10_readsNumber_3 : decode cX10_readsNumber 3 = .ok (.istore_n 3, 1) := by decide +kernel
theorem dX10_readsNumber_4 : decode cX10_readsNumber 4 = .ok (.iload_n 2, 1) := by decide +kernel
theorem dX10_readsNumber_5 : decode cX10_readsNumber 5 = .ok (.aload_n 0, 1) := by decide +kernel
theorem dX10_readsNumber_6 : decode cX10_readsNumber 6 = .ok (.getfield 30, 3) := by decide +kernel
theorem dX10_readsNumber_9 : decode cX10_readsNumber 9 = .ok (.if_icmp .ge 40, 3) := by decide +kernel
theorem dX10_readsNumber_12 : decode cX10_readsNumber 12 = .ok (.aload_n 0, 1) := by decide +kernel
theorem dX10_readsNumber_13 : decode cX10_readsNumber 13 = .ok (.getfield 7, 3) := by decide +kernel
theorem dX10_readsNumber_16 : decode cX10_readsNumber 16 = .ok (.iload_n 2, 1) := by decide +kernel
theorem dX10_readsNumber_17 : decode cX10_readsNumber 17 = .ok (.invokevirtual 45, 3) := by decide +kernel
theorem dX10_readsNumber_20 : decode cX10_readsNumber 20 = .ok (.invokestatic 60, 3) := by decide +kernel
theorem dX10_readsNumber_23 : decode cX10_readsNumber 23 = .ok (.ifCond .eq 26, 3) := by decide +kernel
theorem dX10_readsNumber_26 : decode cX10_readsNumber 26 = .ok (.iload_n 3, 1) := by decide +kernel
theorem dX10_readsNumber_27 : decode cX10_readsNumber 27 = .ok (.bipush 10, 2) := by decide +kernel
theorem dX10_readsNumber_29 : decode cX10_readsNumber 29 = .ok (.imul, 1) := by decide +kernel
theorem dX10_readsNumber_30 : decode cX10_readsNumber 30 = .ok (.aload_n 0, 1) := by decide +kernel
theorem dX10_readsNumber_31 : decode cX10_readsNumber 31 = .ok (.getfield 7, 3) := by decide +kernel
theorem dX10_readsNumber_34 : decode cX10_readsNumber 34 = .ok (.iload_n 2, 1) := by decide +kernel
theorem dX10_readsNumber_35 : decode cX10_readsNumber 35 = .ok (.invokevirtual 45, 3) := by decide +kernel
theorem dX10_readsNumber_38 : decode cX10_readsNumber 38 = .ok (.iadd, 1) := by decide +kernel
theorem dX10_readsNumber_39 : decode cX10_readsNumber 39 = .ok (.bipush 48, 2) := by decide +kernel
theorem dX10_readsNumber_41 : decode cX10_readsNumber 41 = .ok (.isub, 1) := by decide +kernel
theorem dX10_readsNumber_42 : decode cX10_readsNumber 42 = .ok (.istore_n 3, 1) := by decide +kernel
theorem dX10_readsNumber_43 : decode cX10_readsNumber 43 = .ok (.iinc 2 1, 3) := by decide +kernel
theorem dX10_readsNumber_46 : decode cX10_readsNumber 46 = .ok (.goto (-42), 3) := by decide +kernel
theorem dX10_readsNumber_49 : decode cX10_readsNumber 49 = .ok (.iload_n 2, 1) := by decide +kernel
theorem dX10_readsNumber_50 : decode cX10_readsNumber 50 = .ok (.iload_n 1, 1) := by decide +kernel
theorem dX10_readsNumber_51 : decode cX10_readsNumber 51 = .ok (.isub, 1) := by decide +kernel
theorem dX10_readsNumber_52 : decode cX10_readsNumber 52 = .ok (.bipush 6, 2) := by decide +kernel
theorem dX10_readsNumber_54 : decode cX10_readsNumber 54 = .ok (.if_icmp .le 5, 3) := by decide +kernel
theorem dX10_readsNumber_57 : decode cX10_readsNumber 57 = .ok (.iconst 0, 1) := by decide +kernel
theorem dX10_readsNumber_58 : decode cX10_readsNumber 58 = .ok (.ireturn, 1) := by decide +kernel
theorem dX10_readsNumber_59 : decode cX10_readsNumber 59 = .ok (.aload_n 0, 1) := by decide +kernel
theorem dX10_readsNumber_60 : decode cX10_readsNumber 60 = .ok (.bipush 48, 2) := by decide +kernel
theorem dX10_readsNumber_62 : decode cX10_readsNumber 62 = .ok (.iload_n 1, 1) := by decide +kernel
theorem dX10_readsNumber_63 : decode cX10_readsNumber 63 = .ok (.iload_n 2, 1) := by decide +kernel
theorem dX10_readsNumber_64 : decode cX10_readsNumber 64 = .ok (.iload_n 1, 1) := by decide +kernel
theorem dX10_readsNumber_65 : decode cX10_readsNumber 65 = .ok (.isub, 1) := by decide +kernel
theorem dX10_readsNumber_66 : decode cX10_readsNumber 66 = .ok (.iload_n 3, 1) := by decide +kernel
theorem dX10_readsNumber_67 : decode cX10_readsNumber 67 = .ok (.invokevirtual 50, 3) := by decide +kernel
theorem dX10_readsNumber_70 : decode cX10_readsNumber 70 = .ok (.iconst 1, 1) := by decide +kernel
theorem dX10_readsNumber_71 : decode cX10_readsNumber 71 = .ok (.ireturn, 1) := by decide +kernel
theorem dX10_readsSign_0 : decode cX10_readsSign 0 = .ok (.ldc 77, 2) := by decide +kernel
theorem dX10_readsSign_2 : decode cX10_readsSign 2 = .ok (.iload_n 2, 1) := by decide +kernel
theorem dX10_readsSign_3 : decode cX10_readsSign 3 = .ok (.i2c, 1) := by decide +kernel
theorem dX10_readsSign_4 : decode cX10_readsSign 4 = .ok (.invokevirtual 79, 3) := by decide +kernel
theorem dX10_readsSign_7 : decode cX10_readsSign 7 = .ok (.istore_n 3, 1) := by decide +kernel
theorem dX10_readsSign_8 : decode cX10_readsSign 8 = .ok (.iload_n 3, 1) := by decide +kernel
theorem dX10_readsSign_9 : decode cX10_readsSign 9 = .ok (.ifCond .ge 5, 3) := by decide +kernel
theorem dX10_readsSign_12 : decode cX10_readsSign 12 = .ok (.iconst 0, 1) := by decide +kernel
theorem dX10_readsSign_13 : decode cX10_readsSign 13 = .ok (.ireturn, 1) := by decide +kernel
theorem dX10_readsSign_14 : decode cX10_readsSign 14 = .ok (.iload_n 1, 1) := by decide +kernel
theorem dX10_readsSign_15 : decode cX10_readsSign 15 = .ok (.iconst 1, 1) := by decide +kernel
theorem dX10_readsSign_16 : decode cX10_readsSign 16 = .ok (.iadd, 1) := by decide +kernel
theorem dX10_readsSign_17 : decode cX10_readsSign 17 = .ok (.aload_n 0, 1) := by decide +kernel
theorem dX10_readsSign_18 : decode cX10_readsSign 18 = .ok (.getfield 30, 3) := by decide +kernel
theorem dX10_readsSign_21 : decode cX10_readsSign 21 = .ok (.if_icmp .ge 22, 3) := by decide +kernel
theorem dX10_readsSign_24 : decode cX10_readsSign 24 = .ok (.aload_n 0, 1) := by decide +kernel
theorem dX10_readsSign_25 : decode cX10_readsSign 25 = .ok (.getfield 7, 3) := by decide +kernel
theorem dX10_readsSign_28 : decode cX10_readsSign 28 = .ok (.iload_n 1, 1) := by decide +kernel
theorem dX10_readsSign_29 : decode cX10_readsSign 29 = .ok (.iconst 1, 1) := by decide +kernel
theorem dX10_readsSign_30 : decode cX10_readsSign 30 = .ok (.iadd, 1) := by decide +kernel
theorem dX10_readsSign_31 : decode cX10_readsSign 31 = .ok (.invokevirtual 45, 3) := by decide +kernel
theorem dX10_readsSign_34 : decode cX10_readsSign 34 = .ok (.bipush 61, 2) := by decide +kernel
theorem dX10_readsSign_36 : decode cX10_readsSign 36 = .ok (.if_icmp .ne 7, 3) := by decide +kernel
theorem dX10_readsSign_39 : decode cX10_readsSign 39 = .ok (.iconst 1, 1) := by decide +kernel
theorem dX10_readsSign_40 : decode cX10_readsSign 40 = .ok (.goto 4, 3) := by decide +kernel
theorem dX10_readsSign_43 : decode cX10_readsSign 43 = .ok (.iconst 0, 1) := by decide +kernel
theorem dX10_readsSign_44 : decode cX10_readsSign 44 = .ok (.istore 4, 2) := by decide +kernel
theorem dX10_readsSign_46 : decode cX10_readsSign 46 = .ok (.iload_n 2, 1) := by decide +kernel
theorem dX10_readsSign_47 : decode cX10_readsSign 47 = .ok (.bipush 60, 2) := by decide +kernel
theorem dX10_readsSign_49 : decode cX10_readsSign 49 = .ok (.if_icmp .ne 20, 3) := by decide +kernel
theorem dX10_readsSign_52 : decode cX10_readsSign 52 = .ok (.iload 4, 2) := by decide +kernel
theorem dX10_readsSign_54 : decode cX10_readsSign 54 = .ok (.ifCond .eq 15, 3) := by decide +kernel
theorem dX10_readsSign_57 : decode cX10_readsSign 57 = .ok (.aload_n 0, 1) := by decide +kernel
theorem dX10_readsSign_58 : decode cX10_readsSign 58 = .ok (.bipush 45, 2) := by decide +kernel
theorem dX10_readsSign_60 : decode cX10_readsSign 60 = .ok (.iload_n 1, 1) := by decide +kernel
theorem dX10_readsSign_61 : decode cX10_readsSign 61 = .ok (.iconst 2, 1) := by decide +kernel
theorem dX10_readsSign_62 : decode cX10_readsSign 62 = .ok (.iconst 0, 1) := by decide +kernel
theorem dX10_readsSign_63 : decode cX10_readsSign 63 = .ok (.invokevirtual 50, 3) := by decide +kernel
theorem dX10_readsSign_66 : decode cX10_readsSign 66 = .ok (.goto 37, 3) := by decide +kernel
theorem dX10_readsSign_69 : decode cX10_readsSign 69 = .ok (.iload_n 2, 1) := by decide +kernel
theorem dX10_readsSign_70 : decode cX10_readsSign 70 = .ok (.bipush 62, 2) := by decide +kernel
theorem dX10_readsSign_72 : decode cX10_readsSign 72 = .ok (.if_icmp .ne 20, 3) := by decide +kernel
theorem dX10_readsSign_75 : decode cX10_readsSign 75 = .ok (.iload 4, 2) := by decide +kernel
theorem dX10_readsSign_77 : decode cX10_readsSign 77 = .ok (.ifCond .eq 15, 3) := by decide +kernel
theorem dX10_readsSign_80 : decode cX10_readsSign 80 = .ok (.aload_n 0, 1) := by decide +kernel
theorem dX10_readsSign_81 : decode cX10_readsSign 81 = .ok (.bipush 46, 2) := by decide +kernel
theorem dX10_readsSign_83 : decode cX10_readsSign 83 = .ok (.iload_n 1, 1) := by decide +kernel
theorem dX10_readsSign_84 : decode cX10_readsSign 84 = .ok (.iconst 2, 1) := by decide +kernel
theorem dX10_readsSign_85 : decode cX10_readsSign 85 = .ok (.iconst 0, 1) := by decide +kernel
theorem dX10_readsSign_86 : decode cX10_readsSign 86 = .ok (.invokevirtual 50, 3) := by decide +kernel
theorem dX10_readsSign_89 : decode cX10_readsSign 89 = .ok (.goto 14, 3) := by decide +kernel
theorem dX10_readsSign_92 : decode cX10_readsSign 92 = .ok (.aload_n 0, 1) := by decide +kernel
theorem dX10_readsSign_93 : decode cX10_readsSign 93 = .ok (.bipush 32, 2) := by decide +kernel
theorem dX10_readsSign_95 : decode cX10_readsSign 95 = .ok (.iload_n 3, 1) := by decide +kernel
theorem dX10_readsSign_96 : decode cX10_readsSign 96 = .ok (.iadd, 1) := by decide +kernel
theorem dX10_readsSign_97 : decode cX10_readsSign 97 = .ok (.iload_n 1, 1) := by decide +kernel
theorem dX10_readsSign_98 : decode cX10_readsSign 98 = .ok (.iconst 1, 1) := by decide +kernel
theorem dX10_readsSign_99 : decode cX10_readsSign 99 = .ok (.iconst 0, 1) := by decide +kernel
theorem dX10_readsSign_100 : decode cX10_readsSign 100 = .ok (.invokevirtual 50, 3) := by decide +kernel
theorem dX10_readsSign_103 : decode cX10_readsSign 103 = .ok (.iconst 1, 1) := by decide +kernel
theorem dX10_readsSign_104 : decode cX10_readsSign 104 = .ok (.ireturn, 1) := by decide +kernel
theorem dX10_keyword_0 : decode cX10_keyword 0 = .ok (.iconst 0, 1) := by decide +kernel
theorem dX10_keyword_1 : decode cX10_keyword 1 = .ok (.istore_n 3, 1) := by decide +kernel
theorem dX10_keyword_2 : decode cX10_keyword 2 = .ok (.iconst 0, 1) := by decide +kernel
theorem dX10_keyword_3 : decode cX10_keyword 3 = .ok (.istore 4, 2) := by decide +kernel
theorem dX10_keyword_5 : decode cX10_keyword 5 = .ok (.iconst 0, 1) := by decide +kernel
theorem dX10_keyword_6 : decode cX10_keyword 6 = .ok (.istore 5, 2) := by decide +kernel
theorem dX10_keyword_8 : decode cX10_keyword 8 = .ok (.iload 5, 2) := by decide +kernel
theorem dX10_keyword_10 : decode cX10_keyword 10 = .ok (.ldc 84, 2) := by decide +kernel
theorem dX10_keyword_12 : decode cX10_keyword 12 = .ok (.invokevirtual 86, 3) := by decide +kernel
theorem dX10_keyword_15 : decode cX10_keyword 15 = .ok (.if_icmp .ge 52, 3) := by decide +kernel
theorem dX10_keyword_18 : decode cX10_keyword 18 = .ok (.ldc 84, 2) := by decide +kernel
theorem dX10_keyword_20 : decode cX10_keyword 20 = .ok (.iload 5, 2) := by decide +kernel
theorem dX10_keyword_22 : decode cX10_keyword 22 = .ok (.invokevirtual 89, 3) := by decide +kernel
theorem dX10_keyword_25 : decode cX10_keyword 25 = .ok (.bipush 32, 2) := by decide +kernel
theorem dX10_keyword_27 : decode cX10_keyword 27 = .ok (.if_icmp .ne 34, 3) := by decide +kernel
theorem dX10_keyword_30 : decode cX10_keyword 30 = .ok (.iload 5, 2) := by decide +kernel
theorem dX10_keyword_32 : decode cX10_keyword 32 = .ok (.iload 4, 2) := by decide +kernel
theorem dX10_keyword_34 : decode cX10_keyword 34 = .ok (.isub, 1) := by decide +kernel
theorem dX10_keyword_35 : decode cX10_keyword 35 = .ok (.iload_n 2, 1) := by decide +kernel
theorem dX10_keyword_36 : decode cX10_keyword 36 = .ok (.if_icmp .ne 16, 3) := by decide +kernel
theorem dX10_keyword_39 : decode cX10_keyword 39 = .ok (.aload_n 0, 1) := by decide +kernel
theorem dX10_keyword_40 : decode cX10_keyword 40 = .ok (.iload 4, 2) := by decide +kernel
theorem dX10_keyword_42 : decode cX10_keyword 42 = .ok (.iload_n 1, 1) := by decide +kernel
theorem dX10_keyword_43 : decode cX10_keyword 43 = .ok (.iload_n 2, 1) := by decide +kernel
theorem dX10_keyword_44 : decode cX10_keyword 44 = .ok (.invokevirtual 93, 3) := by decide +kernel
theorem dX10_keyword_47 : decode cX10_keyword 47 = .ok (.ifCond .eq 5, 3) := by decide +kernel
theorem dX10_keyword_50 : decode cX10_keyword 50 = .ok (.iload_n 3, 1) := by decide +kernel
theorem dX10_keyword_51 : decode cX10_keyword 51 = .ok (.ireturn, 1) := by decide +kernel
theorem dX10_keyword_52 : decode cX10_keyword 52 = .ok (.iinc 3 1, 3) := by decide +kernel
theorem dX10_keyword_55 : decode cX10_keyword 55 = .ok (.iload 5, 2) := by decide +kernel
theorem dX10_keyword_57 : decode cX10_keyword 57 = .ok (.iconst 1, 1) := by decide +kernel
theorem dX10_keyword_58 : decode cX10_keyword 58 = .ok (.iadd, 1) := by decide +kernel
theorem dX10_keyword_59 : decode cX10_keyword 59 = .ok (.istore 4, 2) := by decide +kernel
theorem dX10_keyword_61 : decode cX10_keyword 61 = .ok (.iinc 5 1, 3) := by decide +kernel
theorem dX10_keyword_64 : decode cX10_keyword 64 = .ok (.goto (-56), 3) := by decide +kernel
theorem dX10_keyword_67 : decode cX10_keyword 67 = .ok (.bipush 47, 2) := by decide +kernel
theorem dX10_keyword_69 : decode cX10_keyword 69 = .ok (.ireturn, 1) := by decide +kernel
theorem dX10_spells_0 : decode cX10_spells 0 = .ok (.iconst 0, 1) := by decide +kernel
theorem dX10_spells_1 : decode cX10_spells 1 = .ok (.istore 4, 2) := by decide +kernel
theorem dX10_spells_3 : decode cX10_spells 3 = .ok (.iload 4, 2) := by decide +kernel
theorem dX10_spells_5 : decode cX10_spells 5 = .ok (.iload_n 3, 1) := by decide +kernel
theorem dX10_spells_6 : decode cX10_spells 6 = .ok (.if_icmp .ge 46, 3) := by decide +kernel
theorem dX10_spells_9 : decode cX10_spells 9 = .ok (.iload_n 1, 1) := by decide +kernel
theorem dX10_spells_10 : decode cX10_spells 10 = .ok (.iload 4, 2) := by decide +kernel
theorem dX10_spells_12 : decode cX10_spells 12 = .ok (.iadd, 1) := by decide +kernel
theorem dX10_spells_13 : decode cX10_spells 13 = .ok (.ldc 84, 2) := by decide +kernel
theorem dX10_spells_15 : decode cX10_spells 15 = .ok (.invokevirtual 86, 3) := by decide +kernel
theorem dX10_spells_18 : decode cX10_spells 18 = .ok (.if_icmp .ge 26, 3) := by decide +kernel
theorem dX10_spells_21 : decode cX10_spells 21 = .ok (.ldc 84, 2) := by decide +kernel
theorem dX10_spells_23 : decode cX10_spells 23 = .ok (.iload_n 1, 1) := by decide +kernel
theorem dX10_spells_24 : decode cX10_spells 24 = .ok (.iload 4, 2) := by decide +kernel
theorem dX10_spells_26 : decode cX10_spells 26 = .ok (.iadd, 1) := by decide +kernel
theorem dX10_spells_27 : decode cX10_spells 27 = .ok (.invokevirtual 89, 3) := by decide +kernel
theorem dX10_spells_30 : decode cX10_spells 30 = .ok (.aload_n 0, 1) := by decide +kernel
theorem dX10_spells_31 : decode cX10_spells 31 = .ok (.getfield 7, 3) := by decide +kernel
theorem dX10_spells_34 : decode cX10_spells 34 = .ok (.iload_n 2, 1) := by decide +kernel
theorem dX10_spells_35 : decode cX10_spells 35 = .ok (.iload 4, 2) := by decide +kernel
theorem dX10_spells_37 : decode cX10_spells 37 = .ok (.iadd, 1) := by decide +kernel
theorem dX10_spells_38 : decode cX10_spells 38 = .ok (.invokevirtual 45, 3) := by decide +kernel
theorem dX10_spells_41 : decode cX10_spells 41 = .ok (.if_icmp .eq 5, 3) := by decide +kernel
theorem dX10_spells_44 : decode cX10_spells 44 = .ok (.iconst 0, 1) := by decide +kernel
theorem dX10_spells_45 : decode cX10_spells 45 = .ok (.ireturn, 1) := by decide +kernel
theorem dX10_spells_46 : decode cX10_spells 46 = .ok (.iinc 4 1, 3) := by decide +kernel
theorem dX10_spells_49 : decode cX10_spells 49 = .ok (.goto (-46), 3) := by decide +kernel
theorem dX10_spells_52 : decode cX10_spells 52 = .ok (.iconst 1, 1) := by decide +kernel
theorem dX10_spells_53 : decode cX10_spells 53 = .ok (.ireturn, 1) := by decide +kernel
theorem dX10_firstWithName_0 : decode cX10_firstWithName 0 = .ok (.iconst 0, 1) := by decide +kernel
theorem dX10_firstWithName_1 : decode cX10_firstWithName 1 = .ok (.istore_n 3, 1) := by decide +kernel
theorem dX10_firstWithName_2 : decode cX10_firstWithName 2 = .ok (.iload_n 3, 1) := by decide +kernel
theorem dX10_firstWithName_3 : decode cX10_firstWithName 3 = .ok (.aload_n 0, 1) := by decide +kernel
theorem dX10_firstWithName_4 : decode cX10_firstWithName 4 = .ok (.getfield 34, 3) := by decide +kernel
theorem dX10_firstWithName_7 : decode cX10_firstWithName 7 = .ok (.if_icmp .ge 53, 3) := by decide +kernel
theorem dX10_firstWithName_10 : decode cX10_firstWithName 10 = .ok (.aload_n 0, 1) := by decide +kernel
theorem dX10_firstWithName_11 : decode cX10_firstWithName 11 = .ok (.getfield 18, 3) := by decide +kernel
theorem dX10_firstWithName_14 : decode cX10_firstWithName 14 = .ok (.iload_n 3, 1) := by decide +kernel
theorem dX10_firstWithName_15 : decode cX10_firstWithName 15 = .ok (.invokevirtual 45, 3) := by decide +kernel
theorem dX10_firstWithName_18 : decode cX10_firstWithName 18 = .ok (.bipush 47, 2) := by decide +kernel
theorem dX10_firstWithName_20 : decode cX10_firstWithName 20 = .ok (.if_icmp .ne 34, 3) := by decide +kernel
theorem dX10_firstWithName_23 : decode cX10_firstWithName 23 = .ok (.aload_n 0, 1) := by decide +kernel
theorem dX10_firstWithName_24 : decode cX10_firstWithName 24 = .ok (.getfield 24, 3) := by decide +kernel
theorem dX10_firstWithName_27 : decode cX10_firstWithName 27 = .ok (.iload_n 3, 1) := by decide +kernel
theorem dX10_firstWithName_28 : decode cX10_firstWithName 28 = .ok (.invokevirtual 45, 3) := by decide +kernel
theorem dX10_firstWithName_31 : decode cX10_firstWithName 31 = .ok (.iload_n 2, 1) := by decide +kernel
theorem dX10_firstWithName_32 : decode cX10_firstWithName 32 = .ok (.if_icmp .ne 22, 3) := by decide +kernel
theorem dX10_firstWithName_35 : decode cX10_firstWithName 35 = .ok (.aload_n 0, 1) := by decide +kernel
theorem dX10_firstWithName_36 : decode cX10_firstWithName 36 = .ok (.aload_n 0, 1) := by decide +kernel
theorem dX10_firstWithName_37 : decode cX10_firstWithName 37 = .ok (.getfield 21, 3) := by decide +kernel
theorem dX10_firstWithName_40 : decode cX10_firstWithName 40 = .ok (.iload_n 3, 1) := by decide +kernel
theorem dX10_firstWithName_41 : decode cX10_firstWithName 41 = .ok (.invokevirtual 45, 3) := by decide +kernel
theorem dX10_firstWithName_44 : decode cX10_firstWithName 44 = .ok (.iload_n 1, 1) := by decide +kernel
theorem dX10_firstWithName_45 : decode cX10_firstWithName 45 = .ok (.iload_n 2, 1) := by decide +kernel
theorem dX10_firstWithName_46 : decode cX10_firstWithName 46 = .ok (.invokevirtual 97, 3) := by decide +kernel
theorem dX10_firstWithName_49 : decode cX10_firstWithName 49 = .ok (.ifCond .eq 5, 3) := by decide +kernel
theorem dX10_firstWithName_52 : decode cX10_firstWithName 52 = .ok (.iload_n 3, 1) := by decide +kernel
theorem dX10_firstWithName_53 : decode cX10_firstWithName 53 = .ok (.ireturn, 1) := by decide +kernel
theorem dX10_firstWithName_54 : decode cX10_firstWithName 54 = .ok (.iinc 3 1, 3) := by decide +kernel
theorem dX10_firstWithName_57 : decode cX10_firstWithName 57 = .ok (.goto (-55), 3) := by decide +kernel
theorem dX10_firstWithName_60 : decode cX10_firstWithName 60 = .ok (.aload_n 0, 1) := by decide +kernel
theorem dX10_firstWithName_61 : decode cX10_firstWithName 61 = .ok (.getfield 34, 3) := by decide +kernel
theorem dX10_firstWithName_64 : decode cX10_firstWithName 64 = .ok (.ireturn, 1) := by decide +kernel
theorem dX10_isSame_0 : decode cX10_isSame 0 = .ok (.iconst 0, 1) := by decide +kernel
theorem dX10_isSame_1 : decode cX10_isSame 1 = .ok (.istore 4, 2) := by decide +kernel
theorem dX10_isSame_3 : decode cX10_isSame 3 = .ok (.iload 4, 2) := by decide +kernel
theorem dX10_isSame_5 : decode cX10_isSame 5 = .ok (.iload_n 3, 1) := by decide +kernel
theorem dX10_isSame_6 : decode cX10_isSame 6 = .ok (.if_icmp .ge 36, 3) := by decide +kernel
theorem dX10_isSame_9 : decode cX10_isSame 9 = .ok (.aload_n 0, 1) := by decide +kernel
theorem dX10_isSame_10 : decode cX10_isSame 10 = .ok (.getfield 7, 3) := by decide +kernel
theorem dX10_isSame_13 : decode cX10_isSame 13 = .ok (.iload_n 1, 1) := by decide +kernel
theorem dX10_isSame_14 : decode cX10_isSame 14 = .ok (.iload 4, 2) := by decide +kernel
theorem dX10_isSame_16 : decode cX10_isSame 16 = .ok (.iadd, 1) := by decide +kernel
theorem dX10_isSame_17 : decode cX10_isSame 17 = .ok (.invokevirtual 45, 3) := by decide +kernel
theorem dX10_isSame_20 : decode cX10_isSame 20 = .ok (.aload_n 0, 1) := by decide +kernel
theorem dX10_isSame_21 : decode cX10_isSame 21 = .ok (.getfield 7, 3) := by decide +kernel
theorem dX10_isSame_24 : decode cX10_isSame 24 = .ok (.iload_n 2, 1) := by decide +kernel
theorem dX10_isSame_25 : decode cX10_isSame 25 = .ok (.iload 4, 2) := by decide +kernel
theorem dX10_isSame_27 : decode cX10_isSame 27 = .ok (.iadd, 1) := by decide +kernel
theorem dX10_isSame_28 : decode cX10_isSame 28 = .ok (.invokevirtual 45, 3) := by decide +kernel
theorem dX10_isSame_31 : decode cX10_isSame 31 = .ok (.if_icmp .eq 5, 3) := by decide +kernel
theorem dX10_isSame_34 : decode cX10_isSame 34 = .ok (.iconst 0, 1) := by decide +kernel
theorem dX10_isSame_35 : decode cX10_isSame 35 = .ok (.ireturn, 1) := by decide +kernel
theorem dX10_isSame_36 : decode cX10_isSame 36 = .ok (.iinc 4 1, 3) := by decide +kernel
theorem dX10_isSame_39 : decode cX10_isSame 39 = .ok (.goto (-36), 3) := by decide +kernel
theorem dX10_isSame_42 : decode cX10_isSame 42 = .ok (.iconst 1, 1) := by decide +kernel
theorem dX10_isSame_43 : decode cX10_isSame 43 = .ok (.ireturn, 1) := by decide +kernel
theorem dX10_add_0 : decode cX10_add 0 = .ok (.aload_n 0, 1) := by decide +kernel
theorem dX10_add_1 : decode cX10_add 1 = .ok (.getfield 18, 3) := by decide +kernel
theorem dX10_add_4 : decode cX10_add 4 = .ok (.aload_n 0, 1) := by decide +kernel
theorem dX10_add_5 : decode cX10_add 5 = .ok (.getfield 34, 3) := by decide +kernel
theorem dX10_add_8 : decode cX10_add 8 = .ok (.iload_n 1, 1) := by decide +kernel
theorem dX10_add_9 : decode cX10_add 9 = .ok (.invokevirtual 100, 3) := by decide +kernel
theorem dX10_add_12 : decode cX10_add 12 = .ok (.aload_n 0, 1) := by decide +kernel
theorem dX10_add_13 : decode cX10_add 13 = .ok (.getfield 21, 3) := by decide +kernel
theorem dX10_add_16 : decode cX10_add 16 = .ok (.aload_n 0, 1) := by decide +kernel
theorem dX10_add_17 : decode cX10_add 17 = .ok (.getfield 34, 3) := by decide +kernel
theorem dX10_add_20 : decode cX10_add 20 = .ok (.iload_n 2, 1) := by decide +kernel
theorem dX10_add_21 : decode cX10_add 21 = .ok (.invokevirtual 100, 3) := by decide +kernel
theorem dX10_add_24 : decode cX10_add 24 = .ok (.aload_n 0, 1) := by decide +kernel
theorem dX10_add_25 : decode cX10_add 25 = .ok (.getfield 24, 3) := by decide +kernel
theorem dX10_add_28 : decode cX10_add 28 = .ok (.aload_n 0, 1) := by decide +kernel
theorem dX10_add_29 : decode cX10_add 29 = .ok (.getfield 34, 3) := by decide +kernel
theorem dX10_add_32 : decode cX10_add 32 = .ok (.iload_n 3, 1) := by decide +kernel
theorem dX10_add_33 : decode cX10_add 33 = .ok (.invokevirtual 100, 3) := by decide +kernel
theorem dX10_add_36 : decode cX10_add 36 = .ok (.aload_n 0, 1) := by decide +kernel
