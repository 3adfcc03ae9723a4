theorem dX0_init_0 : decode cX0_init 0 = .ok (.aload_n 0, 1) := by decide +kernel
theorem dX0_init_1 : decode cX0_init 1 = .ok (.invokespecial 1, 3) := by decide +kernel
theorem dX0_init_4 : decode cX0_init 4 = .ok (.return_, 1) := by decide +kernel
theorem dX0_accesses_0 : decode cX0_accesses 0 = .ok (.aload_n 0, 1) := by decide +kernel
theorem dX0_accesses_1 : decode cX0_accesses 1 = .ok (.getfield 7, 3) := by decide +kernel
theorem dX0_accesses_4 : decode cX0_accesses 4 = .ok (.aload_n 0, 1) := by decide +kernel
theorem dX0_accesses_5 : decode cX0_accesses 5 = .ok (.getfield 13, 3) := by decide +kernel
theorem dX0_accesses_8 : decode cX0_accesses 8 = .ok (.iadd, 1) := by decide +kernel
theorem dX0_accesses_9 : decode cX0_accesses 9 = .ok (.ireturn, 1) := by decide +kernel
theorem dX1_init_0 : decode cX1_init 0 = .ok (.aload_n 0, 1) := by decide +kernel
theorem dX1_init_1 : decode cX1_init 1 = .ok (.invokespecial 3, 3) := by decide +kernel
theorem dX1_init_4 : decode cX1_init 4 = .ok (.aload_n 0, 1) := by decide +kernel
theorem dX1_init_5 : decode cX1_init 5 = .ok (.bipush 64, 2) := by decide +kernel
theorem dX1_init_7 : decode cX1_init 7 = .ok (.newarray .int, 2) := by decide +kernel
theorem dX1_init_9 : decode cX1_init 9 = .ok (.putfield 9, 3) := by decide +kernel
theorem dX1_init_12 : decode cX1_init 12 = .ok (.aload_n 0, 1) := by decide +kernel
theorem dX1_init_13 : decode cX1_init 13 = .ok (.bipush 64, 2) := by decide +kernel
theorem dX1_init_15 : decode cX1_init 15 = .ok (.newarray .int, 2) := by decide +kernel
theorem dX1_init_17 : decode cX1_init 17 = .ok (.putfield 15, 3) := by decide +kernel
theorem dX1_init_20 : decode cX1_init 20 = .ok (.aload_n 0, 1) := by decide +kernel
theorem dX1_init_21 : decode cX1_init 21 = .ok (.bipush 64, 2) := by decide +kernel
theorem dX1_init_23 : decode cX1_init 23 = .ok (.newarray .int, 2) := by decide +kernel
theorem dX1_init_25 : decode cX1_init 25 = .ok (.putfield 18, 3) := by decide +kernel
theorem dX1_init_28 : decode cX1_init 28 = .ok (.aload_n 0, 1) := by decide +kernel
theorem dX1_init_29 : decode cX1_init 29 = .ok (.iload_n 1, 1) := by decide +kernel
theorem dX1_init_30 : decode cX1_init 30 = .ok (.iconst 1, 1) := by decide +kernel
theorem dX1_init_31 : decode cX1_init 31 = .ok (.if_icmp .eq 7, 3) := by decide +kernel
theorem dX1_init_34 : decode cX1_init 34 = .ok (.iconst 1, 1) := by decide +kernel
theorem dX1_init_35 : decode cX1_init 35 = .ok (.goto 4, 3) := by decide +kernel
theorem dX1_init_38 : decode cX1_init 38 = .ok (.iconst 0, 1) := by decide +kernel
theorem dX1_init_39 : decode cX1_init 39 = .ok (.putfield 21, 3) := by decide +kernel
theorem dX1_init_42 : decode cX1_init 42 = .ok (.return_, 1) := by decide +kernel
theorem dX1_reach_0 : decode cX1_reach 0 = .ok (.aload_n 0, 1) := by decide +kernel
theorem dX1_reach_1 : decode cX1_reach 1 = .ok (.getfield 21, 3) := by decide +kernel
theorem dX1_reach_4 : decode cX1_reach 4 = .ok (.ifCond .ne 5, 3) := by decide +kernel
theorem dX1_reach_7 : decode cX1_reach 7 = .ok (.iconst 1, 1) := by decide +kernel
theorem dX1_reach_8 : decode cX1_reach 8 = .ok (.ireturn, 1) := by decide +kernel
theorem dX1_reach_9 : decode cX1_reach 9 = .ok (.iload_n 1, 1) := by decide +kernel
theorem dX1_reach_10 : decode cX1_reach 10 = .ok (.aload_n 0, 1) := by decide +kernel
theorem dX1_reach_11 : decode cX1_reach 11 = .ok (.getfield 25, 3) := by decide +kernel
theorem dX1_reach_14 : decode cX1_reach 14 = .ok (.isub, 1) := by decide +kernel
theorem dX1_reach_15 : decode cX1_reach 15 = .ok (.invokestatic 29, 3) := by decide +kernel
theorem dX1_reach_18 : decode cX1_reach 18 = .ok (.istore_n 2, 1) := by decide +kernel
theorem dX1_reach_19 : decode cX1_reach 19 = .ok (.aload_n 0, 1) := by decide +kernel
theorem dX1_reach_20 : decode cX1_reach 20 = .ok (.iload_n 1, 1) := by decide +kernel
theorem dX1_reach_21 : decode cX1_reach 21 = .ok (.putfield 25, 3) := by decide +kernel
theorem dX1_reach_24 : decode cX1_reach 24 = .ok (.iload_n 2, 1) := by decide +kernel
theorem dX1_reach_25 : decode cX1_reach 25 = .ok (.iconst 1, 1) := by decide +kernel
theorem dX1_reach_26 : decode cX1_reach 26 = .ok (.iadd, 1) := by decide +kernel
theorem dX1_reach_27 : decode cX1_reach 27 = .ok (.ireturn, 1) := by decide +kernel
theorem dX1_put_0 : decode cX1_put 0 = .ok (.aload_n 0, 1) := by decide +kernel
theorem dX1_put_1 : decode cX1_put 1 = .ok (.getfield 9, 3) := by decide +kernel
theorem dX1_put_4 : decode cX1_put 4 = .ok (.iload_n 1, 1) := by decide +kernel
theorem dX1_put_5 : decode cX1_put 5 = .ok (.iload_n 2, 1) := by decide +kernel
theorem dX1_put_6 : decode cX1_put 6 = .ok (.iastore, 1) := by decide +kernel
theorem dX1_put_7 : decode cX1_put 7 = .ok (.aload_n 0, 1) := by decide +kernel
theorem dX1_put_8 : decode cX1_put 8 = .ok (.getfield 15, 3) := by decide +kernel
theorem dX1_put_11 : decode cX1_put 11 = .ok (.iload_n 1, 1) := by decide +kernel
theorem dX1_put_12 : decode cX1_put 12 = .ok (.iload_n 2, 1) := by decide +kernel
theorem dX1_put_13 : decode cX1_put 13 = .ok (.iastore, 1) := by decide +kernel
theorem dX1_put_14 : decode cX1_put 14 = .ok (.aload_n 0, 1) := by decide +kernel
theorem dX1_put_15 : decode cX1_put 15 = .ok (.getfield 18, 3) := by decide +kernel
theorem dX1_put_18 : decode cX1_put 18 = .ok (.iload_n 1, 1) := by decide +kernel
theorem dX1_put_19 : decode cX1_put 19 = .ok (.dup2, 1) := by decide +kernel
theorem dX1_put_20 : decode cX1_put 20 = .ok (.iaload, 1) := by decide +kernel
theorem dX1_put_21 : decode cX1_put 21 = .ok (.iconst 1, 1) := by decide +kernel
theorem dX1_put_22 : decode cX1_put 22 = .ok (.iadd, 1) := by decide +kernel
theorem dX1_put_23 : decode cX1_put 23 = .ok (.iastore, 1) := by decide +kernel
theorem dX1_put_24 : decode cX1_put 24 = .ok (.return_, 1) := by decide +kernel
theorem dX1_isDamaged_0 : decode cX1_isDamaged 0 = .ok (.aload_n 0, 1) := by decide +kernel
theorem dX1_isDamaged_1 : decode cX1_isDamaged 1 = .ok (.getfield 9, 3) := by decide +kernel
theorem dX1_isDamaged_4 : decode cX1_isDamaged 4 = .ok (.iload_n 1, 1) := by decide +kernel
theorem dX1_isDamaged_5 : decode cX1_isDamaged 5 = .ok (.iaload, 1) := by decide +kernel
theorem dX1_isDamaged_6 : decode cX1_isDamaged 6 = .ok (.aload_n 0, 1) := by decide +kernel
theorem dX1_isDamaged_7 : decode cX1_isDamaged 7 = .ok (.getfield 15, 3) := by decide +kernel
theorem dX1_isDamaged_10 : decode cX1_isDamaged 10 = .ok (.iload_n 1, 1) := by decide +kernel
theorem dX1_isDamaged_11 : decode cX1_isDamaged 11 = .ok (.iaload, 1) := by decide +kernel
theorem dX1_isDamaged_12 : decode cX1_isDamaged 12 = .ok (.if_icmp .eq 7, 3) := by decide +kernel
theorem dX1_isDamaged_15 : decode cX1_isDamaged 15 = .ok (.iconst 1, 1) := by decide +kernel
theorem dX1_isDamaged_16 : decode cX1_isDamaged 16 = .ok (.goto 4, 3) := by decide +kernel
theorem dX1_isDamaged_19 : decode cX1_isDamaged 19 = .ok (.iconst 0, 1) := by decide +kernel
theorem dX1_isDamaged_20 : decode cX1_isDamaged 20 = .ok (.ireturn, 1) := by decide +kernel
theorem dX1_damaged_0 : decode cX1_damaged 0 = .ok (.iconst 0, 1) := by decide +kernel
theorem dX1_damaged_1 : decode cX1_damaged 1 = .ok (.istore_n 1, 1) := by decide +kernel
theorem dX1_damaged_2 : decode cX1_damaged 2 = .ok (.iconst 0, 1) := by decide +kernel
theorem dX1_damaged_3 : decode cX1_damaged 3 = .ok (.istore_n 2, 1) := by decide +kernel
theorem dX1_damaged_4 : decode cX1_damaged 4 = .ok (.iload_n 2, 1) := by decide +kernel
theorem dX1_damaged_5 : decode cX1_damaged 5 = .ok (.bipush 64, 2) := by decide +kernel
theorem dX1_damaged_7 : decode cX1_damaged 7 = .ok (.if_icmp .ge 20, 3) := by decide +kernel
theorem dX1_damaged_10 : decode cX1_damaged 10 = .ok (.aload_n 0, 1) := by decide +kernel
theorem dX1_damaged_11 : decode cX1_damaged 11 = .ok (.iload_n 2, 1) := by decide +kernel
theorem dX1_damaged_12 : decode cX1_damaged 12 = .ok (.invokevirtual 35, 3) := by decide +kernel
theorem dX1_damaged_15 : decode cX1_damaged 15 = .ok (.ifCond .eq 6, 3) := by decide +kernel
theorem dX1_damaged_18 : decode cX1_damaged 18 = .ok (.iinc 1 1, 3) := by decide +kernel
theorem dX1_damaged_21 : decode cX1_damaged 21 = .ok (.iinc 2 1, 3) := by decide +kernel
theorem dX1_damaged_24 : decode cX1_damaged 24 = .ok (.goto (-20), 3) := by decide +kernel
theorem dX1_damaged_27 : decode cX1_damaged 27 = .ok (.iload_n 1, 1) := by decide +kernel
theorem dX1_damaged_28 : decode cX1_damaged 28 = .ok (.ireturn, 1) := by decide +kernel
theorem dX1_takeBack_0 : decode cX1_takeBack 0 = .ok (.iconst 0, 1) := by decide +kernel
theorem dX1_takeBack_1 : decode cX1_takeBack 1 = .ok (.istore_n 3, 1) := by decide +kernel
theorem dX1_takeBack_2 : decode cX1_takeBack 2 = .ok (.iconst 0, 1) := by decide +kernel
theorem dX1_takeBack_3 : decode cX1_takeBack 3 = .ok (.istore 4, 2) := by decide +kernel
theorem dX1_takeBack_5 : decode cX1_takeBack 5 = .ok (.iload 4, 2) := by decide +kernel
theorem dX1_takeBack_7 : decode cX1_takeBack 7 = .ok (.bipush 64, 2) := by decide +kernel
theorem dX1_takeBack_9 : decode cX1_takeBack 9 = .ok (.if_icmp .ge 48, 3) := by decide +kernel
theorem dX1_takeBack_12 : decode cX1_takeBack 12 = .ok (.aload_n 0, 1) := by decide +kernel
theorem dX1_takeBack_13 : decode cX1_takeBack 13 = .ok (.getfield 9, 3) := by decide +kernel
theorem dX1_takeBack_16 : decode cX1_takeBack 16 = .ok (.iload 4, 2) := by decide +kernel
theorem dX1_takeBack_18 : decode cX1_takeBack 18 = .ok (.iaload, 1) := by decide +kernel
theorem dX1_takeBack_19 : decode cX1_takeBack 19 = .ok (.aload_n 1, 1) := by decide +kernel
theorem dX1_takeBack_20 : decode cX1_takeBack 20 = .ok (.iload 4, 2) := by decide +kernel
theorem dX1_takeBack_22 : decode cX1_takeBack 22 = .ok (.iaload, 1) := by decide +kernel
theorem dX1_takeBack_23 : decode cX1_takeBack 23 = .ok (.if_icmp .eq 6, 3) := by decide +kernel
theorem dX1_takeBack_26 : decode cX1_takeBack 26 = .ok (.iinc 3 1, 3) := by decide +kernel
theorem dX1_takeBack_29 : decode cX1_takeBack 29 = .ok (.aload_n 0, 1) := by decide +kernel
theorem dX1_takeBack_30 : decode cX1_takeBack 30 = .ok (.getfield 9, 3) := by decide +kernel
theorem dX1_takeBack_33 : decode cX1_takeBack 33 = .ok (.iload 4, 2) := by decide +kernel
theorem dX1_takeBack_35 : decode cX1_takeBack 35 = .ok (.aload_n 1, 1) := by decide +kernel
theorem dX1_takeBack_36 : decode cX1_takeBack 36 = .ok (.iload 4, 2) := by decide +kernel
theorem dX1_takeBack_38 : decode cX1_takeBack 38 = .ok (.iaload, 1) := by decide +kernel
theorem dX1_takeBack_39 : decode cX1_takeBack 39 = .ok (.iastore, 1) := by decide +kernel
theorem dX1_takeBack_40 : decode cX1_takeBack 40 = .ok (.aload_n 0, 1) := by decide +kernel
theorem dX1_takeBack_41 : decode cX1_takeBack 41 = .ok (.getfield 15, 3) := by decide +kernel
theorem dX1_takeBack_44 : decode cX1_takeBack 44 = .ok (.iload 4, 2) := by decide +kernel
theorem dX1_takeBack_46 : decode cX1_takeBack 46 = .ok (.aload_n 2, 1) := by decide +kernel
theorem dX1_takeBack_47 : decode cX1_takeBack 47 = .ok (.iload 4, 2) := by decide +kernel
theorem dX1_takeBack_49 : decode cX1_takeBack 49 = .ok (.iaload, 1) := by decide +kernel
theorem dX1_takeBack_50 : decode cX1_takeBack 50 = .ok (.iastore, 1) := by decide +kernel
theorem dX1_takeBack_51 : decode cX1_takeBack 51 = .ok (.iinc 4 1, 3) := by decide +kernel
theorem dX1_takeBack_54 : decode cX1_takeBack 54 = .ok (.goto (-49), 3) := by decide +kernel
theorem dX1_takeBack_57 : decode cX1_takeBack 57 = .ok (.iload_n 3, 1) := by decide +kernel
theorem dX1_takeBack_58 : decode cX1_takeBack 58 = .ok (.ireturn, 1) := by decide +kernel
theorem dX2_init_0 : decode cX2_init 0 = .ok (.aload_n 0, 1) := by decide +kernel
theorem dX2_init_1 : decode cX2_init 1 = .ok (.invokespecial 3, 3) := by decide +kernel
theorem dX2_init_4 : decode cX2_init 4 = .ok (.aload_n 0, 1) := by decide +kernel
theorem dX2_init_5 : decode cX2_init 5 = .ok (.bipush 8, 2) := by decide +kernel
theorem dX2_init_7 : decode cX2_init 7 = .ok (.newarray .int, 2) := by decide +kernel
theorem dX2_init_9 : decode cX2_init 9 = .ok (.putfield 9, 3) := by decide +kernel
theorem dX2_init_12 : decode cX2_init 12 = .ok (.aload_n 0, 1) := by decide +kernel
theorem dX2_init_13 : decode cX2_init 13 = .ok (.bipush 8, 2) := by decide +kernel
theorem dX2_init_15 : decode cX2_init 15 = .ok (.newarray .int, 2) := by decide +kernel
theorem dX2_init_17 : decode cX2_init 17 = .ok (.putfield 15, 3) := by decide +kernel
theorem dX2_init_20 : decode cX2_init 20 = .ok (.return_, 1) := by decide +kernel
theorem dX2_come_0 : decode cX2_come 0 = .ok (.aload_n 0, 1) := by decide +kernel
theorem dX2_come_1 : decode cX2_come 1 = .ok (.getfield 18, 3) := by decide +kernel
theorem dX2_come_4 : decode cX2_come 4 = .ok (.bipush 8, 2) := by decide +kernel
theorem dX2_come_6 : decode cX2_come 6 = .ok (.if_icmp .ge 34, 3) := by decide +kernel
theorem dX2_come_9 : decode cX2_come 9 = .ok (.aload_n 0, 1) := by decide +kernel
theorem dX2_come_10 : decode cX2_come 10 = .ok (.getfield 9, 3) := by decide +kernel
theorem dX2_come_13 : decode cX2_come 13 = .ok (.aload_n 0, 1) := by decide +kernel
theorem dX2_come_14 : decode cX2_come 14 = .ok (.getfield 18, 3) := by decide +kernel
theorem dX2_come_17 : decode cX2_come 17 = .ok (.iload_n 1, 1) := by decide +kernel
theorem dX2_come_18 : decode cX2_come 18 = .ok (.iastore, 1) := by decide +kernel
theorem dX2_come_19 : decode cX2_come 19 = .ok (.aload_n 0, 1) := by decide +kernel
theorem dX2_come_20 : decode cX2_come 20 = .ok (.getfield 15, 3) := by decide +kernel
theorem dX2_come_23 : decode cX2_come 23 = .ok (.aload_n 0, 1) := by decide +kernel
theorem dX2_come_24 : decode cX2_come 24 = .ok (.getfield 18, 3) := by decide +kernel
theorem dX2_come_27 : decode cX2_come 27 = .ok (.bipush (-2), 2) := by decide +kernel
theorem dX2_come_29 : decode cX2_come 29 = .ok (.iastore, 1) := by decide +kernel
theorem dX2_come_30 : decode cX2_come 30 = .ok (.aload_n 0, 1) := by decide +kernel
theorem dX2_come_31 : decode cX2_come 31 = .ok (.dup, 1) := by decide +kernel
theorem dX2_come_32 : decode cX2_come 32 = .ok (.getfield 18, 3) := by decide +kernel
theorem dX2_come_35 : decode cX2_come 35 = .ok (.iconst 1, 1) := by decide +kernel
theorem dX2_come_36 : decode cX2_come 36 = .ok (.iadd, 1) := by decide +kernel
theorem dX2_come_37 : decode cX2_come 37 = .ok (.putfield 18, 3) := by decide +kernel
theorem dX2_come_40 : decode cX2_come 40 = .ok (.aload_n 0, 1) := by decide +kernel
theorem dX2_come_41 : decode cX2_come 41 = .ok (.getfield 18, 3) := by decide +kernel
theorem dX2_come_44 : decode cX2_come 44 = .ok (.iconst 1, 1) := by decide +kernel
theorem dX2_come_45 : decode cX2_come 45 = .ok (.isub, 1) := by decide +kernel
theorem dX2_come_46 : decode cX2_come 46 = .ok (.ireturn, 1) := by decide +kernel
theorem dX3_init_0 : decode cX3_init 0 = .ok (.aload_n 0, 1) := by decide +kernel
theorem dX3_init_1 : decode cX3_init 1 = .ok (.invokespecial 3, 3) := by decide +kernel
theorem dX3_init_4 : decode cX3_init 4 = .ok (.aload_n 0, 1) := by decide +kernel
theorem dX3_init_5 : decode cX3_init 5 = .ok (.iconst (-1), 1) := by decide +kernel
theorem dX3_init_6 : decode cX3_init 6 = .ok (.putfield 9, 3) := by decide +kernel
theorem dX3_init_9 : decode cX3_init 9 = .ok (.return_, 1) := by decide +kernel
theorem dX3_isFree_0 : decode cX3_isFree 0 = .ok (.aload_n 0, 1) := by decide +kernel
theorem dX3_isFree_1 : decode cX3_isFree 1 = .ok (.getfield 9, 3) := by decide +kernel
theorem dX3_isFree_4 : decode cX3_isFree 4 = .ok (.ifCond .ge 7, 3) := by decide +kernel
theorem dX3_isFree_7 : decode cX3_isFree 7 = .ok (.iconst 1, 1) := by decide +kernel
theorem dX3_isFree_8 : decode cX3_isFree 8 = .ok (.goto 4, 3) := by decide +kernel
theorem dX3_isFree_11 : decode cX3_isFree 11 = .ok (.iconst 0, 1) := by decide +kernel
theorem dX3_isFree_12 : decode cX3_isFree 12 = .ok (.ireturn, 1) := by decide +kernel
theorem dX3_isPlainDirty_0 : decode cX3_isPlainDirty 0 = .ok (.aload_n 0, 1) := by decide +kernel
theorem dX3_isPlainDirty_1 : decode cX3_isPlainDirty 1 = .ok (.getfield 15, 3) := by decide +kernel
theorem dX3_isPlainDirty_4 : decode cX3_isPlainDirty 4 = .ok (.ifCond .eq 14, 3) := by decide +kernel
theorem dX3_isPlainDirty_7 : decode cX3_isPlainDirty 7 = .ok (.aload_n 0, 1) := by decide +kernel
theorem dX3_isPlainDirty_8 : decode cX3_isPlainDirty 8 = .ok (.getfield 19, 3) := by decide +kernel
theorem dX3_isPlainDirty_11 : decode cX3_isPlainDirty 11 = .ok (.ifCond .ne 7, 3) := by decide +kernel
theorem dX3_isPlainDirty_14 : decode cX3_isPlainDirty 14 = .ok (.iconst 1, 1) := by decide +kernel
theorem dX3_isPlainDirty_15 : decode cX3_isPlainDirty 15 = .ok (.goto 4, 3) := by decide +kernel
theorem dX3_isPlainDirty_18 : decode cX3_isPlainDirty 18 = .ok (.iconst 0, 1) := by decide +kernel
theorem dX3_isPlainDirty_19 : decode cX3_isPlainDirty 19 = .ok (.ireturn, 1) := by decide +kernel
theorem dX3_drop_0 : decode cX3_drop 0 = .ok (.aload_n 0, 1) := by decide +kernel
theorem dX3_drop_1 : decode cX3_drop 1 = .ok (.iconst (-1), 1) := by decide +kernel
theorem dX3_drop_2 : decode cX3_drop 2 = .ok (.putfield 9, 3) := by decide +kernel
theorem dX3_drop_5 : decode cX3_drop 5 = .ok (.aload_n 0, 1) := by decide +kernel
theorem dX3_drop_6 : decode cX3_drop 6 = .ok (.iconst 0, 1) := by decide +kernel
theorem dX3_drop_7 : decode cX3_drop 7 = .ok (.putfield 22, 3) := by decide +kernel
theorem dX3_drop_10 : decode cX3_drop 10 = .ok (.aload_n 0, 1) := by decide +kernel
theorem dX3_drop_11 : decode cX3_drop 11 = .ok (.iconst 0, 1) := by decide +kernel
theorem dX3_drop_12 : decode cX3_drop 12 = .ok (.putfield 15, 3) := by decide +kernel
theorem dX3_drop_15 : decode cX3_drop 15 = .ok (.aload_n 0, 1) := by decide +kernel
theorem dX3_drop_16 : decode cX3_drop 16 = .ok (.iconst 0, 1) := by decide +kernel
theorem dX3_drop_17 : decode cX3_drop 17 = .ok (.putfield 25, 3) := by decide +kernel
theorem dX3_drop_20 : decode cX3_drop 20 = .ok (.aload_n 0, 1) := by decide +kernel
theorem dX3_drop_21 : decode cX3_drop 21 = .ok (.iconst 0, 1) := by decide +kernel
theorem dX3_drop_22 : decode cX3_drop 22 = .ok (.putfield 19, 3) := by decide +kernel
theorem dX3_drop_25 : decode cX3_drop 25 = .ok (.return_, 1) := by decide +kernel
theorem dX3_remember_0 : decode cX3_remember 0 = .ok (.aload_n 0, 1) := by decide +kernel
theorem dX3_remember_1 : decode cX3_remember 1 = .ok (.iconst 1, 1) := by decide +kernel
theorem dX3_remember_2 : decode cX3_remember 2 = .ok (.putfield 19, 3) := by decide +kernel
theorem dX3_remember_5 : decode cX3_remember 5 = .ok (.aload_n 0, 1) := by decide +kernel
theorem dX3_remember_6 : decode cX3_remember 6 = .ok (.iload_n 1, 1) := by decide +kernel
theorem dX3_remember_7 : decode cX3_remember 7 = .ok (.putfield 28, 3) := by decide +kernel
theorem dX3_remember_10 : decode cX3_remember 10 = .ok (.aload_n 0, 1) := by decide +kernel
theorem dX3_remember_11 : decode cX3_remember 11 = .ok (.aload_n 0, 1) := by decide +kernel
theorem dX3_remember_12 : decode cX3_remember 12 = .ok (.getfield 31, 3) := by decide +kernel
theorem dX3_remember_15 : decode cX3_remember 15 = .ok (.putfield 34, 3) := by decide +kernel
theorem dX3_remember_18 : decode cX3_remember 18 = .ok (.aload_n 0, 1) := by decide +kernel
theorem dX3_remember_19 : decode cX3_remember 19 = .ok (.aload_n 0, 1) := by decide +kernel
theorem dX3_remember_20 : decode cX3_remember 20 = .ok (.getfield 15, 3) := by decide +kernel
theorem dX3_remember_23 : decode cX3_remember 23 = .ok (.putfield 37, 3) := by decide +kernel
theorem dX3_remember_26 : decode cX3_remember 26 = .ok (.return_, 1) := by decide +kernel
theorem dX3_goBack_0 : decode cX3_goBack 0 = .ok (.aload_n 0, 1) := by decide +kernel
theorem dX3_goBack_1 : decode cX3_goBack 1 = .ok (.getfield 28, 3) := by decide +kernel
theorem dX3_goBack_4 : decode cX3_goBack 4 = .ok (.ifCond .eq 8, 3) := by decide +kernel
theorem dX3_goBack_7 : decode cX3_goBack 7 = .ok (.aload_n 0, 1) := by decide +kernel
theorem dX3_goBack_8 : decode cX3_goBack 8 = .ok (.invokevirtual 40, 3) := by decide +kernel
theorem dX3_goBack_11 : decode cX3_goBack 11 = .ok (.return_, 1) := by decide +kernel
theorem dX3_goBack_12 : decode cX3_goBack 12 = .ok (.aload_n 0, 1) := by decide +kernel
theorem dX3_goBack_13 : decode cX3_goBack 13 = .ok (.iconst 0, 1) := by decide +kernel
theorem dX3_goBack_14 : decode cX3_goBack 14 = .ok (.putfield 19, 3) := by decide +kernel
theorem dX3_goBack_17 : decode cX3_goBack 17 = .ok (.aload_n 0, 1) := by decide +kernel
theorem dX3_goBack_18 : decode cX3_goBack 18 = .ok (.aload_n 0, 1) := by decide +kernel
theorem dX3_goBack_19 : decode cX3_goBack 19 = .ok (.getfield 34, 3) := by decide +kernel
theorem dX3_goBack_22 : decode cX3_goBack 22 = .ok (.putfield 31, 3) := by decide +kernel
theorem dX3_goBack_25 : decode cX3_goBack 25 = .ok (.aload_n 0, 1) := by decide +kernel
theorem dX3_goBack_26 : decode cX3_goBack 26 = .ok (.aload_n 0, 1) := by decide +kernel
theorem dX3_goBack_27 : decode cX3_goBack 27 = .ok (.getfield 37, 3) := by decide +kernel
theorem dX3_goBack_30 : decode cX3_goBack 30 = .ok (.putfield 15, 3) := by decide +kernel
theorem dX3_goBack_33 : decode cX3_goBack 33 = .ok (.return_, 1) := by decide +kernel
theorem dX4_init_0 : decode cX4_init 0 = .ok (.aload_n 0, 1) := by decide +kernel
theorem dX4_init_1 : decode cX4_init 1 = .ok (.invokespecial 1, 3) := by decide +kernel
theorem dX4_init_4 : decode cX4_init 4 = .ok (.aload_n 0, 1) := by decide +kernel
theorem dX4_init_5 : decode cX4_init 5 = .ok (.iload_n 1, 1) := by decide +kernel
theorem dX4_init_6 : decode cX4_init 6 = .ok (.putfield 7, 3) := by decide +kernel
theorem dX4_init_9 : decode cX4_init 9 = .ok (.aload_n 0, 1) := by decide +kernel
theorem dX4_init_10 : decode cX4_init 10 = .ok (.aload_n 2, 1) := by decide +kernel
theorem dX4_init_11 : decode cX4_init 11 = .ok (.putfield 13, 3) := by decide +kernel
theorem dX4_init_14 : decode cX4_init 14 = .ok (.aload_n 0, 1) := by decide +kernel
theorem dX4_init_15 : decode cX4_init 15 = .ok (.aload_n 3, 1) := by decide +kernel
theorem dX4_init_16 : decode cX4_init 16 = .ok (.putfield 17, 3) := by decide +kernel
theorem dX4_init_19 : decode cX4_init 19 = .ok (.return_, 1) := by decide +kernel
theorem dX5_init_0 : decode cX5_init 0 = .ok (.aload_n 0, 1) := by decide +kernel
theorem dX5_init_1 : decode cX5_init 1 = .ok (.invokespecial 3, 3) := by decide +kernel
theorem dX5_init_4 : decode cX5_init 4 = .ok (.aload_n 0, 1) := by decide +kernel
theorem dX5_init_5 : decode cX5_init 5 = .ok (.sipush 128, 3) := by decide +kernel
theorem dX5_init_8 : decode cX5_init 8 = .ok (.newarray .boolean, 2) := by decide +kernel
theorem dX5_init_10 : decode cX5_init 10 = .ok (.putfield 9, 3) := by decide +kernel
theorem dX5_init_13 : decode cX5_init 13 = .ok (.aload_n 0, 1) := by decide +kernel
theorem dX5_init_14 : decode cX5_init 14 = .ok (.sipush 128, 3) := by decide +kernel
theorem dX5_init_17 : decode cX5_init 17 = .ok (.newarray .int, 2) := by decide +kernel
theorem dX5_init_19 : decode cX5_init 19 = .ok (.putfield 15, 3) := by decide +kernel
theorem dX5_init_22 : decode cX5_init 22 = .ok (.return_, 1) := by decide +kernel
theorem dX5_keep_0 : decode cX5_keep 0 = .ok (.aload_n 0, 1) := by decide +kernel
theorem dX5_keep_1 : decode cX5_keep 1 = .ok (.getfield 9, 3) := by decide +kernel
theorem dX5_keep_4 : decode cX5_keep 4 = .ok (.iload_n 1, 1) := by decide +kernel
theorem dX5_keep_5 : decode cX5_keep 5 = .ok (.baload, 1) := by decide +kernel
theorem dX5_keep_6 : decode cX5_keep 6 = .ok (.ifCond .ne 20, 3) := by decide +kernel
theorem dX5_keep_9 : decode cX5_keep 9 = .ok (.aload_n 0, 1) := by decide +kernel
theorem dX5_keep_10 : decode cX5_keep 10 = .ok (.getfield 9, 3) := by decide +kernel
theorem dX5_keep_13 : decode cX5_keep 13 = .ok (.iload_n 1, 1) := by decide +kernel
theorem dX5_keep_14 : decode cX5_keep 14 = .ok (.iconst 1, 1) := by decide +kernel
theorem dX5_keep_15 : decode cX5_keep 15 = .ok (.bastore, 1) := by decide +kernel
theorem dX5_keep_16 : decode cX5_keep 16 = .ok (.aload_n 0, 1) := by decide +kernel
theorem dX5_keep_17 : decode cX5_keep 17 = .ok (.dup, 1) := by decide +kernel
theorem dX5_keep_18 : decode cX5_keep 18 = .ok (.getfield 19, 3) := by decide +kernel
theorem dX5_keep_21 : decode cX5_keep 21 = .ok (.iconst 1, 1) := by decide +kernel
theorem dX5_keep_22 : decode cX5_keep 22 = .ok (.iadd, 1) := by decide +kernel
theorem dX5_keep_23 : decode cX5_keep 23 = .ok (.putfield 19, 3) := by decide +kernel
theorem dX5_keep_26 : decode cX5_keep 26 = .ok (.aload_n 0, 1) := by decide +kernel
theorem dX5_keep_27 : decode cX5_keep 27 = .ok (.getfield 15, 3) := by decide +kernel
theorem dX5_keep_30 : decode cX5_keep 30 = .ok (.iload_n 1, 1) := by decide +kernel
theorem dX5_keep_31 : decode cX5_keep 31 = .ok (.iload_n 2, 1) := by decide +kernel
theorem dX5_keep_32 : decode cX5_keep 32 = .ok (.iastore, 1) := by decide +kernel
theorem dX5_keep_33 : decode cX5_keep 33 = .ok (.return_, 1) := by decide +kernel
theorem dX5_forget_0 : decode cX5_forget 0 = .ok (.aload_n 0, 1) := by decide +kernel
theorem dX5_forget_1 : decode cX5_forget 1 = .ok (.getfield 9, 3) := by decide +kernel
theorem dX5_forget_4 : decode cX5_forget 4 = .ok (.iload_n 1, 1) := by decide +kernel
theorem dX5_forget_5 : decode cX5_forget 5 = .ok (.baload, 1) := by decide +kernel
theorem dX5_forget_6 : decode cX5_forget 6 = .ok (.ifCond .eq 20, 3) := by decide +kernel
theorem dX5_forget_9 : decode cX5_forget 9 = .ok (.aload_n 0, 1) := by decide +kernel
theorem dX5_forget_10 : decode cX5_forget 10 = .ok (.getfield 9, 3) := by decide +kernel
theorem dX5_forget_13 : decode cX5_forget 13 = .ok (.iload_n 1, 1) := by decide +kernel
theorem dX5_forget_14 : decode cX5_forget 14 = .ok (.iconst 0, 1) := by decide +kernel
theorem dX5_forget_15 : decode cX5_forget 15 = .ok (.bastore, 1) := by decide +kernel
theorem dX5_forget_16 : decode cX5_forget 16 = .ok (.aload_n 0, 1) := by decide +kernel
theorem dX5_forget_17 : decode cX5_forget 17 = .ok (.dup, 1) := by decide +kernel
theorem dX5_forget_18 : decode cX5_forget 18 = .ok (.getfield 19, 3) := by decide +kernel
theorem dX5_forget_21 : decode cX5_forget 21 = .ok (.iconst 1, 1) := by decide +kernel
theorem dX5_forget_22 : decode cX5_forget 22 = .ok (.isub, 1) := by decide +kernel
theorem dX5_forget_23 : decode cX5_forget 23 = .ok (.putfield 19, 3) := by decide +kernel
theorem dX5_forget_26 : decode cX5_forget 26 = .ok (.return_, 1) := by decide +kernel
theorem dX6_init_0 : decode cX6_init 0 = .ok (.aload_n 0, 1) := by decide +kernel
theorem dX6_init_1 : decode cX6_init 1 = .ok (.invokespecial 3, 3) := by decide +kernel
theorem dX6_init_4 : decode cX6_init 4 = .ok (.aload_n 0, 1) := by decide +kernel
theorem dX6_init_5 : decode cX6_init 5 = .ok (.bipush 16, 2) := by decide +kernel
theorem dX6_init_7 : decode cX6_init 7 = .ok (.anewarray 9, 3) := by decide +kernel
theorem dX6_init_10 : decode cX6_init 10 = .ok (.putfield 11, 3) := by decide +kernel
theorem dX6_init_13 : decode cX6_init 13 = .ok (.iconst 0, 1) := by decide +kernel
theorem dX6_init_14 : decode cX6_init 14 = .ok (.istore_n 2, 1) := by decide +kernel
theorem dX6_init_15 : decode cX6_init 15 = .ok (.iload_n 2, 1) := by decide +kernel
theorem dX6_init_16 : decode cX6_init 16 = .ok (.bipush 16, 2) := by decide +kernel
theorem dX6_init_18 : decode cX6_init 18 = .ok (.if_icmp .ge 22, 3) := by decide +kernel
theorem dX6_init_21 : decode cX6_init 21 = .ok (.aload_n 0, 1) := by decide +kernel
theorem dX6_init_22 : decode cX6_init 22 = .ok (.getfield 11, 3) := by decide +kernel
theorem dX6_init_25 : decode cX6_init 25 = .ok (.iload_n 2, 1) := by decide +kernel
theorem dX6_init_26 : decode cX6_init 26 = .ok (.new 9, 3) := by decide +kernel
theorem dX6_init_29 : decode cX6_init 29 = .ok (.dup, 1) := by decide +kernel
theorem dX6_init_30 : decode cX6_init 30 = .ok (.invokespecial 17, 3) := by decide +kernel
theorem dX6_init_33 : decode cX6_init 33 = .ok (.aastore, 1) := by decide +kernel
theorem dX6_init_34 : decode cX6_init 34 = .ok (.iinc 2 1, 3) := by decide +kernel
theorem dX6_init_37 : decode cX6_init 37 = .ok (.goto (-22), 3) := by decide +kernel
theorem dX6_init_40 : decode cX6_init 40 = .ok (.aload_n 0, 1) := by decide +kernel
theorem dX6_init_41 : decode cX6_init 41 = .ok (.iload_n 1, 1) := by decide +kernel
theorem dX6_init_42 : decode cX6_init 42 = .ok (.putfield 18, 3) := by decide +kernel
theorem dX6_init_45 : decode cX6_init 45 = .ok (.return_, 1) := by decide +kernel
theorem dX6_resize_0 : decode cX6_resize 0 = .ok (.aload_n 0, 1) := by decide +kernel
theorem dX6_resize_1 : decode cX6_resize 1 = .ok (.getfield 18, 3) := by decide +kernel
theorem dX6_resize_4 : decode cX6_resize 4 = .ok (.istore_n 2, 1) := by decide +kernel
theorem dX6_resize_5 : decode cX6_resize 5 = .ok (.aload_n 0, 1) := by decide +kernel
theorem dX6_resize_6 : decode cX6_resize 6 = .ok (.iload_n 1, 1) := by decide +kernel
theorem dX6_resize_7 : decode cX6_resize 7 = .ok (.putfield 18, 3) := by decide +kernel
theorem dX6_resize_10 : decode cX6_resize 10 = .ok (.aload_n 0, 1) := by decide +kernel
theorem dX6_resize_11 : decode cX6_resize 11 = .ok (.getfield 22, 3) := by decide +kernel
theorem dX6_resize_14 : decode cX6_resize 14 = .ok (.aload_n 0, 1) := by decide +kernel
theorem dX6_resize_15 : decode cX6_resize 15 = .ok (.getfield 18, 3) := by decide +kernel
theorem dX6_resize_18 : decode cX6_resize 18 = .ok (.if_icmp .lt 8, 3) := by decide +kernel
theorem dX6_resize_21 : decode cX6_resize 21 = .ok (.aload_n 0, 1) := by decide +kernel
theorem dX6_resize_22 : decode cX6_resize 22 = .ok (.iconst 0, 1) := by decide +kernel
theorem dX6_resize_23 : decode cX6_resize 23 = .ok (.putfield 22, 3) := by decide +kernel
theorem dX6_resize_26 : decode cX6_resize 26 = .ok (.iload_n 2, 1) := by decide +kernel
theorem dX6_resize_27 : decode cX6_resize 27 = .ok (.ireturn, 1) := by decide +kernel
theorem dX6_startAnew_0 : decode cX6_startAnew 0 = .ok (.aload_n 0, 1) := by decide +kernel
theorem dX6_startAnew_1 : decode cX6_startAnew 1 = .ok (.iconst 0, 1) := by decide +kernel
theorem dX6_startAnew_2 : decode cX6_startAnew 2 = .ok (.sipush 128, 3) := by decide +kernel
theorem dX6_startAnew_5 : decode cX6_startAnew 5 = .ok (.invokevirtual 25, 3) := by decide +kernel
theorem dX6_startAnew_8 : decode cX6_startAnew 8 = .ok (.aload_n 0, 1) := by decide +kernel
theorem dX6_startAnew_9 : decode cX6_startAnew 9 = .ok (.iconst 0, 1) := by decide +kernel
theorem dX6_startAnew_10 : decode cX6_startAnew 10 = .ok (.putfield 22, 3) := by decide +kernel
theorem dX6_startAnew_13 : decode cX6_startAnew 13 = .ok (.aload_n 0, 1) := by decide +kernel
theorem dX6_startAnew_14 : decode cX6_startAnew 14 = .ok (.iconst 0, 1) := by decide +kernel
theorem dX6_startAnew_15 : decode cX6_startAnew 15 = .ok (.putfield 29, 3) := by decide +kernel
theorem dX6_startAnew_18 : decode cX6_startAnew 18 = .ok (.aload_n 0, 1) := by decide +kernel
theorem dX6_startAnew_19 : decode cX6_startAnew 19 = .ok (.iload_n 1, 1) := by decide +kernel
theorem dX6_startAnew_20 : decode cX6_startAnew 20 = .ok (.putfield 18, 3) := by decide +kernel
theorem dX6_startAnew_23 : decode cX6_startAnew 23 = .ok (.return_, 1) := by decide +kernel
theorem dX6_find_0 : decode cX6_find 0 = .ok (.iconst 0, 1) := by decide +kernel
theorem dX6_find_1 : decode cX6_find 1 = .ok (.istore_n 2, 1) := by decide +kernel
theorem dX6_find_2 : decode cX6_find 2 = .ok (.iload_n 2, 1) := by decide +kernel
theorem dX6_find_3 : decode cX6_find 3 = .ok (.aload_n 0, 1) := by decide +kernel
theorem dX6_find_4 : decode cX6_find 4 = .ok (.getfield 18, 3) := by decide +kernel
theorem dX6_find_7 : decode cX6_find 7 = .ok (.if_icmp .ge 24, 3) := by decide +kernel
theorem dX6_find_10 : decode cX6_find 10 = .ok (.aload_n 0, 1) := by decide +kernel
theorem dX6_find_11 : decode cX6_find 11 = .ok (.getfield 11, 3) := by decide +kernel
theorem dX6_find_14 : decode cX6_find 14 = .ok (.iload_n 2, 1) := by decide +kernel
theorem dX6_find_15 : decode cX6_find 15 = .ok (.aaload, 1) := by decide +kernel
theorem dX6_find_16 : decode cX6_find 16 = .ok (.getfield 32, 3) := by decide +kernel
theorem dX6_find_19 : decode cX6_find 19 = .ok (.iload_n 1, 1) := by decide +kernel
theorem dX6_find_20 : decode cX6_find 20 = .ok (.if_icmp .ne 5, 3) := by decide +kernel
theorem dX6_find_23 : decode cX6_find 23 = .ok (.iload_n 2, 1) := by decide +kernel
theorem dX6_find_24 : decode cX6_find 24 = .ok (.ireturn, 1) := by decide +kernel
theorem dX6_find_25 : decode cX6_find 25 = .ok (.iinc 2 1, 3) := by decide +kernel
theorem dX6_find_28 : decode cX6_find 28 = .ok (.goto (-26), 3) := by decide +kernel
theorem dX6_find_31 : decode cX6_find 31 = .ok (.iconst (-1), 1) := by decide +kernel
theorem dX6_find_32 : decode cX6_find 32 = .ok (.ireturn, 1) := by decide +kernel
theorem dX6_lowestFree_0 : decode cX6_lowestFree 0 = .ok (.aload_n 0, 1) := by decide +kernel
theorem dX6_lowestFree_1 : decode cX6_lowestFree 1 = .ok (.iconst (-1), 1) := by decide +kernel
theorem dX6_lowestFree_2 : decode cX6_lowestFree 2 = .ok (.invokevirtual 35, 3) := by decide +kernel
theorem dX6_lowestFree_5 : decode cX6_lowestFree 5 = .ok (.ireturn, 1) := by decide +kernel
theorem dX6_hasRoom_0 : decode cX6_hasRoom 0 = .ok (.aload_n 0, 1) := by decide +kernel
theorem dX6_hasRoom_1 : decode cX6_hasRoom 1 = .ok (.invokevirtual 39, 3) := by decide +kernel
theorem dX6_hasRoom_4 : decode cX6_hasRoom 4 = .ok (.ifCond .ge 12, 3) := by decide +kernel
theorem dX6_hasRoom_7 : decode cX6_hasRoom 7 = .ok (.aload_n 0, 1) := by decide +kernel
theorem dX6_hasRoom_8 : decode cX6_hasRoom 8 = .ok (.iconst 0, 1) := by decide +kernel
theorem dX6_hasRoom_9 : decode cX6_hasRoom 9 = .ok (.iconst (-1), 1) := by decide +kernel
theorem dX6_hasRoom_10 : decode cX6_hasRoom 10 = .ok (.invokevirtual 43, 3) := by decide +kernel
theorem dX6_hasRoom_13 : decode cX6_hasRoom 13 = .ok (.ifCond .eq 7, 3) := by decide +kernel
theorem dX6_hasRoom_16 : decode cX6_hasRoom 16 = .ok (.iconst 1, 1) := by decide +kernel
theorem dX6_hasRoom_17 : decode cX6_hasRoom 17 = .ok (.goto 4, 3) := by decide +kernel
theorem dX6_hasRoom_20 : decode cX6_hasRoom 20 = .ok (.iconst 0, 1) := by decide +kernel
theorem dX6_hasRoom_21 : decode cX6_hasRoom 21 = .ok (.ireturn, 1) := by decide +kernel
theorem dX6_use_0 : decode cX6_use 0 = .ok (.aload_n 0, 1) := by decide +kernel
theorem dX6_use_1 : decode cX6_use 1 = .ok (.dup, 1) := by decide +kernel
theorem dX6_use_2 : decode cX6_use 2 = .ok (.getfield 29, 3) := by decide +kernel
theorem dX6_use_5 : decode cX6_use 5 = .ok (.iconst 1, 1) := by decide +kernel
theorem dX6_use_6 : decode cX6_use 6 = .ok (.iadd, 1) := by decide +kernel
theorem dX6_use_7 : decode cX6_use 7 = .ok (.putfield 29, 3) := by decide +kernel
theorem dX6_use_10 : decode cX6_use 10 = .ok (.aload_n 0, 1) := by decide +kernel
theorem dX6_use_11 : decode cX6_use 11 = .ok (.getfield 11, 3) := by decide +kernel
theorem dX6_use_14 : decode cX6_use 14 = .ok (.iload_n 1, 1) := by decide +kernel
theorem dX6_use_15 : decode cX6_use 15 = .ok (.aaload, 1) := by decide +kernel
theorem dX6_use_16 : decode cX6_use 16 = .ok (.aload_n 0, 1) := by decide +kernel
theorem dX6_use_17 : decode cX6_use 17 = .ok (.getfield 29, 3) := by decide +kernel
theorem dX6_use_20 : decode cX6_use 20 = .ok (.putfield 47, 3) := by decide +kernel
theorem dX6_use_23 : decode cX6_use 23 = .ok (.aload_n 0, 1) := by decide +kernel
theorem dX6_use_24 : decode cX6_use 24 = .ok (.getfield 11, 3) := by decide +kernel
theorem dX6_use_27 : decode cX6_use 27 = .ok (.iload_n 1, 1) := by decide +kernel
theorem dX6_use_28 : decode cX6_use 28 = .ok (.aaload, 1) := by decide +kernel
theorem dX6_use_29 : decode cX6_use 29 = .ok (.iconst 1, 1) := by decide +kernel
theorem dX6_use_30 : decode cX6_use 30 = .ok (.putfield 50, 3) := by decide +kernel
theorem dX6_use_33 : decode cX6_use 33 = .ok (.return_, 1) := by decide +kernel
theorem dX6_come_0 : decode cX6_come 0 = .ok (.aload_n 0, 1) := by decide +kernel
theorem dX6_come_1 : decode cX6_come 1 = .ok (.getfield 11, 3) := by decide +kernel
theorem dX6_come_4 : decode cX6_come 4 = .ok (.iload_n 1, 1) := by decide +kernel
theorem dX6_come_5 : decode cX6_come 5 = .ok (.aaload, 1) := by decide +kernel
theorem dX6_come_6 : decode cX6_come 6 = .ok (.astore 4, 2) := by decide +kernel
theorem dX6_come_8 : decode cX6_come 8 = .ok (.aload 4, 2) := by decide +kernel
theorem dX6_come_10 : decode cX6_come 10 = .ok (.invokevirtual 54, 3) := by decide +kernel
theorem dX6_come_13 : decode cX6_come 13 = .ok (.aload 4, 2) := by decide +kernel
theorem dX6_come_15 : decode cX6_come 15 = .ok (.iload_n 2, 1) := by decide +kernel
theorem dX6_come_16 : decode cX6_come 16 = .ok (.putfield 32, 3) := by decide +kernel
theorem dX6_come_19 : decode cX6_come 19 = .ok (.aload 4, 2) := by decide +kernel
theorem dX6_come_21 : decode cX6_come 21 = .ok (.iload_n 3, 1) := by decide +kernel
theorem dX6_come_22 : decode cX6_come 22 = .ok (.putfield 57, 3) := by decide +kernel
theorem dX6_come_25 : decode cX6_come 25 = .ok (.aload_n 0, 1) := by decide +kernel
theorem dX6_come_26 : decode cX6_come 26 = .ok (.iload_n 1, 1) := by decide +kernel
theorem dX6_come_27 : decode cX6_come 27 = .ok (.invokevirtual 60, 3) := by decide +kernel
theorem dX6_come_30 : decode cX6_come 30 = .ok (.aload 4, 2) := by decide +kernel
theorem dX6_come_32 : decode cX6_come 32 = .ok (.aload 4, 2) := by decide +kernel
theorem dX6_come_34 : decode cX6_come 34 = .ok (.getfield 47, 3) := by decide +kernel
theorem dX6_come_37 : decode cX6_come 37 = .ok (.putfield 64, 3) := by decide +kernel
theorem dX6_come_40 : decode cX6_come 40 = .ok (.return_, 1) := by decide +kernel
theorem dX6_dropSpots_0 : decode cX6_dropSpots 0 = .ok (.iconst 0, 1) := by decide +kernel
theorem dX6_dropSpots_1 : decode cX6_dropSpots 1 = .ok (.istore_n 3, 1) := by decide +kernel
theorem dX6_dropSpots_2 : decode cX6_dropSpots 2 = .ok (.iload_n 3, 1) := by decide +kernel
theorem dX6_dropSpots_3 : decode cX6_dropSpots 3 = .ok (.bipush 16, 2) := by decide +kernel
theorem dX6_dropSpots_5 : decode cX6_dropSpots 5 = .ok (.if_icmp .ge 44, 3) := by decide +kernel
theorem dX6_dropSpots_8 : decode cX6_dropSpots 8 = .ok (.aload_n 0, 1) := by decide +kernel
theorem dX6_dropSpots_9 : decode cX6_dropSpots 9 = .ok (.getfield 11, 3) := by decide +kernel
theorem dX6_dropSpots_12 : decode cX6_dropSpots 12 = .ok (.iload_n 3, 1) := by decide +kernel
theorem dX6_dropSpots_13 : decode cX6_dropSpots 13 = .ok (.aaload, 1) := by decide +kernel
theorem dX6_dropSpots_14 : decode cX6_dropSpots 14 = .ok (.getfield 32, 3) := by decide +kernel
theorem dX6_dropSpots_17 : decode cX6_dropSpots 17 = .ok (.iload_n 1, 1) := by decide +kernel
theorem dX6_dropSpots_18 : decode cX6_dropSpots 18 = .ok (.if_icmp .lt 25, 3) := by decide +kernel
theorem dX6_dropSpots_21 : decode cX6_dropSpots 21 = .ok (.aload_n 0, 1) := by decide +kernel
theorem dX6_dropSpots_22 : decode cX6_dropSpots 22 = .ok (.getfield 11, 3) := by decide +kernel
theorem dX6_dropSpots_25 : decode cX6_dropSpots 25 = .ok (.iload_n 3, 1) := by decide +kernel
theorem dX6_dropSpots_26 : decode cX6_dropSpots 26 = .ok (.aaload, 1) := by decide +kernel
theorem dX6_dropSpots_27 : decode cX6_dropSpots 27 = .ok (.getfield 32, 3) := by decide +kernel
theorem dX6_dropSpots_30 : decode cX6_dropSpots 30 = .ok (.iload_n 2, 1) := by decide +kernel
theorem dX6_dropSpots_31 : decode cX6_dropSpots 31 = .ok (.if_icmp .ge 12, 3) := by decide +kernel
theorem dX6_dropSpots_34 : decode cX6_dropSpots 34 = .ok (.aload_n 0, 1) := by decide +kernel
theorem dX6_dropSpots_35 : decode cX6_dropSpots 35 = .ok (.getfield 11, 3) := by decide +kernel
theorem dX6_dropSpots_38 : decode cX6_dropSpots 38 = .ok (.iload_n 3, 1) := by decide +kernel
theorem dX6_dropSpots_39 : decode cX6_dropSpots 39 = .ok (.aaload, 1) := by decide +kernel
theorem dX6_dropSpots_40 : decode cX6_dropSpots 40 = .ok (.invokevirtual 54, 3) := by decide +kernel
theorem dX6_dropSpots_43 : decode cX6_dropSpots 43 = .ok (.iinc 3 1, 3) := by decide +kernel
theorem dX6_dropSpots_46 : decode cX6_dropSpots 46 = .ok (.goto (-44), 3) := by decide +kernel
theorem dX6_dropSpots_49 : decode cX6_dropSpots 49 = .ok (.return_, 1) := by decide +kernel
theorem dX6_holdsFastBehind_0 : decode cX6_holdsFastBehind 0 = .ok (.iload_n 1, 1) := by decide +kernel
theorem dX6_holdsFastBehind_1 : decode cX6_holdsFastBehind 1 = .ok (.istore_n 2, 1) := by decide +kernel
theorem dX6_holdsFastBehind_2 : decode cX6_holdsFastBehind 2 = .ok (.iload_n 2, 1) := by decide +kernel
theorem dX6_holdsFastBehind_3 : decode cX6_holdsFastBehind 3 = .ok (.aload_n 0, 1) := by decide +kernel
theorem dX6_holdsFastBehind_4 : decode cX6_holdsFastBehind 4 = .ok (.getfield 18, 3) := by decide +kernel
theorem dX6_holdsFastBehind_7 : decode cX6_holdsFastBehind 7 = .ok (.if_icmp .ge 35, 3) := by decide +kernel
theorem dX6_holdsFastBehind_10 : decode cX6_holdsFastBehind 10 = .ok (.aload_n 0, 1) := by decide +kernel
theorem dX6_holdsFastBehind_11 : decode cX6_holdsFastBehind 11 = .ok (.getfield 11, 3) := by decide +kernel
theorem dX6_holdsFastBehind_14 : decode cX6_holdsFastBehind 14 = .ok (.iload_n 2, 1) := by decide +kernel
theorem dX6_holdsFastBehind_15 : decode cX6_holdsFastBehind 15 = .ok (.aaload, 1) := by decide +kernel
theorem dX6_holdsFastBehind_16 : decode cX6_holdsFastBehind 16 = .ok (.getfield 67, 3) := by decide +kernel
theorem dX6_holdsFastBehind_19 : decode cX6_holdsFastBehind 19 = .ok (.ifCond .gt 15, 3) := by decide +kernel
theorem dX6_holdsFastBehind_22 : decode cX6_holdsFastBehind 22 = .ok (.aload_n 0, 1) := by decide +kernel
theorem dX6_holdsFastBehind_23 : decode cX6_holdsFastBehind 23 = .ok (.getfield 11, 3) := by decide +kernel
theorem dX6_holdsFastBehind_26 : decode cX6_holdsFastBehind 26 = .ok (.iload_n 2, 1) := by decide +kernel
theorem dX6_holdsFastBehind_27 : decode cX6_holdsFastBehind 27 = .ok (.aaload, 1) := by decide +kernel
theorem dX6_holdsFastBehind_28 : decode cX6_holdsFastBehind 28 = .ok (.getfield 70, 3) := by decide +kernel
theorem dX6_holdsFastBehind_31 : decode cX6_holdsFastBehind 31 = .ok (.ifCond .eq 5, 3) := by decide +kernel
theorem dX6_holdsFastBehind_34 : decode cX6_holdsFastBehind 34 = .ok (.iconst 1, 1) := by decide +kernel
theorem dX6_holdsFastBehind_35 : decode cX6_holdsFastBehind 35 = .ok (.ireturn, 1) := by decide +kernel
theorem dX6_holdsFastBehind_36 : decode cX6_holdsFastBehind 36 = .ok (.iinc 2 1, 3) := by decide +kernel
theorem dX6_holdsFastBehind_39 : decode cX6_holdsFastBehind 39 = .ok (.goto (-37), 3) := by decide +kernel
theorem dX6_holdsFastBehind_42 : decode cX6_holdsFastBehind 42 = .ok (.iconst 0, 1) := by decide +kernel
theorem dX6_holdsFastBehind_43 : decode cX6_holdsFastBehind 43 = .ok (.ireturn, 1) := by decide +kernel
theorem dX6_canGo_0 : decode cX6_canGo 0 = .ok (.aload_n 0, 1) := by decide +kernel
theorem dX6_canGo_1 : decode cX6_canGo 1 = .ok (.getfield 11, 3) := by decide +kernel
theorem dX6_canGo_4 : decode cX6_canGo 4 = .ok (.iload_n 1, 1) := by decide +kernel
theorem dX6_canGo_5 : decode cX6_canGo 5 = .ok (.aaload, 1) := by decide +kernel
theorem dX6_canGo_6 : decode cX6_canGo 6 = .ok (.astore 4, 2) := by decide +kernel
theorem dX6_canGo_8 : decode cX6_canGo 8 = .ok (.aload 4, 2) := by decide +kernel
theorem dX6_canGo_10 : decode cX6_canGo 10 = .ok (.getfield 32, 3) := by decide +kernel
theorem dX6_canGo_13 : decode cX6_canGo 13 = .ok (.ifCond .lt 40, 3) := by decide +kernel
theorem dX6_canGo_16 : decode cX6_canGo 16 = .ok (.aload 4, 2) := by decide +kernel
theorem dX6_canGo_18 : decode cX6_canGo 18 = .ok (.getfield 67, 3) := by decide +kernel
theorem dX6_canGo_21 : decode cX6_canGo 21 = .ok (.ifCond .ne 32, 3) := by decide +kernel
theorem dX6_canGo_24 : decode cX6_canGo 24 = .ok (.aload 4, 2) := by decide +kernel
theorem dX6_canGo_26 : decode cX6_canGo 26 = .ok (.getfield 70, 3) := by decide +kernel
theorem dX6_canGo_29 : decode cX6_canGo 29 = .ok (.ifCond .ne 24, 3) := by decide +kernel
theorem dX6_canGo_32 : decode cX6_canGo 32 = .ok (.iload_n 1, 1) := by decide +kernel
theorem dX6_canGo_33 : decode cX6_canGo 33 = .ok (.iload_n 3, 1) := by decide +kernel
theorem dX6_canGo_34 : decode cX6_canGo 34 = .ok (.if_icmp .eq 19, 3) := by decide +kernel
theorem dX6_canGo_37 : decode cX6_canGo 37 = .ok (.iload_n 2, 1) := by decide +kernel
theorem dX6_canGo_38 : decode cX6_canGo 38 = .ok (.ifCond .eq 11, 3) := by decide +kernel
theorem dX6_canGo_41 : decode cX6_canGo 41 = .ok (.aload 4, 2) := by decide +kernel
theorem dX6_canGo_43 : decode cX6_canGo 43 = .ok (.getfield 73, 3) := by decide +kernel
theorem dX6_canGo_46 : decode cX6_canGo 46 = .ok (.ifCond .ne 7, 3) := by decide +kernel
theorem dX6_canGo_49 : decode cX6_canGo 49 = .ok (.iconst 1, 1) := by decide +kernel
theorem dX6_canGo_50 : decode cX6_canGo 50 = .ok (.goto 4, 3) := by decide +kernel
theorem dX6_canGo_53 : decode cX6_canGo 53 = .ok (.iconst 0, 1) := by decide +kernel
theorem dX6_canGo_54 : decode cX6_canGo 54 = .ok (.ireturn, 1) := by decide +kernel
theorem dX6_hasEvictable_0 : decode cX6_hasEvictable 0 = .ok (.iconst 0, 1) := by decide +kernel
theorem dX6_hasEvictable_1 : decode cX6_hasEvictable 1 = .ok (.istore_n 3, 1) := by decide +kernel
theorem dX6_hasEvictable_2 : decode cX6_hasEvictable 2 = .ok (.iload_n 3, 1) := by decide +kernel
theorem dX6_hasEvictable_3 : decode cX6_hasEvictable 3 = .ok (.aload_n 0, 1) := by decide +kernel
theorem dX6_hasEvictable_4 : decode cX6_hasEvictable 4 = .ok (.getfield 18, 3) := by decide +kernel
theorem dX6_hasEvictable_7 : decode cX6_hasEvictable 7 = .ok (.if_icmp .ge 21, 3) := by decide +kernel
theorem dX6_hasEvictable_10 : decode cX6_hasEvictable 10 = .ok (.aload_n 0, 1) := by decide +kernel
theorem dX6_hasEvictable_11 : decode cX6_hasEvictable 11 = .ok (.iload_n 3, 1) := by decide +kernel
theorem dX6_hasEvictable_12 : decode cX6_hasEvictable 12 = .ok (.iload_n 1, 1) := by decide +kernel
theorem dX6_hasEvictable_13 : decode cX6_hasEvictable 13 = .ok (.iload_n 2, 1) := by decide +kernel
theorem dX6_hasEvictable_14 : decode cX6_hasEvictable 14 = .ok (.invokevirtual 76, 3) := by decide +kernel
theorem dX6_hasEvictable_17 : decode cX6_hasEvictable 17 = .ok (.ifCond .eq 5, 3) := by decide +kernel
theorem dX6_hasEvictable_20 : decode cX6_hasEvictable 20 = .ok (.iconst 1, 1) := by decide +kernel
theorem dX6_hasEvictable_21 : decode cX6_hasEvictable 21 = .ok (.ireturn, 1) := by decide +kernel
theorem dX6_hasEvictable_22 : decode cX6_hasEvictable 22 = .ok (.iinc 3 1, 3) := by decide +kernel
theorem dX6_hasEvictable_25 : decode cX6_hasEvictable 25 = .ok (.goto (-23), 3) := by decide +kernel
theorem dX6_hasEvictable_28 : decode cX6_hasEvictable 28 = .ok (.iconst 0, 1) := by decide +kernel
theorem dX6_hasEvictable_29 : decode cX6_hasEvictable 29 = .ok (.ireturn, 1) := by decide +kernel
theorem dX6_choose_0 : decode cX6_choose 0 = .ok (.aload_n 0, 1) := by decide +kernel
theorem dX6_choose_1 : decode cX6_choose 1 = .ok (.iload_n 2, 1) := by decide +kernel
theorem dX6_choose_2 : decode cX6_choose 2 = .ok (.iload_n 3, 1) := by decide +kernel
theorem dX6_choose_3 : decode cX6_choose 3 = .ok (.invokevirtual 43, 3) := by decide +kernel
theorem dX6_choose_6 : decode cX6_choose 6 = .ok (.ifCond .ne 5, 3) := by decide +kernel
theorem dX6_choose_9 : decode cX6_choose 9 = .ok (.iconst (-1), 1) := by decide +kernel
theorem dX6_choose_10 : decode cX6_choose 10 = .ok (.ireturn, 1) := by decide +kernel
theorem dX6_choose_11 : decode cX6_choose 11 = .ok (.iload_n 1, 1) := by decide +kernel
theorem dX6_choose_12 : decode cX6_choose 12 = .ok (.bipush 99, 2) := by decide +kernel
theorem dX6_choose_14 : decode cX6_choose 14 = .ok (.if_icmp .ne 12, 3) := by decide +kernel
theorem dX6_choose_17 : decode cX6_choose 17 = .ok (.aload_n 0, 1) := by decide +kernel
theorem dX6_choose_18 : decode cX6_choose 18 = .ok (.iload_n 2, 1) := by decide +kernel
theorem dX6_choose_19 : decode cX6_choose 19 = .ok (.iload_n 3, 1) := by decide +kernel
theorem dX6_choose_20 : decode cX6_choose 20 = .ok (.invokevirtual 80, 3) := by decide +kernel
theorem dX6_choose_23 : decode cX6_choose 23 = .ok (.goto 10, 3) := by decide +kernel
theorem dX6_choose_26 : decode cX6_choose 26 = .ok (.aload_n 0, 1) := by decide +kernel
theorem dX6_choose_27 : decode cX6_choose 27 = .ok (.iload_n 1, 1) := by decide +kernel
theorem dX6_choose_28 : decode cX6_choose 28 = .ok (.iload_n 2, 1) := by decide +kernel
theorem dX6_choose_29 : decode cX6_choose 29 = .ok (.iload_n 3, 1) := by decide +kernel
theorem dX6_choose_30 : decode cX6_choose 30 = .ok (.invokevirtual 84, 3) := by decide +kernel
theorem dX6_choose_33 : decode cX6_choose 33 = .ok (.ireturn, 1) := by decide +kernel
theorem dX6_oldest_0 : decode cX6_oldest 0 = .ok (.iconst (-1), 1) := by decide +kernel
theorem dX6_oldest_1 : decode cX6_oldest 1 = .ok (.istore 4, 2) := by decide +kernel
theorem dX6_oldest_3 : decode cX6_oldest 3 = .ok (.iconst 0, 1) := by decide +kernel
theorem dX6_oldest_4 : decode cX6_oldest 4 = .ok (.istore 5, 2) := by decide +kernel
theorem dX6_oldest_6 : decode cX6_oldest 6 = .ok (.iconst 0, 1) := by decide +kernel
theorem dX6_oldest_7 : decode cX6_oldest 7 = .ok (.istore 6, 2) := by decide +kernel
theorem dX6_oldest_9 : decode cX6_oldest 9 = .ok (.iload 6, 2) := by decide +kernel
theorem dX6_oldest_11 : decode cX6_oldest 11 = .ok (.aload_n 0, 1) := by decide +kernel
theorem dX6_oldest_12 : decode cX6_oldest 12 = .ok (.getfield 18, 3) := by decide +kernel
theorem dX6_oldest_15 : decode cX6_oldest 15 = .ok (.if_icmp .ge 71, 3) := by decide +kernel
theorem dX6_oldest_18 : decode cX6_oldest 18 = .ok (.iload_n 1, 1) := by decide +kernel
theorem dX6_oldest_19 : decode cX6_oldest 19 = .ok (.bipush 102, 2) := by decide +kernel
theorem dX6_oldest_21 : decode cX6_oldest 21 = .ok (.if_icmp .ne 16, 3) := by decide +kernel
theorem dX6_oldest_24 : decode cX6_oldest 24 = .ok (.aload_n 0, 1) := by decide +kernel
theorem dX6_oldest_25 : decode cX6_oldest 25 = .ok (.getfield 11, 3) := by decide +kernel
theorem dX6_oldest_28 : decode cX6_oldest 28 = .ok (.iload 6, 2) := by decide +kernel
theorem dX6_oldest_30 : decode cX6_oldest 30 = .ok (.aaload, 1) := by decide +kernel
theorem dX6_oldest_31 : decode cX6_oldest 31 = .ok (.getfield 64, 3) := by decide +kernel
theorem dX6_oldest_34 : decode cX6_oldest 34 = .ok (.goto 13, 3) := by decide +kernel
theorem dX6_oldest_37 : decode cX6_oldest 37 = .ok (.aload_n 0, 1) := by decide +kernel
theorem dX6_oldest_38 : decode cX6_oldest 38 = .ok (.getfield 11, 3) := by decide +kernel
theorem dX6_oldest_41 : decode cX6_oldest 41 = .ok (.iload 6, 2) := by decide +kernel
theorem dX6_oldest_43 : decode cX6_oldest 43 = .ok (.aaload, 1) := by decide +kernel
theorem dX6_oldest_44 : decode cX6_oldest 44 = .ok (.getfield 47, 3) := by decide +kernel
theorem dX6_oldest_47 : decode cX6_oldest 47 = .ok (.istore 7, 2) := by decide +kernel
theorem dX6_oldest_49 : decode cX6_oldest 49 = .ok (.aload_n 0, 1) := by decide +kernel
theorem dX6_oldest_50 : decode cX6_oldest 50 = .ok (.iload 6, 2) := by decide +kernel
theorem dX6_oldest_52 : decode cX6_oldest 52 = .ok (.iload_n 2, 1) := by decide +kernel
theorem dX6_oldest_53 : decode cX6_oldest 53 = .ok (.iload_n 3, 1) := by decide +kernel
theorem dX6_oldest_54 : decode cX6_oldest 54 = .ok (.invokevirtual 76, 3) := by decide +kernel
theorem dX6_oldest_57 : decode cX6_oldest 57 = .ok (.ifCond .eq 23, 3) := by decide +kernel
theorem dX6_oldest_60 : decode cX6_oldest 60 = .ok (.iload 4, 2) := by decide +kernel
theorem dX6_oldest_62 : decode cX6_oldest 62 = .ok (.ifCond .lt 10, 3) := by decide +kernel
theorem dX6_oldest_65 : decode cX6_oldest 65 = .ok (.iload 7, 2) := by decide +kernel
theorem dX6_oldest_67 : decode cX6_oldest 67 = .ok (.iload 5, 2) := by decide +kernel
theorem dX6_oldest_69 : decode cX6_oldest 69 = .ok (.if_icmp .ge 11, 3) := by decide +kernel
theorem dX6_oldest_72 : decode cX6_oldest 72 = .ok (.iload 6, 2) := by decide +kernel
theorem dX6_oldest_74 : decode cX6_oldest 74 = .ok (.istore 4, 2) := by decide +kernel
theorem dX6_oldest_76 : decode cX6_oldest 76 = .ok (.iload 7, 2) := by decide +kernel
theorem dX6_oldest_78 : decode cX6_oldest 78 = .ok (.istore 5, 2) := by decide +kernel
theorem dX6_oldest_80 : decode cX6_oldest 80 = .ok (.iinc 6 1, 3) := by decide +kernel
theorem dX6_oldest_83 : decode cX6_oldest 83 = .ok (.goto (-74), 3) := by decide +kernel
theorem dX6_oldest_86 : decode cX6_oldest 86 = .ok (.iload 4, 2) := by decide +kernel
theorem dX6_oldest_88 : decode cX6_oldest 88 = .ok (.ireturn, 1) := by decide +kernel
theorem dX6_sweep_0 : decode cX6_sweep 0 = .ok (.iconst 0, 1) := by decide +kernel
theorem dX6_sweep_1 : decode cX6_sweep 1 = .ok (.istore_n 3, 1) := by decide +kernel
theorem dX6_sweep_2 : decode cX6_sweep 2 = .ok (.iload_n 3, 1) := by decide +kernel
theorem dX6_sweep_3 : decode cX6_sweep 3 = .ok (.iconst 2, 1) := by decide +kernel
theorem dX6_sweep_4 : decode cX6_sweep 4 = .ok (.aload_n 0, 1) := by decide +kernel
theorem dX6_sweep_5 : decode cX6_sweep 5 = .ok (.getfield 18, 3) := by decide +kernel
theorem dX6_sweep_8 : decode cX6_sweep 8 = .ok (.imul, 1) := by decide +kernel
theorem dX6_sweep_9 : decode cX6_sweep 9 = .ok (.if_icmp .gt 91, 3) := by decide +kernel
theorem dX6_sweep_12 : decode cX6_sweep 12 = .ok (.aload_n 0, 1) := by decide +kernel
theorem dX6_sweep_13 : decode cX6_sweep 13 = .ok (.getfield 22, 3) := by decide +kernel
theorem dX6_sweep_16 : decode cX6_sweep 16 = .ok (.aload_n 0, 1) := by decide +kernel
theorem dX6_sweep_17 : decode cX6_sweep 17 = .ok (.getfield 18, 3) := by decide +kernel
theorem dX6_sweep_20 : decode cX6_sweep 20 = .ok (.if_icmp .ge 10, 3) := by decide +kernel
theorem dX6_sweep_23 : decode cX6_sweep 23 = .ok (.aload_n 0, 1) := by decide +kernel
theorem dX6_sweep_24 : decode cX6_sweep 24 = .ok (.getfield 22, 3) := by decide +kernel
theorem dX6_sweep_27 : decode cX6_sweep 27 = .ok (.goto 4, 3) := by decide +kernel
theorem dX6_sweep_30 : decode cX6_sweep 30 = .ok (.iconst 0, 1) := by decide +kernel
theorem dX6_sweep_31 : decode cX6_sweep 31 = .ok (.istore 4, 2) := by decide +kernel
theorem dX6_sweep_33 : decode cX6_sweep 33 = .ok (.aload_n 0, 1) := by decide +kernel
theorem dX6_sweep_34 : decode cX6_sweep 34 = .ok (.iload 4, 2) := by decide +kernel
theorem dX6_sweep_36 : decode cX6_sweep 36 = .ok (.iconst 1, 1) := by decide +kernel
theorem dX6_sweep_37 : decode cX6_sweep 37 = .ok (.iadd, 1) := by decide +kernel
theorem dX6_sweep_38 : decode cX6_sweep 38 = .ok (.aload_n 0, 1) := by decide +kernel
theorem dX6_sweep_39 : decode cX6_sweep 39 = .ok (.getfield 18, 3) := by decide +kernel
theorem dX6_sweep_42 : decode cX6_sweep 42 = .ok (.if_icmp .ge 10, 3) := by decide +kernel
theorem dX6_sweep_45 : decode cX6_sweep 45 = .ok (.iload 4, 2) := by decide +kernel
theorem dX6_sweep_47 : decode cX6_sweep 47 = .ok (.iconst 1, 1) := by decide +kernel
theorem dX6_sweep_48 : decode cX6_sweep 48 = .ok (.iadd, 1) := by decide +kernel
theorem dX6_sweep_49 : decode cX6_sweep 49 = .ok (.goto 4, 3) := by decide +kernel
theorem dX6_sweep_52 : decode cX6_sweep 52 = .ok (.iconst 0, 1) := by decide +kernel
theorem dX6_sweep_53 : decode cX6_sweep 53 = .ok (.putfield 22, 3) := by decide +kernel
theorem dX6_sweep_56 : decode cX6_sweep 56 = .ok (.aload_n 0, 1) := by decide +kernel
theorem dX6_sweep_57 : decode cX6_sweep 57 = .ok (.iload 4, 2) := by decide +kernel
theorem dX6_sweep_59 : decode cX6_sweep 59 = .ok (.iload_n 1, 1) := by decide +kernel
theorem dX6_sweep_60 : decode cX6_sweep 60 = .ok (.iload_n 2, 1) := by decide +kernel
theorem dX6_sweep_61 : decode cX6_sweep 61 = .ok (.invokevirtual 76, 3) := by decide +kernel
theorem dX6_sweep_64 : decode cX6_sweep 64 = .ok (.ifCond .eq 30, 3) := by decide +kernel
theorem dX6_sweep_67 : decode cX6_sweep 67 = .ok (.aload_n 0, 1) := by decide +kernel
theorem dX6_sweep_68 : decode cX6_sweep 68 = .ok (.getfield 11, 3) := by decide +kernel
theorem dX6_sweep_71 : decode cX6_sweep 71 = .ok (.iload 4, 2) := by decide +kernel
theorem dX6_sweep_73 : decode cX6_sweep 73 = .ok (.aaload, 1) := by decide +kernel
theorem dX6_sweep_74 : decode cX6_sweep 74 = .ok (.getfield 50, 3) := by decide +kernel
theorem dX6_sweep_77 : decode cX6_sweep 77 = .ok (.ifCond .ne 6, 3) := by decide +kernel
theorem dX6_sweep_80 : decode cX6_sweep 80 = .ok (.iload 4, 2) := by decide +kernel
theorem dX6_sweep_82 : decode cX6_sweep 82 = .ok (.ireturn, 1) := by decide +kernel
theorem dX6_sweep_83 : decode cX6_sweep 83 = .ok (.aload_n 0, 1) := by decide +kernel
theorem dX6_sweep_84 : decode cX6_sweep 84 = .ok (.getfield 11, 3) := by decide +kernel
theorem dX6_sweep_87 : decode cX6_sweep 87 = .ok (.iload 4, 2) := by decide +kernel
theorem dX6_sweep_89 : decode cX6_sweep 89 = .ok (.aaload, 1) := by decide +kernel
theorem dX6_sweep_90 : decode cX6_sweep 90 = .ok (.iconst 0, 1) := by decide +kernel
theorem dX6_sweep_91 : decode cX6_sweep 91 = .ok (.putfield 50, 3) := by decide +kernel
theorem dX6_sweep_94 : decode cX6_sweep 94 = .ok (.iinc 3 1, 3) := by decide +kernel
theorem dX6_sweep_97 : decode cX6_sweep 97 = .ok (.goto (-95), 3) := by decide +kernel
theorem dX6_sweep_100 : decode cX6_sweep 100 = .ok (.iconst (-1), 1) := by decide +kernel
theorem dX6_sweep_101 : decode cX6_sweep 101 = .ok (.ireturn, 1) := by decide +kernel
theorem dX6_pages_0 : decode cX6_pages 0 = .ok (.iconst 0, 1) := by decide +kernel
theorem dX6_pages_1 : decode cX6_pages 1 = .ok (.istore_n 1, 1) := by decide +kernel
theorem dX6_pages_2 : decode cX6_pages 2 = .ok (.iconst 0, 1) := by decide +kernel
theorem dX6_pages_3 : decode cX6_pages 3 = .ok (.istore_n 2, 1) := by decide +kernel
theorem dX6_pages_4 : decode cX6_pages 4 = .ok (.iload_n 2, 1) := by decide +kernel
theorem dX6_pages_5 : decode cX6_pages 5 = .ok (.aload_n 0, 1) := by decide +kernel
theorem dX6_pages_6 : decode cX6_pages 6 = .ok (.getfield 18, 3) := by decide +kernel
theorem dX6_pages_9 : decode cX6_pages 9 = .ok (.if_icmp .ge 24, 3) := by decide +kernel
theorem dX6_pages_12 : decode cX6_pages 12 = .ok (.aload_n 0, 1) := by decide +kernel
theorem dX6_pages_13 : decode cX6_pages 13 = .ok (.getfield 11, 3) := by decide +kernel
theorem dX6_pages_16 : decode cX6_pages 16 = .ok (.iload_n 2, 1) := by decide +kernel
theorem dX6_pages_17 : decode cX6_pages 17 = .ok (.aaload, 1) := by decide +kernel
theorem dX6_pages_18 : decode cX6_pages 18 = .ok (.invokevirtual 88, 3) := by decide +kernel
theorem dX6_pages_21 : decode cX6_pages 21 = .ok (.ifCond .ne 6, 3) := by decide +kernel
theorem dX6_pages_24 : decode cX6_pages 24 = .ok (.iinc 1 1, 3) := by decide +kernel
theorem dX6_pages_27 : decode cX6_pages 27 = .ok (.iinc 2 1, 3) := by decide +kernel
theorem dX6_pages_30 : decode cX6_pages 30 = .ok (.goto (-26), 3) := by decide +kernel
theorem dX6_pages_33 : decode cX6_pages 33 = .ok (.iload_n 1, 1) := by decide +kernel
theorem dX6_pages_34 : decode cX6_pages 34 = .ok (.ireturn, 1) := by decide +kernel
theorem dX6_dirtyPages_0 : decode cX6_dirtyPages 0 = .ok (.iconst 0, 1) := by decide +kernel
theorem dX6_dirtyPages_1 : decode cX6_dirtyPages 1 = .ok (.istore_n 2, 1) := by decide +kernel
theorem dX6_dirtyPages_2 : decode cX6_dirtyPages 2 = .ok (.iconst 0, 1) := by decide +kernel
theorem dX6_dirtyPages_3 : decode cX6_dirtyPages 3 = .ok (.istore_n 3, 1) := by decide +kernel
theorem dX6_dirtyPages_4 : decode cX6_dirtyPages 4 = .ok (.iload_n 3, 1) := by decide +kernel
theorem dX6_dirtyPages_5 : decode cX6_dirtyPages 5 = .ok (.aload_n 0, 1) := by decide +kernel
theorem dX6_dirtyPages_6 : decode cX6_dirtyPages 6 = .ok (.getfield 18, 3) := by decide +kernel
theorem dX6_dirtyPages_9 : decode cX6_dirtyPages 9 = .ok (.if_icmp .ge 40, 3) := by decide +kernel
theorem dX6_dirtyPages_12 : decode cX6_dirtyPages 12 = .ok (.aload_n 0, 1) := by decide +kernel
theorem dX6_dirtyPages_13 : decode cX6_dirtyPages 13 = .ok (.getfield 11, 3) := by decide +kernel
theorem dX6_dirtyPages_16 : decode cX6_dirtyPages 16 = .ok (.iload_n 3, 1) := by decide +kernel
theorem dX6_dirtyPages_17 : decode cX6_dirtyPages 17 = .ok (.aaload, 1) := by decide +kernel
theorem dX6_dirtyPages_18 : decode cX6_dirtyPages 18 = .ok (.getfield 73, 3) := by decide +kernel
theorem dX6_dirtyPages_21 : decode cX6_dirtyPages 21 = .ok (.ifCond .eq 22, 3) := by decide +kernel
theorem dX6_dirtyPages_24 : decode cX6_dirtyPages 24 = .ok (.iload_n 1, 1) := by decide +kernel
theorem dX6_dirtyPages_25 : decode cX6_dirtyPages 25 = .ok (.ifCond .ne 15, 3) := by decide +kernel
theorem dX6_dirtyPages_28 : decode cX6_dirtyPages 28 = .ok (.aload_n 0, 1) := by decide +kernel
theorem dX6_dirtyPages_29 : decode cX6_dirtyPages 29 = .ok (.getfield 11, 3) := by decide +kernel
theorem dX6_dirtyPages_32 : decode cX6_dirtyPages 32 = .ok (.iload_n 3, 1) := by decide +kernel
theorem dX6_dirtyPages_33 : decode cX6_dirtyPages 33 = .ok (.aaload, 1) := by decide +kernel
theorem dX6_dirtyPages_34 : decode cX6_dirtyPages 34 = .ok (.getfield 70, 3) := by decide +kernel
theorem dX6_dirtyPages_37 : decode cX6_dirtyPages 37 = .ok (.ifCond .ne 6, 3) := by decide +kernel
theorem dX6_dirtyPages_40 : decode cX6_dirtyPages 40 = .ok (.iinc 2 1, 3) := by decide +kernel
theorem dX6_dirtyPages_43 : decode cX6_dirtyPages 43 = .ok (.iinc 3 1, 3) := by decide +kernel
theorem dX6_dirtyPages_46 : decode cX6_dirtyPages 46 = .ok (.goto (-42), 3) := by decide +kernel
theorem dX6_dirtyPages_49 : decode cX6_dirtyPages 49 = .ok (.iload_n 2, 1) := by decide +kernel
theorem dX6_dirtyPages_50 : decode cX6_dirtyPages 50 = .ok (.ireturn, 1) := by decide +kernel
theorem dX6_pagesOfWork_0 : decode cX6_pagesOfWork 0 = .ok (.iconst 0, 1) := by decide +kernel
theorem dX6_pagesOfWork_1 : decode cX6_pagesOfWork 1 = .ok (.istore_n 1, 1) := by decide +kernel
theorem dX6_pagesOfWork_2 : decode cX6_pagesOfWork 2 = .ok (.iconst 0, 1) := by decide +kernel
theorem dX6_pagesOfWork_3 : decode cX6_pagesOfWork 3 = .ok (.istore_n 2, 1) := by decide +kernel
theorem dX6_pagesOfWork_4 : decode cX6_pagesOfWork 4 = .ok (.iload_n 2, 1) := by decide +kernel
theorem dX6_pagesOfWork_5 : decode cX6_pagesOfWork 5 = .ok (.aload_n 0, 1) := by decide +kernel
theorem dX6_pagesOfWork_6 : decode cX6_pagesOfWork 6 = .ok (.getfield 18, 3) := by decide +kernel
theorem dX6_pagesOfWork_9 : decode cX6_pagesOfWork 9 = .ok (.if_icmp .ge 24, 3) := by decide +kernel
theorem dX6_pagesOfWork_12 : decode cX6_pagesOfWork 12 = .ok (.aload_n 0, 1) := by decide +kernel
theorem dX6_pagesOfWork_13 : decode cX6_pagesOfWork 13 = .ok (.getfield 11, 3) := by decide +kernel
theorem dX6_pagesOfWork_16 : decode cX6_pagesOfWork 16 = .ok (.iload_n 2, 1) := by decide +kernel
theorem dX6_pagesOfWork_17 : decode cX6_pagesOfWork 17 = .ok (.aaload, 1) := by decide +kernel
theorem dX6_pagesOfWork_18 : decode cX6_pagesOfWork 18 = .ok (.getfield 70, 3) := by decide +kernel
theorem dX6_pagesOfWork_21 : decode cX6_pagesOfWork 21 = .ok (.ifCond .eq 6, 3) := by decide +kernel
theorem dX6_pagesOfWork_24 : decode cX6_pagesOfWork 24 = .ok (.iinc 1 1, 3) := by decide +kernel
theorem dX6_pagesOfWork_27 : decode cX6_pagesOfWork 27 = .ok (.iinc 2 1, 3) := by decide +kernel
theorem dX6_pagesOfWork_30 : decode cX6_pagesOfWork 30 = .ok (.goto (-26), 3) := by decide +kernel
theorem dX6_pagesOfWork_33 : decode cX6_pagesOfWork 33 = .ok (.iload_n 1, 1) := by decide +kernel
theorem dX6_pagesOfWork_34 : decode cX6_pagesOfWork 34 = .ok (.ireturn, 1) := by decide +kernel
theorem dX6_longestDirty_0 : decode cX6_longestDirty 0 = .ok (.iconst (-1), 1) := by decide +kernel
theorem dX6_longestDirty_1 : decode cX6_longestDirty 1 = .ok (.istore_n 1, 1) := by decide +kernel
theorem dX6_longestDirty_2 : decode cX6_longestDirty 2 = .ok (.iconst 0, 1) := by decide +kernel
theorem dX6_longestDirty_3 : decode cX6_longestDirty 3 = .ok (.istore_n 2, 1) := by decide +kernel
theorem dX6_longestDirty_4 : decode cX6_longestDirty 4 = .ok (.iload_n 2, 1) := by decide +kernel
theorem dX6_longestDirty_5 : decode cX6_longestDirty 5 = .ok (.aload_n 0, 1) := by decide +kernel
theorem dX6_longestDirty_6 : decode cX6_longestDirty 6 = .ok (.getfield 18, 3) := by decide +kernel
theorem dX6_longestDirty_9 : decode cX6_longestDirty 9 = .ok (.if_icmp .ge 48, 3) := by decide +kernel
theorem dX6_longestDirty_12 : decode cX6_longestDirty 12 = .ok (.aload_n 0, 1) := by decide +kernel
theorem dX6_longestDirty_13 : decode cX6_longestDirty 13 = .ok (.getfield 11, 3) := by decide +kernel
theorem dX6_longestDirty_16 : decode cX6_longestDirty 16 = .ok (.iload_n 2, 1) := by decide +kernel
theorem dX6_longestDirty_17 : decode cX6_longestDirty 17 = .ok (.aaload, 1) := by decide +kernel
theorem dX6_longestDirty_18 : decode cX6_longestDirty 18 = .ok (.invokevirtual 92, 3) := by decide +kernel
theorem dX6_longestDirty_21 : decode cX6_longestDirty 21 = .ok (.ifCond .eq 30, 3) := by decide +kernel
theorem dX6_longestDirty_24 : decode cX6_longestDirty 24 = .ok (.iload_n 1, 1) := by decide +kernel
theorem dX6_longestDirty_25 : decode cX6_longestDirty 25 = .ok (.ifCond .lt 24, 3) := by decide +kernel
theorem dX6_longestDirty_28 : decode cX6_longestDirty 28 = .ok (.aload_n 0, 1) := by decide +kernel
theorem dX6_longestDirty_29 : decode cX6_longestDirty 29 = .ok (.getfield 11, 3) := by decide +kernel
theorem dX6_longestDirty_32 : decode cX6_longestDirty 32 = .ok (.iload_n 2, 1) := by decide +kernel
theorem dX6_longestDirty_33 : decode cX6_longestDirty 33 = .ok (.aaload, 1) := by decide +kernel
theorem dX6_longestDirty_34 : decode cX6_longestDirty 34 = .ok (.getfield 95, 3) := by decide +kernel
theorem dX6_longestDirty_37 : decode cX6_longestDirty 37 = .ok (.aload_n 0, 1) := by decide +kernel
theorem dX6_longestDirty_38 : decode cX6_longestDirty 38 = .ok (.getfield 11, 3) := by decide +kernel
theorem dX6_longestDirty_41 : decode cX6_longestDirty 41 = .ok (.iload_n 1, 1) := by decide +kernel
theorem dX6_longestDirty_42 : decode cX6_longestDirty 42 = .ok (.aaload, 1) := by decide +kernel
theorem dX6_longestDirty_43 : decode cX6_longestDirty 43 = .ok (.getfield 95, 3) := by decide +kernel
theorem dX6_longestDirty_46 : decode cX6_longestDirty 46 = .ok (.if_icmp .ge 5, 3) := by decide +kernel
theorem dX6_longestDirty_49 : decode cX6_longestDirty 49 = .ok (.iload_n 2, 1) := by decide +kernel
theorem dX6_longestDirty_50 : decode cX6_longestDirty 50 = .ok (.istore_n 1, 1) := by decide +kernel
theorem dX6_longestDirty_51 : decode cX6_longestDirty 51 = .ok (.iinc 2 1, 3) := by decide +kernel
theorem dX6_longestDirty_54 : decode cX6_longestDirty 54 = .ok (.goto (-50), 3) := by decide +kernel
theorem dX6_longestDirty_57 : decode cX6_longestDirty 57 = .ok (.iload_n 1, 1) := by decide +kernel
theorem dX6_longestDirty_58 : decode cX6_longestDirty 58 = .ok (.ireturn, 1) := by decide +kernel
theorem dX6_hasEachPageOnce_0 : decode cX6_hasEachPageOnce 0 = .ok (.iconst 0, 1) := by decide +kernel
theorem dX6_hasEachPageOnce_1 : decode cX6_hasEachPageOnce 1 = .ok (.istore_n 1, 1) := by decide +kernel
theorem dX6_hasEachPageOnce_2 : decode cX6_hasEachPageOnce 2 = .ok (.iload_n 1, 1) := by decide +kernel
theorem dX6_hasEachPageOnce_3 : decode cX6_hasEachPageOnce 3 = .ok (.aload_n 0, 1) := by decide +kernel
theorem dX6_hasEachPageOnce_4 : decode cX6_hasEachPageOnce 4 = .ok (.getfield 18, 3) := by decide +kernel
theorem dX6_hasEachPageOnce_7 : decode cX6_hasEachPageOnce 7 = .ok (.if_icmp .ge 40, 3) := by decide +kernel
theorem dX6_hasEachPageOnce_10 : decode cX6_hasEachPageOnce 10 = .ok (.aload_n 0, 1) := by decide +kernel
theorem dX6_hasEachPageOnce_11 : decode cX6_hasEachPageOnce 11 = .ok (.getfield 11, 3) := by decide +kernel
theorem dX6_hasEachPageOnce_14 : decode cX6_hasEachPageOnce 14 = .ok (.iload_n 1, 1) := by decide +kernel
theorem dX6_hasEachPageOnce_15 : decode cX6_hasEachPageOnce 15 = .ok (.aaload, 1) := by decide +kernel
theorem dX6_hasEachPageOnce_16 : decode cX6_hasEachPageOnce 16 = .ok (.invokevirtual 88, 3) := by decide +kernel
theorem dX6_hasEachPageOnce_19 : decode cX6_hasEachPageOnce 19 = .ok (.ifCond .ne 22, 3) := by decide +kernel
theorem dX6_hasEachPageOnce_22 : decode cX6_hasEachPageOnce 22 = .ok (.aload_n 0, 1) := by decide +kernel
theorem dX6_hasEachPageOnce_23 : decode cX6_hasEachPageOnce 23 = .ok (.aload_n 0, 1) := by decide +kernel
theorem dX6_hasEachPageOnce_24 : decode cX6_hasEachPageOnce 24 = .ok (.getfield 11, 3) := by decide +kernel
theorem dX6_hasEachPageOnce_27 : decode cX6_hasEachPageOnce 27 = .ok (.iload_n 1, 1) := by decide +kernel
theorem dX6_hasEachPageOnce_28 : decode cX6_hasEachPageOnce 28 = .ok (.aaload, 1) := by decide +kernel
theorem dX6_hasEachPageOnce_29 : decode cX6_hasEachPageOnce 29 = .ok (.getfield 32, 3) := by decide +kernel
theorem dX6_hasEachPageOnce_32 : decode cX6_hasEachPageOnce 32 = .ok (.invokevirtual 35, 3) := by decide +kernel
theorem dX6_hasEachPageOnce_35 : decode cX6_hasEachPageOnce 35 = .ok (.iload_n 1, 1) := by decide +kernel
theorem dX6_hasEachPageOnce_36 : decode cX6_hasEachPageOnce 36 = .ok (.if_icmp .eq 5, 3) := by decide +kernel
theorem dX6_hasEachPageOnce_39 : decode cX6_hasEachPageOnce 39 = .ok (.iconst 0, 1) := by decide +kernel
theorem dX6_hasEachPageOnce_40 : decode cX6_hasEachPageOnce 40 = .ok (.ireturn, 1) := by decide +kernel
theorem dX6_hasEachPageOnce_41 : decode cX6_hasEachPageOnce 41 = .ok (.iinc 1 1, 3) := by decide +kernel
theorem dX6_hasEachPageOnce_44 : decode cX6_hasEachPageOnce 44 = .ok (.goto (-42), 3) := by decide +kernel
theorem dX6_hasEachPageOnce_47 : decode cX6_hasEachPageOnce 47 = .ok (.iconst 1, 1) := by decide +kernel
theorem dX6_hasEachPageOnce_48 : decode cX6_hasEachPageOnce 48 = .ok (.ireturn, 1) := by decide +kernel
theorem dX7_init_0 : decode cX7_init 0 = .ok (.aload_n 0, 1) := by decide +kernel
theorem dX7_init_1 : decode cX7_init 1 = .ok (.invokespecial 3, 3) := by decide +kernel
theorem dX7_init_4 : decode cX7_init 4 = .ok (.aload_n 0, 1) := by decide +kernel
theorem dX7_init_5 : decode cX7_init 5 = .ok (.bipush 100, 2) := by decide +kernel
theorem dX7_init_7 : decode cX7_init 7 = .ok (.newarray .int, 2) := by decide +kernel
theorem dX7_init_9 : decode cX7_init 9 = .ok (.putfield 9, 3) := by decide +kernel
theorem dX7_init_12 : decode cX7_init 12 = .ok (.aload_n 0, 1) := by decide +kernel
theorem dX7_init_13 : decode cX7_init 13 = .ok (.bipush 100, 2) := by decide +kernel
theorem dX7_init_15 : decode cX7_init 15 = .ok (.newarray .int, 2) := by decide +kernel
theorem dX7_init_17 : decode cX7_init 17 = .ok (.putfield 15, 3) := by decide +kernel
theorem dX7_init_20 : decode cX7_init 20 = .ok (.aload_n 0, 1) := by decide +kernel
theorem dX7_init_21 : decode cX7_init 21 = .ok (.sipush 128, 3) := by decide +kernel
theorem dX7_init_24 : decode cX7_init 24 = .ok (.newarray .int, 2) := by decide +kernel
theorem dX7_init_26 : decode cX7_init 26 = .ok (.putfield 18, 3) := by decide +kernel
theorem dX7_init_29 : decode cX7_init 29 = .ok (.aload_n 0, 1) := by decide +kernel
theorem dX7_init_30 : decode cX7_init 30 = .ok (.bipush 16, 2) := by decide +kernel
theorem dX7_init_32 : decode cX7_init 32 = .ok (.newarray .int, 2) := by decide +kernel
theorem dX7_init_34 : decode cX7_init 34 = .ok (.putfield 21, 3) := by decide +kernel
theorem dX7_init_37 : decode cX7_init 37 = .ok (.aload_n 0, 1) := by decide +kernel
theorem dX7_init_38 : decode cX7_init 38 = .ok (.new 24, 3) := by decide +kernel
theorem dX7_init_41 : decode cX7_init 41 = .ok (.dup, 1) := by decide +kernel
theorem dX7_init_42 : decode cX7_init 42 = .ok (.bipush 16, 2) := by decide +kernel
theorem dX7_init_44 : decode cX7_init 44 = .ok (.invokespecial 26, 3) := by decide +kernel
theorem dX7_init_47 : decode cX7_init 47 = .ok (.putfield 29, 3) := by decide +kernel
theorem dX7_init_50 : decode cX7_init 50 = .ok (.return_, 1) := by decide +kernel
theorem dX7_add_0 : decode cX7_add 0 = .ok (.aload_n 0, 1) := by decide +kernel
theorem dX7_add_1 : decode cX7_add 1 = .ok (.getfield 33, 3) := by decide +kernel
theorem dX7_add_4 : decode cX7_add 4 = .ok (.bipush 100, 2) := by decide +kernel
theorem dX7_add_6 : decode cX7_add 6 = .ok (.if_icmp .ne 28, 3) := by decide +kernel
theorem dX7_add_9 : decode cX7_add 9 = .ok (.aload_n 0, 1) := by decide +kernel
theorem dX7_add_10 : decode cX7_add 10 = .ok (.getfield 9, 3) := by decide +kernel
theorem dX7_add_13 : decode cX7_add 13 = .ok (.iconst 1, 1) := by decide +kernel
theorem dX7_add_14 : decode cX7_add 14 = .ok (.aload_n 0, 1) := by decide +kernel
theorem dX7_add_15 : decode cX7_add 15 = .ok (.getfield 9, 3) := by decide +kernel
theorem dX7_add_18 : decode cX7_add 18 = .ok (.iconst 0, 1) := by decide +kernel
theorem dX7_add_19 : decode cX7_add 19 = .ok (.bipush 99, 2) := by decide +kernel
theorem dX7_add_21 : decode cX7_add 21 = .ok (.invokestatic 37, 3) := by decide +kernel
theorem dX7_add_24 : decode cX7_add 24 = .ok (.aload_n 0, 1) := by decide +kernel
theorem dX7_add_25 : decode cX7_add 25 = .ok (.dup, 1) := by decide +kernel
theorem dX7_add_26 : decode cX7_add 26 = .ok (.getfield 33, 3) := by decide +kernel
theorem dX7_add_29 : decode cX7_add 29 = .ok (.iconst 1, 1) := by decide +kernel
theorem dX7_add_30 : decode cX7_add 30 = .ok (.isub, 1) := by decide +kernel
theorem dX7_add_31 : decode cX7_add 31 = .ok (.putfield 33, 3) := by decide +kernel
theorem dX7_add_34 : decode cX7_add 34 = .ok (.aload_n 0, 1) := by decide +kernel
theorem dX7_add_35 : decode cX7_add 35 = .ok (.getfield 9, 3) := by decide +kernel
theorem dX7_add_38 : decode cX7_add 38 = .ok (.aload_n 0, 1) := by decide +kernel
theorem dX7_add_39 : decode cX7_add 39 = .ok (.getfield 33, 3) := by decide +kernel
theorem dX7_add_42 : decode cX7_add 42 = .ok (.iload_n 1, 1) := by decide +kernel
theorem dX7_add_43 : decode cX7_add 43 = .ok (.iastore, 1) := by decide +kernel
theorem dX7_add_44 : decode cX7_add 44 = .ok (.aload_n 0, 1) := by decide +kernel
theorem dX7_add_45 : decode cX7_add 45 = .ok (.dup, 1) := by decide +kernel
theorem dX7_add_46 : decode cX7_add 46 = .ok (.getfield 33, 3) := by decide +kernel
theorem dX7_add_49 : decode cX7_add 49 = .ok (.iconst 1, 1) := by decide +kernel
theorem dX7_add_50 : decode cX7_add 50 = .ok (.iadd, 1) := by decide +kernel
theorem dX7_add_51 : decode cX7_add 51 = .ok (.putfield 33, 3) := by decide +kernel
theorem dX7_add_54 : decode cX7_add 54 = .ok (.return_, 1) := by decide +kernel
theorem dX7_misses_0 : decode cX7_misses 0 = .ok (.aload_n 0, 1) := by decide +kernel
theorem dX7_misses_1 : decode cX7_misses 1 = .ok (.getfield 29, 3) := by decide +kernel
theorem dX7_misses_4 : decode cX7_misses 4 = .ok (.iload_n 2, 1) := by decide +kernel
theorem dX7_misses_5 : decode cX7_misses 5 = .ok (.invokevirtual 43, 3) := by decide +kernel
theorem dX7_misses_8 : decode cX7_misses 8 = .ok (.iload_n 1, 1) := by decide +kernel
theorem dX7_misses_9 : decode cX7_misses 9 = .ok (.bipush 98, 2) := by decide +kernel
theorem dX7_misses_11 : decode cX7_misses 11 = .ok (.if_icmp .ne 7, 3) := by decide +kernel
theorem dX7_misses_14 : decode cX7_misses 14 = .ok (.aload_n 0, 1) := by decide +kernel
theorem dX7_misses_15 : decode cX7_misses 15 = .ok (.invokevirtual 46, 3) := by decide +kernel
theorem dX7_misses_18 : decode cX7_misses 18 = .ok (.iconst 0, 1) := by decide +kernel
theorem dX7_misses_19 : decode cX7_misses 19 = .ok (.istore_n 3, 1) := by decide +kernel
theorem dX7_misses_20 : decode cX7_misses 20 = .ok (.iconst 0, 1) := by decide +kernel
theorem dX7_misses_21 : decode cX7_misses 21 = .ok (.istore 4, 2) := by decide +kernel
theorem dX7_misses_23 : decode cX7_misses 23 = .ok (.iload 4, 2) := by decide +kernel
theorem dX7_misses_25 : decode cX7_misses 25 = .ok (.aload_n 0, 1) := by decide +kernel
theorem dX7_misses_26 : decode cX7_misses 26 = .ok (.getfield 33, 3) := by decide +kernel
theorem dX7_misses_29 : decode cX7_misses 29 = .ok (.if_icmp .ge 90, 3) := by decide +kernel
theorem dX7_misses_32 : decode cX7_misses 32 = .ok (.aload_n 0, 1) := by decide +kernel
theorem dX7_misses_33 : decode cX7_misses 33 = .ok (.getfield 29, 3) := by decide +kernel
theorem dX7_misses_36 : decode cX7_misses 36 = .ok (.aload_n 0, 1) := by decide +kernel
theorem dX7_misses_37 : decode cX7_misses 37 = .ok (.getfield 9, 3) := by decide +kernel
theorem dX7_misses_40 : decode cX7_misses 40 = .ok (.iload 4, 2) := by decide +kernel
theorem dX7_misses_42 : decode cX7_misses 42 = .ok (.iaload, 1) := by decide +kernel
theorem dX7_misses_43 : decode cX7_misses 43 = .ok (.invokevirtual 49, 3) := by decide +kernel
theorem dX7_misses_46 : decode cX7_misses 46 = .ok (.istore 5, 2) := by decide +kernel
theorem dX7_misses_48 : decode cX7_misses 48 = .ok (.iload 5, 2) := by decide +kernel
theorem dX7_misses_50 : decode cX7_misses 50 = .ok (.ifCond .lt 15, 3) := by decide +kernel
theorem dX7_misses_53 : decode cX7_misses 53 = .ok (.aload_n 0, 1) := by decide +kernel
theorem dX7_misses_54 : decode cX7_misses 54 = .ok (.getfield 29, 3) := by decide +kernel
theorem dX7_misses_57 : decode cX7_misses 57 = .ok (.iload 5, 2) := by decide +kernel
theorem dX7_misses_59 : decode cX7_misses 59 = .ok (.invokevirtual 53, 3) := by decide +kernel
theorem dX7_misses_62 : decode cX7_misses 62 = .ok (.goto 37, 3) := by decide +kernel
theorem dX7_misses_65 : decode cX7_misses 65 = .ok (.iinc 3 1, 3) := by decide +kernel
theorem dX7_misses_68 : decode cX7_misses 68 = .ok (.aload_n 0, 1) := by decide +kernel
theorem dX7_misses_69 : decode cX7_misses 69 = .ok (.iload_n 1, 1) := by decide +kernel
theorem dX7_misses_70 : decode cX7_misses 70 = .ok (.invokevirtual 56, 3) := by decide +kernel
theorem dX7_misses_73 : decode cX7_misses 73 = .ok (.istore 5, 2) := by decide +kernel
theorem dX7_misses_75 : decode cX7_misses 75 = .ok (.iload 5, 2) := by decide +kernel
theorem dX7_misses_77 : decode cX7_misses 77 = .ok (.ifCond .ge 5, 3) := by decide +kernel
theorem dX7_misses_80 : decode cX7_misses 80 = .ok (.iload_n 3, 1) := by decide +kernel
theorem dX7_misses_81 : decode cX7_misses 81 = .ok (.ireturn, 1) := by decide +kernel
theorem dX7_misses_82 : decode cX7_misses 82 = .ok (.aload_n 0, 1) := by decide +kernel
theorem dX7_misses_83 : decode cX7_misses 83 = .ok (.getfield 29, 3) := by decide +kernel
theorem dX7_misses_86 : decode cX7_misses 86 = .ok (.iload 5, 2) := by decide +kernel
theorem dX7_misses_88 : decode cX7_misses 88 = .ok (.aload_n 0, 1) := by decide +kernel
theorem dX7_misses_89 : decode cX7_misses 89 = .ok (.getfield 9, 3) := by decide +kernel
theorem dX7_misses_92 : decode cX7_misses 92 = .ok (.iload 4, 2) := by decide +kernel
theorem dX7_misses_94 : decode cX7_misses 94 = .ok (.iaload, 1) := by decide +kernel
theorem dX7_misses_95 : decode cX7_misses 95 = .ok (.iconst 0, 1) := by decide +kernel
theorem dX7_misses_96 : decode cX7_misses 96 = .ok (.invokevirtual 60, 3) := by decide +kernel
theorem dX7_misses_99 : decode cX7_misses 99 = .ok (.aload_n 0, 1) := by decide +kernel
theorem dX7_misses_100 : decode cX7_misses 100 = .ok (.getfield 21, 3) := by decide +kernel
theorem dX7_misses_103 : decode cX7_misses 103 = .ok (.iload 5, 2) := by decide +kernel
theorem dX7_misses_105 : decode cX7_misses 105 = .ok (.aload_n 0, 1) := by decide +kernel
theorem dX7_misses_106 : decode cX7_misses 106 = .ok (.getfield 15, 3) := by decide +kernel
theorem dX7_misses_109 : decode cX7_misses 109 = .ok (.iload 4, 2) := by decide +kernel
theorem dX7_misses_111 : decode cX7_misses 111 = .ok (.iaload, 1) := by decide +kernel
theorem dX7_misses_112 : decode cX7_misses 112 = .ok (.iastore, 1) := by decide +kernel
theorem dX7_misses_113 : decode cX7_misses 113 = .ok (.iinc 4 1, 3) := by decide +kernel
theorem dX7_misses_116 : decode cX7_misses 116 = .ok (.goto (-93), 3) := by decide +kernel
theorem dX7_misses_119 : decode cX7_misses 119 = .ok (.iload_n 3, 1) := by decide +kernel
theorem dX7_misses_120 : decode cX7_misses 120 = .ok (.ireturn, 1) := by decide +kernel
theorem dX7_lookAhead_0 : decode cX7_lookAhead 0 = .ok (.iconst 0, 1) := by decide +kernel
theorem dX7_lookAhead_1 : decode cX7_lookAhead 1 = .ok (.istore_n 1, 1) := by decide +kernel
theorem dX7_lookAhead_2 : decode cX7_lookAhead 2 = .ok (.iload_n 1, 1) := by decide +kernel
theorem dX7_lookAhead_3 : decode cX7_lookAhead 3 = .ok (.sipush 128, 3) := by decide +kernel
theorem dX7_lookAhead_6 : decode cX7_lookAhead 6 = .ok (.if_icmp .ge 17, 3) := by decide +kernel
theorem dX7_lookAhead_9 : decode cX7_lookAhead 9 = .ok (.aload_n 0, 1) := by decide +kernel
theorem dX7_lookAhead_10 : decode cX7_lookAhead 10 = .ok (.getfield 18, 3) := by decide +kernel
theorem dX7_lookAhead_13 : decode cX7_lookAhead 13 = .ok (.iload_n 1, 1) := by decide +kernel
theorem dX7_lookAhead_14 : decode cX7_lookAhead 14 = .ok (.bipush 100, 2) := by decide +kernel
theorem dX7_lookAhead_16 : decode cX7_lookAhead 16 = .ok (.iastore, 1) := by decide +kernel
theorem dX7_lookAhead_17 : decode cX7_lookAhead 17 = .ok (.iinc 1 1, 3) := by decide +kernel
theorem dX7_lookAhead_20 : decode cX7_lookAhead 20 = .ok (.goto (-18), 3) := by decide +kernel
theorem dX7_lookAhead_23 : decode cX7_lookAhead 23 = .ok (.aload_n 0, 1) := by decide +kernel
theorem dX7_lookAhead_24 : decode cX7_lookAhead 24 = .ok (.getfield 33, 3) := by decide +kernel
theorem dX7_lookAhead_27 : decode cX7_lookAhead 27 = .ok (.iconst 1, 1) := by decide +kernel
theorem dX7_lookAhead_28 : decode cX7_lookAhead 28 = .ok (.isub, 1) := by decide +kernel
theorem dX7_lookAhead_29 : decode cX7_lookAhead 29 = .ok (.istore_n 1, 1) := by decide +kernel
theorem dX7_lookAhead_30 : decode cX7_lookAhead 30 = .ok (.iload_n 1, 1) := by decide +kernel
theorem dX7_lookAhead_31 : decode cX7_lookAhead 31 = .ok (.ifCond .lt 38, 3) := by decide +kernel
theorem dX7_lookAhead_34 : decode cX7_lookAhead 34 = .ok (.aload_n 0, 1) := by decide +kernel
theorem dX7_lookAhead_35 : decode cX7_lookAhead 35 = .ok (.getfield 15, 3) := by decide +kernel
theorem dX7_lookAhead_38 : decode cX7_lookAhead 38 = .ok (.iload_n 1, 1) := by decide +kernel
theorem dX7_lookAhead_39 : decode cX7_lookAhead 39 = .ok (.aload_n 0, 1) := by decide +kernel
theorem dX7_lookAhead_40 : decode cX7_lookAhead 40 = .ok (.getfield 18, 3) := by decide +kernel
theorem dX7_lookAhead_43 : decode cX7_lookAhead 43 = .ok (.aload_n 0, 1) := by decide +kernel
theorem dX7_lookAhead_44 : decode cX7_lookAhead 44 = .ok (.getfield 9, 3) := by decide +kernel
theorem dX7_lookAhead_47 : decode cX7_lookAhead 47 = .ok (.iload_n 1, 1) := by decide +kernel
theorem dX7_lookAhead_48 : decode cX7_lookAhead 48 = .ok (.iaload, 1) := by decide +kernel
theorem dX7_lookAhead_49 : decode cX7_lookAhead 49 = .ok (.iaload, 1) := by decide +kernel
theorem dX7_lookAhead_50 : decode cX7_lookAhead 50 = .ok (.iastore, 1) := by decide +kernel
theorem dX7_lookAhead_51 : decode cX7_lookAhead 51 = .ok (.aload_n 0, 1) := by decide +kernel
theorem dX7_lookAhead_52 : decode cX7_lookAhead 52 = .ok (.getfield 18, 3) := by decide +kernel
theorem dX7_lookAhead_55 : decode cX7_lookAhead 55 = .ok (.aload_n 0, 1) := by decide +kernel
theorem dX7_lookAhead_56 : decode cX7_lookAhead 56 = .ok (.getfield 9, 3) := by decide +kernel
theorem dX7_lookAhead_59 : decode cX7_lookAhead 59 = .ok (.iload_n 1, 1) := by decide +kernel
theorem dX7_lookAhead_60 : decode cX7_lookAhead 60 = .ok (.iaload, 1) := by decide +kernel
theorem dX7_lookAhead_61 : decode cX7_lookAhead 61 = .ok (.iload_n 1, 1) := by decide +kernel
theorem dX7_lookAhead_62 : decode cX7_lookAhead 62 = .ok (.iastore, 1) := by decide +kernel
theorem dX7_lookAhead_63 : decode cX7_lookAhead 63 = .ok (.iinc 1 (-1), 3) := by decide +kernel
theorem dX7_lookAhead_66 : decode cX7_lookAhead 66 = .ok (.goto (-36), 3) := by decide +kernel
theorem dX7_lookAhead_69 : decode cX7_lookAhead 69 = .ok (.return_, 1) := by decide +kernel
theorem dX7_roomBy_0 : decode cX7_roomBy 0 = .ok (.aload_n 0, 1) := by decide +kernel
theorem dX7_roomBy_1 : decode cX7_roomBy 1 = .ok (.getfield 29, 3) := by decide +kernel
theorem dX7_roomBy_4 : decode cX7_roomBy 4 = .ok (.invokevirtual 64, 3) := by decide +kernel
theorem dX7_roomBy_7 : decode cX7_roomBy 7 = .ok (.istore_n 2, 1) := by decide +kernel
theorem dX7_roomBy_8 : decode cX7_roomBy 8 = .ok (.iload_n 2, 1) := by decide +kernel
theorem dX7_roomBy_9 : decode cX7_roomBy 9 = .ok (.ifCond .lt 5, 3) := by decide +kernel
theorem dX7_roomBy_12 : decode cX7_roomBy 12 = .ok (.iload_n 2, 1) := by decide +kernel
theorem dX7_roomBy_13 : decode cX7_roomBy 13 = .ok (.ireturn, 1) := by decide +kernel
theorem dX7_roomBy_14 : decode cX7_roomBy 14 = .ok (.iload_n 1, 1) := by decide +kernel
theorem dX7_roomBy_15 : decode cX7_roomBy 15 = .ok (.bipush 98, 2) := by decide +kernel
theorem dX7_roomBy_17 : decode cX7_roomBy 17 = .ok (.if_icmp .ne 10, 3) := by decide +kernel
theorem dX7_roomBy_20 : decode cX7_roomBy 20 = .ok (.aload_n 0, 1) := by decide +kernel
theorem dX7_roomBy_21 : decode cX7_roomBy 21 = .ok (.invokevirtual 68, 3) := by decide +kernel
theorem dX7_roomBy_24 : decode cX7_roomBy 24 = .ok (.goto 13, 3) := by decide +kernel
theorem dX7_roomBy_27 : decode cX7_roomBy 27 = .ok (.aload_n 0, 1) := by decide +kernel
theorem dX7_roomBy_28 : decode cX7_roomBy 28 = .ok (.getfield 29, 3) := by decide +kernel
theorem dX7_roomBy_31 : decode cX7_roomBy 31 = .ok (.iload_n 1, 1) := by decide +kernel
theorem dX7_roomBy_32 : decode cX7_roomBy 32 = .ok (.iconst 0, 1) := by decide +kernel
theorem dX7_roomBy_33 : decode cX7_roomBy 33 = .ok (.iconst (-1), 1) := by decide +kernel
theorem dX7_roomBy_34 : decode cX7_roomBy 34 = .ok (.invokevirtual 71, 3) := by decide +kernel
theorem dX7_roomBy_37 : decode cX7_roomBy 37 = .ok (.ireturn, 1) := by decide +kernel
theorem dX7_farthest_0 : decode cX7_farthest 0 = .ok (.iconst 0, 1) := by decide +kernel
theorem dX7_farthest_1 : decode cX7_farthest 1 = .ok (.istore_n 1, 1) := by decide +kernel
theorem dX7_farthest_2 : decode cX7_farthest 2 = .ok (.iconst 1, 1) := by decide +kernel
theorem dX7_farthest_3 : decode cX7_farthest 3 = .ok (.istore_n 2, 1) := by decide +kernel
theorem dX7_farthest_4 : decode cX7_farthest 4 = .ok (.iload_n 2, 1) := by decide +kernel
theorem dX7_farthest_5 : decode cX7_farthest 5 = .ok (.aload_n 0, 1) := by decide +kernel
theorem dX7_farthest_6 : decode cX7_farthest 6 = .ok (.getfield 29, 3) := by decide +kernel
theorem dX7_farthest_9 : decode cX7_farthest 9 = .ok (.getfield 75, 3) := by decide +kernel
theorem dX7_farthest_12 : decode cX7_farthest 12 = .ok (.if_icmp .ge 78, 3) := by decide +kernel
theorem dX7_farthest_15 : decode cX7_farthest 15 = .ok (.aload_n 0, 1) := by decide +kernel
theorem dX7_farthest_16 : decode cX7_farthest 16 = .ok (.getfield 21, 3) := by decide +kernel
theorem dX7_farthest_19 : decode cX7_farthest 19 = .ok (.iload_n 2, 1) := by decide +kernel
theorem dX7_farthest_20 : decode cX7_farthest 20 = .ok (.iaload, 1) := by decide +kernel
theorem dX7_farthest_21 : decode cX7_farthest 21 = .ok (.aload_n 0, 1) := by decide +kernel
theorem dX7_farthest_22 : decode cX7_farthest 22 = .ok (.getfield 21, 3) := by decide +kernel
theorem dX7_farthest_25 : decode cX7_farthest 25 = .ok (.iload_n 1, 1) := by decide +kernel
theorem dX7_farthest_26 : decode cX7_farthest 26 = .ok (.iaload, 1) := by decide +kernel
theorem dX7_farthest_27 : decode cX7_farthest 27 = .ok (.if_icmp .ne 34, 3) := by decide +kernel
theorem dX7_farthest_30 : decode cX7_farthest 30 = .ok (.aload_n 0, 1) := by decide +kernel
theorem dX7_farthest_31 : decode cX7_farthest 31 = .ok (.getfield 29, 3) := by decide +kernel
theorem dX7_farthest_34 : decode cX7_farthest 34 = .ok (.getfield 78, 3) := by decide +kernel
theorem dX7_farthest_37 : decode cX7_farthest 37 = .ok (.iload_n 2, 1) := by decide +kernel
theorem dX7_farthest_38 : decode cX7_farthest 38 = .ok (.aaload, 1) := by decide +kernel
theorem dX7_farthest_39 : decode cX7_farthest 39 = .ok (.getfield 82, 3) := by decide +kernel
theorem dX7_farthest_42 : decode cX7_farthest 42 = .ok (.aload_n 0, 1) := by decide +kernel
theorem dX7_farthest_43 : decode cX7_farthest 43 = .ok (.getfield 29, 3) := by decide +kernel
theorem dX7_farthest_46 : decode cX7_farthest 46 = .ok (.getfield 78, 3) := by decide +kernel
theorem dX7_farthest_49 : decode cX7_farthest 49 = .ok (.iload_n 1, 1) := by decide +kernel
theorem dX7_farthest_50 : decode cX7_farthest 50 = .ok (.aaload, 1) := by decide +kernel
theorem dX7_farthest_51 : decode cX7_farthest 51 = .ok (.getfield 82, 3) := by decide +kernel
theorem dX7_farthest_54 : decode cX7_farthest 54 = .ok (.if_icmp .ge 7, 3) := by decide +kernel
theorem dX7_farthest_57 : decode cX7_farthest 57 = .ok (.iconst 1, 1) := by decide +kernel
theorem dX7_farthest_58 : decode cX7_farthest 58 = .ok (.goto 4, 3) := by decide +kernel
theorem dX7_farthest_61 : decode cX7_farthest 61 = .ok (.iconst 0, 1) := by decide +kernel
theorem dX7_farthest_62 : decode cX7_farthest 62 = .ok (.istore_n 3, 1) := by decide +kernel
theorem dX7_farthest_63 : decode cX7_farthest 63 = .ok (.aload_n 0, 1) := by decide +kernel
theorem dX7_farthest_64 : decode cX7_farthest 64 = .ok (.getfield 21, 3) := by decide +kernel
theorem dX7_farthest_67 : decode cX7_farthest 67 = .ok (.iload_n 2, 1) := by decide +kernel
theorem dX7_farthest_68 : decode cX7_farthest 68 = .ok (.iaload, 1) := by decide +kernel
theorem dX7_farthest_69 : decode cX7_farthest 69 = .ok (.aload_n 0, 1) := by decide +kernel
theorem dX7_farthest_70 : decode cX7_farthest 70 = .ok (.getfield 21, 3) := by decide +kernel
theorem dX7_farthest_73 : decode cX7_farthest 73 = .ok (.iload_n 1, 1) := by decide +kernel
theorem dX7_farthest_74 : decode cX7_farthest 74 = .ok (.iaload, 1) := by decide +kernel
theorem dX7_farthest_75 : decode cX7_farthest 75 = .ok (.if_icmp .gt 7, 3) := by decide +kernel
theorem dX7_farthest_78 : decode cX7_farthest 78 = .ok (.iload_n 3, 1) := by decide +kernel
theorem dX7_farthest_79 : decode cX7_farthest 79 = .ok (.ifCond .eq 5, 3) := by decide +kernel
theorem dX7_farthest_82 : decode cX7_farthest 82 = .ok (.iload_n 2, 1) := by decide +kernel
theorem dX7_farthest_83 : decode cX7_farthest 83 = .ok (.istore_n 1, 1) := by decide +kernel
theorem dX7_farthest_84 : decode cX7_farthest 84 = .ok (.iinc 2 1, 3) := by decide +kernel
theorem dX7_farthest_87 : decode cX7_farthest 87 = .ok (.goto (-83), 3) := by decide +kernel
theorem dX7_farthest_90 : decode cX7_farthest 90 = .ok (.iload_n 1, 1) := by decide +kernel
theorem dX7_farthest_91 : decode cX7_farthest 91 = .ok (.ireturn, 1) := by decide +kernel
theorem dX8_init_0 : decode cX8_init 0 = .ok (.aload_n 0, 1) := by decide +kernel
theorem dX8_init_1 : decode cX8_init 1 = .ok (.invokespecial 1, 3) := by decide +kernel
theorem dX8_init_4 : decode cX8_init 4 = .ok (.return_, 1) := by decide +kernel
theorem dX8_end_0 : decode cX8_end 0 = .ok (.aload_n 0, 1) := by decide +kernel
theorem dX8_end_1 : decode cX8_end 1 = .ok (.iconst 0, 1) := by decide +kernel
theorem dX8_end_2 : decode cX8_end 2 = .ok (.putfield 7, 3) := by decide +kernel
theorem dX8_end_5 : decode cX8_end 5 = .ok (.aload_n 0, 1) := by decide +kernel
theorem dX8_end_6 : decode cX8_end 6 = .ok (.iconst 0, 1) := by decide +kernel
theorem dX8_end_7 : decode cX8_end 7 = .ok (.putfield 13, 3) := by decide +kernel
theorem dX8_end_10 : decode cX8_end 10 = .ok (.return_, 1) := by decide +kernel
theorem dX9_init_0 : decode cX9_init 0 = .ok (.aload_n 0, 1) := by decide +kernel
theorem dX9_init_1 : decode cX9_init 1 = .ok (.invokespecial 1, 3) := by decide +kernel
theorem dX9_init_4 : decode cX9_init 4 = .ok (.aload_n 0, 1) := by decide +kernel
theorem dX9_init_5 : decode cX9_init 5 = .ok (.iconst 2, 1) := by decide +kernel
theorem dX9_init_6 : decode cX9_init 6 = .ok (.anewarray 9, 3) := by decide +kernel
theorem dX9_init_9 : decode cX9_init 9 = .ok (.putfield 11, 3) := by decide +kernel
theorem dX9_init_12 : decode cX9_init 12 = .ok (.iconst 0, 1) := by decide +kernel
theorem dX9_init_13 : decode cX9_init 13 = .ok (.istore_n 1, 1) := by decide +kernel
theorem dX9_init_14 : decode cX9_init 14 = .ok (.iload_n 1, 1) := by decide +kernel
theorem dX9_init_15 : decode cX9_init 15 = .ok (.iconst 2, 1) := by decide +kernel
theorem dX9_init_16 : decode cX9_init 16 = .ok (.if_icmp .ge 23, 3) := by decide +kernel
theorem dX9_init_19 : decode cX9_init 19 = .ok (.aload_n 0, 1) := by decide +kernel
theorem dX9_init_20 : decode cX9_init 20 = .ok (.getfield 11, 3) := by decide +kernel
theorem dX9_init_23 : decode cX9_init 23 = .ok (.iload_n 1, 1) := by decide +kernel
theorem dX9_init_24 : decode cX9_init 24 = .ok (.new 9, 3) := by decide +kernel
theorem dX9_init_27 : decode cX9_init 27 = .ok (.dup, 1) := by decide +kernel
theorem dX9_init_28 : decode cX9_init 28 = .ok (.iload_n 1, 1) := by decide +kernel
theorem dX9_init_29 : decode cX9_init 29 = .ok (.invokespecial 15, 3) := by decide +kernel
theorem dX9_init_32 : decode cX9_init 32 = .ok (.aastore, 1) := by decide +kernel
theorem dX9_init_33 : decode cX9_init 33 = .ok (.iinc 1 1, 3) := by decide +kernel
theorem dX9_init_36 : decode cX9_init 36 = .ok (.goto (-22), 3) := by decide +kernel
theorem dX9_init_39 : decode cX9_init 39 = .ok (.aload_n 0, 1) := by decide +kernel
theorem dX9_init_40 : decode cX9_init 40 = .ok (.new 18, 3) := by decide +kernel
theorem dX9_init_43 : decode cX9_init 43 = .ok (.dup, 1) := by decide +kernel
theorem dX9_init_44 : decode cX9_init 44 = .ok (.invokespecial 20, 3) := by decide +kernel
theorem dX9_init_47 : decode cX9_init 47 = .ok (.putfield 21, 3) := by decide +kernel
theorem dX9_init_50 : decode cX9_init 50 = .ok (.aload_n 0, 1) := by decide +kernel
theorem dX9_init_51 : decode cX9_init 51 = .ok (.new 25, 3) := by decide +kernel
theorem dX9_init_54 : decode cX9_init 54 = .ok (.dup, 1) := by decide +kernel
theorem dX9_init_55 : decode cX9_init 55 = .ok (.bipush 8, 2) := by decide +kernel
theorem dX9_init_57 : decode cX9_init 57 = .ok (.invokespecial 27, 3) := by decide +kernel
theorem dX9_init_60 : decode cX9_init 60 = .ok (.putfield 28, 3) := by decide +kernel
theorem dX9_init_63 : decode cX9_init 63 = .ok (.aload_n 0, 1) := by decide +kernel
theorem dX9_init_64 : decode cX9_init 64 = .ok (.new 32, 3) := by decide +kernel
theorem dX9_init_67 : decode cX9_init 67 = .ok (.dup, 1) := by decide +kernel
theorem dX9_init_68 : decode cX9_init 68 = .ok (.invokespecial 34, 3) := by decide +kernel
theorem dX9_init_71 : decode cX9_init 71 = .ok (.putfield 35, 3) := by decide +kernel
theorem dX9_init_74 : decode cX9_init 74 = .ok (.aload_n 0, 1) := by decide +kernel
theorem dX9_init_75 : decode cX9_init 75 = .ok (.new 39, 3) := by decide +kernel
theorem dX9_init_78 : decode cX9_init 78 = .ok (.dup, 1) := by decide +kernel
theorem dX9_init_79 : decode cX9_init 79 = .ok (.invokespecial 41, 3) := by decide +kernel
theorem dX9_init_82 : decode cX9_init 82 = .ok (.putfield 42, 3) := by decide +kernel
theorem dX9_init_85 : decode cX9_init 85 = .ok (.aload_n 0, 1) := by decide +kernel
theorem dX9_init_86 : decode cX9_init 86 = .ok (.new 46, 3) := by decide +kernel
theorem dX9_init_89 : decode cX9_init 89 = .ok (.dup, 1) := by decide +kernel
theorem dX9_init_90 : decode cX9_init 90 = .ok (.invokespecial 48, 3) := by decide +kernel
theorem dX9_init_93 : decode cX9_init 93 = .ok (.putfield 49, 3) := by decide +kernel
theorem dX9_init_96 : decode cX9_init 96 = .ok (.aload_n 0, 1) := by decide +kernel
theorem dX9_init_97 : decode cX9_init 97 = .ok (.new 53, 3) := by decide +kernel
theorem dX9_init_100 : decode cX9_init 100 = .ok (.dup, 1) := by decide +kernel
theorem dX9_init_101 : decode cX9_init 101 = .ok (.invokespecial 55, 3) := by decide +kernel
theorem dX9_init_104 : decode cX9_init 104 = .ok (.putfield 56, 3) := by decide +kernel
theorem dX9_init_107 : decode cX9_init 107 = .ok (.aload_n 0, 1) := by decide +kernel
theorem dX9_init_108 : decode cX9_init 108 = .ok (.iconst 4, 1) := by decide +kernel
theorem dX9_init_109 : decode cX9_init 109 = .ok (.anewarray 60, 3) := by decide +kernel
theorem dX9_init_112 : decode cX9_init 112 = .ok (.putfield 62, 3) := by decide +kernel
theorem dX9_init_115 : decode cX9_init 115 = .ok (.aload_n 0, 1) := by decide +kernel
theorem dX9_init_116 : decode cX9_init 116 = .ok (.iconst 3, 1) := by decide +kernel
theorem dX9_init_117 : decode cX9_init 117 = .ok (.newarray .long, 2) := by decide +kernel
theorem dX9_init_119 : decode cX9_init 119 = .ok (.putfield 66, 3) := by decide +kernel
theorem dX9_init_122 : decode cX9_init 122 = .ok (.aload_n 0, 1) := by decide +kernel
theorem dX9_init_123 : decode cX9_init 123 = .ok (.bipush 108, 2) := by decide +kernel
theorem dX9_init_125 : decode cX9_init 125 = .ok (.putfield 70, 3) := by decide +kernel
theorem dX9_init_128 : decode cX9_init 128 = .ok (.aload_n 0, 1) := by decide +kernel
theorem dX9_init_129 : decode cX9_init 129 = .ok (.iconst 4, 1) := by decide +kernel
theorem dX9_init_130 : decode cX9_init 130 = .ok (.putfield 74, 3) := by decide +kernel
theorem dX9_init_133 : decode cX9_init 133 = .ok (.aload_n 0, 1) := by decide +kernel
theorem dX9_init_134 : decode cX9_init 134 = .ok (.iconst 1, 1) := by decide +kernel
theorem dX9_init_135 : decode cX9_init 135 = .ok (.putfield 78, 3) := by decide +kernel
theorem dX9_init_138 : decode cX9_init 138 = .ok (.return_, 1) := by decide +kernel
theorem dX9_addFile_0 : decode cX9_addFile 0 = .ok (.aload_n 0, 1) := by decide +kernel
theorem dX9_addFile_1 : decode cX9_addFile 1 = .ok (.iload_n 1, 1) := by decide +kernel
theorem dX9_addFile_2 : decode cX9_addFile 2 = .ok (.invokevirtual 82, 3) := by decide +kernel
theorem dX9_addFile_5 : decode cX9_addFile 5 = .ok (.astore_n 2, 1) := by decide +kernel
theorem dX9_addFile_6 : decode cX9_addFile 6 = .ok (.aload_n 2, 1) := by decide +kernel
theorem dX9_addFile_7 : decode cX9_addFile 7 = .ok (.getfield 86, 3) := by decide +kernel
theorem dX9_addFile_10 : decode cX9_addFile 10 = .ok (.iconst 4, 1) := by decide +kernel
theorem dX9_addFile_11 : decode cX9_addFile 11 = .ok (.if_icmp .ge 15, 3) := by decide +kernel
theorem dX9_addFile_14 : decode cX9_addFile 14 = .ok (.aload_n 0, 1) := by decide +kernel
theorem dX9_addFile_15 : decode cX9_addFile 15 = .ok (.getfield 21, 3) := by decide +kernel
theorem dX9_addFile_18 : decode cX9_addFile 18 = .ok (.getfield 88, 3) := by decide +kernel
theorem dX9_addFile_21 : decode cX9_addFile 21 = .ok (.bipush 8, 2) := by decide +kernel
theorem dX9_addFile_23 : decode cX9_addFile 23 = .ok (.if_icmp .lt 13, 3) := by decide +kernel
theorem dX9_addFile_26 : decode cX9_addFile 26 = .ok (.new 91, 3) := by decide +kernel
theorem dX9_addFile_29 : decode cX9_addFile 29 = .ok (.dup, 1) := by decide +kernel
theorem dX9_addFile_30 : decode cX9_addFile 30 = .ok (.ldc 93, 2) := by decide +kernel
theorem dX9_addFile_32 : decode cX9_addFile 32 = .ok (.invokespecial 95, 3) := by decide +kernel
theorem dX9_addFile_35 : decode cX9_addFile 35 = .ok (.athrow, 1) := by decide +kernel
theorem dX9_addFile_36 : decode cX9_addFile 36 = .ok (.iload_n 1, 1) := by decide +kernel
theorem dX9_addFile_37 : decode cX9_addFile 37 = .ok (.bipush 64, 2) := by decide +kernel
theorem dX9_addFile_39 : decode cX9_addFile 39 = .ok (.imul, 1) := by decide +kernel
theorem dX9_addFile_40 : decode cX9_addFile 40 = .ok (.aload_n 2, 1) := by decide +kernel
theorem dX9_addFile_41 : decode cX9_addFile 41 = .ok (.getfield 86, 3) := by decide +kernel
theorem dX9_addFile_44 : decode cX9_addFile 44 = .ok (.bipush 16, 2) := by decide +kernel
theorem dX9_addFile_46 : decode cX9_addFile 46 = .ok (.imul, 1) := by decide +kernel
theorem dX9_addFile_47 : decode cX9_addFile 47 = .ok (.iadd, 1) := by decide +kernel
theorem dX9_addFile_48 : decode cX9_addFile 48 = .ok (.istore_n 3, 1) := by decide +kernel
theorem dX9_addFile_49 : decode cX9_addFile 49 = .ok (.aload_n 2, 1) := by decide +kernel
theorem dX9_addFile_50 : decode cX9_addFile 50 = .ok (.dup, 1) := by decide +kernel
theorem dX9_addFile_51 : decode cX9_addFile 51 = .ok (.getfield 86, 3) := by decide +kernel
theorem dX9_addFile_54 : decode cX9_addFile 54 = .ok (.iconst 1, 1) := by decide +kernel
theorem dX9_addFile_55 : decode cX9_addFile 55 = .ok (.iadd, 1) := by decide +kernel
theorem dX9_addFile_56 : decode cX9_addFile 56 = .ok (.putfield 86, 3) := by decide +kernel
theorem dX9_addFile_59 : decode cX9_addFile 59 = .ok (.aload_n 0, 1) := by decide +kernel
theorem dX9_addFile_60 : decode cX9_addFile 60 = .ok (.getfield 21, 3) := by decide +kernel
theorem dX9_addFile_63 : decode cX9_addFile 63 = .ok (.iload_n 3, 1) := by decide +kernel
theorem dX9_addFile_64 : decode cX9_addFile 64 = .ok (.invokevirtual 98, 3) := by decide +kernel
theorem dX9_addFile_67 : decode cX9_addFile 67 = .ok (.ireturn, 1) := by decide +kernel
theorem dX9_setFrames_0 : decode cX9_setFrames 0 = .ok (.iload_n 1, 1) := by decide +kernel
theorem dX9_setFrames_1 : decode cX9_setFrames 1 = .ok (.iconst 1, 1) := by decide +kernel
theorem dX9_setFrames_2 : decode cX9_setFrames 2 = .ok (.bipush 16, 2) := by decide +kernel
theorem dX9_setFrames_4 : decode cX9_setFrames 4 = .ok (.invokestatic 102, 3) := by decide +kernel
theorem dX9_setFrames_7 : decode cX9_setFrames 7 = .ok (.aload_n 0, 1) := by decide +kernel
theorem dX9_setFrames_8 : decode cX9_setFrames 8 = .ok (.invokevirtual 106, 3) := by decide +kernel
theorem dX9_setFrames_11 : decode cX9_setFrames 11 = .ok (.aload_n 0, 1) := by decide +kernel
theorem dX9_setFrames_12 : decode cX9_setFrames 12 = .ok (.getfield 28, 3) := by decide +kernel
theorem dX9_setFrames_15 : decode cX9_setFrames 15 = .ok (.iload_n 1, 1) := by decide +kernel
theorem dX9_setFrames_16 : decode cX9_setFrames 16 = .ok (.invokevirtual 109, 3) := by decide +kernel
theorem dX9_setFrames_19 : decode cX9_setFrames 19 = .ok (.ifCond .eq 13, 3) := by decide +kernel
theorem dX9_setFrames_22 : decode cX9_setFrames 22 = .ok (.new 91, 3) := by decide +kernel
theorem dX9_setFrames_25 : decode cX9_setFrames 25 = .ok (.dup, 1) := by decide +kernel
theorem dX9_setFrames_26 : decode cX9_setFrames 26 = .ok (.ldc 113, 2) := by decide +kernel
theorem dX9_setFrames_28 : decode cX9_setFrames 28 = .ok (.invokespecial 95, 3) := by decide +kernel
theorem dX9_setFrames_31 : decode cX9_setFrames 31 = .ok (.athrow, 1) := by decide +kernel
theorem dX9_setFrames_32 : decode cX9_setFrames 32 = .ok (.aload_n 0, 1) := by decide +kernel
theorem dX9_setFrames_33 : decode cX9_setFrames 33 = .ok (.getfield 28, 3) := by decide +kernel
theorem dX9_setFrames_36 : decode cX9_setFrames 36 = .ok (.getfield 115, 3) := by decide +kernel
theorem dX9_setFrames_39 : decode cX9_setFrames 39 = .ok (.iconst 1, 1) := by decide +kernel
theorem dX9_setFrames_40 : decode cX9_setFrames 40 = .ok (.isub, 1) := by decide +kernel
theorem dX9_setFrames_41 : decode cX9_setFrames 41 = .ok (.istore_n 2, 1) := by decide +kernel
theorem dX9_setFrames_42 : decode cX9_setFrames 42 = .ok (.iload_n 2, 1) := by decide +kernel
theorem dX9_setFrames_43 : decode cX9_setFrames 43 = .ok (.iload_n 1, 1) := by decide +kernel
theorem dX9_setFrames_44 : decode cX9_setFrames 44 = .ok (.if_icmp .lt 27, 3) := by decide +kernel
theorem dX9_setFrames_47 : decode cX9_setFrames 47 = .ok (.aload_n 0, 1) := by decide +kernel
theorem dX9_setFrames_48 : decode cX9_setFrames 48 = .ok (.aload_n 0, 1) := by decide +kernel
theorem dX9_setFrames_49 : decode cX9_setFrames 49 = .ok (.getfield 28, 3) := by decide +kernel
theorem dX9_setFrames_52 : decode cX9_setFrames 52 = .ok (.getfield 118, 3) := by decide +kernel
theorem dX9_setFrames_55 : decode cX9_setFrames 55 = .ok (.iload_n 2, 1) := by decide +kernel
theorem dX9_setFrames_56 : decode cX9_setFrames 56 = .ok (.aaload, 1) := by decide +kernel
theorem dX9_setFrames_57 : decode cX9_setFrames 57 = .ok (.invokevirtual 122, 3) := by decide +kernel
theorem dX9_setFrames_60 : decode cX9_setFrames 60 = .ok (.ifCond .ne 5, 3) := by decide +kernel
theorem dX9_setFrames_63 : decode cX9_setFrames 63 = .ok (.iconst (-1), 1) := by decide +kernel
theorem dX9_setFrames_64 : decode cX9_setFrames 64 = .ok (.ireturn, 1) := by decide +kernel
theorem dX9_setFrames_65 : decode cX9_setFrames 65 = .ok (.iinc 2 (-1), 3) := by decide +kernel
theorem dX9_setFrames_68 : decode cX9_setFrames 68 = .ok (.goto (-26), 3) := by decide +kernel
theorem dX9_setFrames_71 : decode cX9_setFrames 71 = .ok (.aload_n 0, 1) := by decide +kernel
theorem dX9_setFrames_72 : decode cX9_setFrames 72 = .ok (.getfield 28, 3) := by decide +kernel
theorem dX9_setFrames_75 : decode cX9_setFrames 75 = .ok (.iload_n 1, 1) := by decide +kernel
theorem dX9_setFrames_76 : decode cX9_setFrames 76 = .ok (.invokevirtual 126, 3) := by decide +kernel
theorem dX9_setFrames_79 : decode cX9_setFrames 79 = .ok (.ireturn, 1) := by decide +kernel
theorem dX9_setPolicy_0 : decode cX9_setPolicy 0 = .ok (.iload_n 1, 1) := by decide +kernel
theorem dX9_setPolicy_1 : decode cX9_setPolicy 1 = .ok (.invokestatic 129, 3) := by decide +kernel
theorem dX9_setPolicy_4 : decode cX9_setPolicy 4 = .ok (.ifCond .ne 13, 3) := by decide +kernel
theorem dX9_setPolicy_7 : decode cX9_setPolicy 7 = .ok (.new 133, 3) := by decide +kernel
theorem dX9_setPolicy_10 : decode cX9_setPolicy 10 = .ok (.dup, 1) := by decide +kernel
theorem dX9_setPolicy_11 : decode cX9_setPolicy 11 = .ok (.ldc 135, 2) := by decide +kernel
theorem dX9_setPolicy_13 : decode cX9_setPolicy 13 = .ok (.invokespecial 137, 3) := by decide +kernel
theorem dX9_setPolicy_16 : decode cX9_setPolicy 16 = .ok (.athrow, 1) := by decide +kernel
theorem dX9_setPolicy_17 : decode cX9_setPolicy 17 = .ok (.aload_n 0, 1) := by decide +kernel
theorem dX9_setPolicy_18 : decode cX9_setPolicy 18 = .ok (.getfield 70, 3) := by decide +kernel
theorem dX9_setPolicy_21 : decode cX9_setPolicy 21 = .ok (.istore_n 2, 1) := by decide +kernel
theorem dX9_setPolicy_22 : decode cX9_setPolicy 22 = .ok (.aload_n 0, 1) := by decide +kernel
theorem dX9_setPolicy_23 : decode cX9_setPolicy 23 = .ok (.iload_n 1, 1) := by decide +kernel
theorem dX9_setPolicy_24 : decode cX9_setPolicy 24 = .ok (.putfield 70, 3) := by decide +kernel
theorem dX9_setPolicy_27 : decode cX9_setPolicy 27 = .ok (.iload_n 2, 1) := by decide +kernel
theorem dX9_setPolicy_28 : decode cX9_setPolicy 28 = .ok (.ireturn, 1) := by decide +kernel
theorem dX9_setLimit_0 : decode cX9_setLimit 0 = .ok (.iload_n 1, 1) := by decide +kernel
theorem dX9_setLimit_1 : decode cX9_setLimit 1 = .ok (.iconst 1, 1) := by decide +kernel
theorem dX9_setLimit_2 : decode cX9_setLimit 2 = .ok (.bipush 16, 2) := by decide +kernel
theorem dX9_setLimit_4 : decode cX9_setLimit 4 = .ok (.invokestatic 102, 3) := by decide +kernel
theorem dX9_setLimit_7 : decode cX9_setLimit 7 = .ok (.aload_n 0, 1) := by decide +kernel
theorem dX9_setLimit_8 : decode cX9_setLimit 8 = .ok (.getfield 74, 3) := by decide +kernel
theorem dX9_setLimit_11 : decode cX9_setLimit 11 = .ok (.istore_n 2, 1) := by decide +kernel
theorem dX9_setLimit_12 : decode cX9_setLimit 12 = .ok (.aload_n 0, 1) := by decide +kernel
theorem dX9_setLimit_13 : decode cX9_setLimit 13 = .ok (.iload_n 1, 1) := by decide +kernel
theorem dX9_setLimit_14 : decode cX9_setLimit 14 = .ok (.putfield 74, 3) := by decide +kernel
theorem dX9_setLimit_17 : decode cX9_setLimit 17 = .ok (.iload_n 2, 1) := by decide +kernel
theorem dX9_setLimit_18 : decode cX9_setLimit 18 = .ok (.ireturn, 1) := by decide +kernel
theorem dX9_setWindow_0 : decode cX9_setWindow 0 = .ok (.iload_n 1, 1) := by decide +kernel
theorem dX9_setWindow_1 : decode cX9_setWindow 1 = .ok (.iconst 0, 1) := by decide +kernel
theorem dX9_setWindow_2 : decode cX9_setWindow 2 = .ok (.iconst 4, 1) := by decide +kernel
theorem dX9_setWindow_3 : decode cX9_setWindow 3 = .ok (.invokestatic 102, 3) := by decide +kernel
theorem dX9_setWindow_6 : decode cX9_setWindow 6 = .ok (.aload_n 0, 1) := by decide +kernel
theorem dX9_setWindow_7 : decode cX9_setWindow 7 = .ok (.getfield 138, 3) := by decide +kernel
theorem dX9_setWindow_10 : decode cX9_setWindow 10 = .ok (.istore_n 2, 1) := by decide +kernel
theorem dX9_setWindow_11 : decode cX9_setWindow 11 = .ok (.aload_n 0, 1) := by decide +kernel
theorem dX9_setWindow_12 : decode cX9_setWindow 12 = .ok (.iload_n 1, 1) := by decide +kernel
theorem dX9_setWindow_13 : decode cX9_setWindow 13 = .ok (.putfield 138, 3) := by decide +kernel
theorem dX9_setWindow_16 : decode cX9_setWindow 16 = .ok (.iload_n 2, 1) := by decide +kernel
theorem dX9_setWindow_17 : decode cX9_setWindow 17 = .ok (.ireturn, 1) := by decide +kernel
theorem dX9_setTenant_0 : decode cX9_setTenant 0 = .ok (.iload_n 1, 1) := by decide +kernel
theorem dX9_setTenant_1 : decode cX9_setTenant 1 = .ok (.iconst 0, 1) := by decide +kernel
theorem dX9_setTenant_2 : decode cX9_setTenant 2 = .ok (.iconst 2, 1) := by decide +kernel
theorem dX9_setTenant_3 : decode cX9_setTenant 3 = .ok (.invokestatic 102, 3) := by decide +kernel
theorem dX9_setTenant_6 : decode cX9_setTenant 6 = .ok (.aload_n 0, 1) := by decide +kernel
theorem dX9_setTenant_7 : decode cX9_setTenant 7 = .ok (.getfield 141, 3) := by decide +kernel
theorem dX9_setTenant_10 : decode cX9_setTenant 10 = .ok (.istore_n 2, 1) := by decide +kernel
theorem dX9_setTenant_11 : decode cX9_setTenant 11 = .ok (.aload_n 0, 1) := by decide +kernel
theorem dX9_setTenant_12 : decode cX9_setTenant 12 = .ok (.iload_n 1, 1) := by decide +kernel
theorem dX9_setTenant_13 : decode cX9_setTenant 13 = .ok (.putfield 141, 3) := by decide +kernel
theorem dX9_setTenant_16 : decode cX9_setTenant 16 = .ok (.iload_n 2, 1) := by decide +kernel
theorem dX9_setTenant_17 : decode cX9_setTenant 17 = .ok (.ireturn, 1) := by decide +kernel
theorem dX9_read_0 : decode cX9_read 0 = .ok (.aload_n 0, 1) := by decide +kernel
theorem dX9_read_1 : decode cX9_read 1 = .ok (.iload_n 1, 1) := by decide +kernel
theorem dX9_read_2 : decode cX9_read 2 = .ok (.iload_n 2, 1) := by decide +kernel
theorem dX9_read_3 : decode cX9_read 3 = .ok (.invokevirtual 144, 3) := by decide +kernel
theorem dX9_read_6 : decode cX9_read 6 = .ok (.istore_n 3, 1) := by decide +kernel
theorem dX9_read_7 : decode cX9_read 7 = .ok (.aload_n 0, 1) := by decide +kernel
theorem dX9_read_8 : decode cX9_read 8 = .ok (.invokevirtual 106, 3) := by decide +kernel
theorem dX9_read_11 : decode cX9_read 11 = .ok (.aload_n 0, 1) := by decide +kernel
theorem dX9_read_12 : decode cX9_read 12 = .ok (.getfield 28, 3) := by decide +kernel
theorem dX9_read_15 : decode cX9_read 15 = .ok (.iload_n 3, 1) := by decide +kernel
theorem dX9_read_16 : decode cX9_read 16 = .ok (.invokevirtual 148, 3) := by decide +kernel
theorem dX9_read_19 : decode cX9_read 19 = .ok (.istore 4, 2) := by decide +kernel
theorem dX9_read_21 : decode cX9_read 21 = .ok (.iload 4, 2) := by decide +kernel
theorem dX9_read_23 : decode cX9_read 23 = .ok (.ifCond .ge 31, 3) := by decide +kernel
theorem dX9_read_26 : decode cX9_read 26 = .ok (.aload_n 0, 1) := by decide +kernel
theorem dX9_read_27 : decode cX9_read 27 = .ok (.getfield 28, 3) := by decide +kernel
theorem dX9_read_30 : decode cX9_read 30 = .ok (.invokevirtual 151, 3) := by decide +kernel
theorem dX9_read_33 : decode cX9_read 33 = .ok (.ifCond .eq 11, 3) := by decide +kernel
theorem dX9_read_36 : decode cX9_read 36 = .ok (.aload_n 0, 1) := by decide +kernel
theorem dX9_read_37 : decode cX9_read 37 = .ok (.iload_n 3, 1) := by decide +kernel
theorem dX9_read_38 : decode cX9_read 38 = .ok (.invokevirtual 155, 3) := by decide +kernel
theorem dX9_read_41 : decode cX9_read 41 = .ok (.ifCond .eq 13, 3) := by decide +kernel
theorem dX9_read_44 : decode cX9_read 44 = .ok (.new 91, 3) := by decide +kernel
theorem dX9_read_47 : decode cX9_read 47 = .ok (.dup, 1) := by decide +kernel
theorem dX9_read_48 : decode cX9_read 48 = .ok (.ldc 158, 2) := by decide +kernel
theorem dX9_read_50 : decode cX9_read 50 = .ok (.invokespecial 95, 3) := by decide +kernel
theorem dX9_read_53 : decode cX9_read 53 = .ok (.athrow, 1) := by decide +kernel
theorem dX9_read_54 : decode cX9_read 54 = .ok (.aload_n 0, 1) := by decide +kernel
theorem dX9_read_55 : decode cX9_read 55 = .ok (.iload_n 1, 1) := by decide +kernel
theorem dX9_read_56 : decode cX9_read 56 = .ok (.iload_n 2, 1) := by decide +kernel
theorem dX9_read_57 : decode cX9_read 57 = .ok (.iload 4, 2) := by decide +kernel
theorem dX9_read_59 : decode cX9_read 59 = .ok (.invokevirtual 160, 3) := by decide +kernel
theorem dX9_read_62 : decode cX9_read 62 = .ok (.aload_n 0, 1) := by decide +kernel
theorem dX9_read_63 : decode cX9_read 63 = .ok (.getfield 21, 3) := by decide +kernel
theorem dX9_read_66 : decode cX9_read 66 = .ok (.getfield 163, 3) := by decide +kernel
theorem dX9_read_69 : decode cX9_read 69 = .ok (.iload_n 1, 1) := by decide +kernel
theorem dX9_read_70 : decode cX9_read 70 = .ok (.iaload, 1) := by decide +kernel
theorem dX9_read_71 : decode cX9_read 71 = .ok (.iconst 1, 1) := by decide +kernel
theorem dX9_read_72 : decode cX9_read 72 = .ok (.iadd, 1) := by decide +kernel
theorem dX9_read_73 : decode cX9_read 73 = .ok (.iload_n 2, 1) := by decide +kernel
theorem dX9_read_74 : decode cX9_read 74 = .ok (.if_icmp .ne 7, 3) := by decide +kernel
theorem dX9_read_77 : decode cX9_read 77 = .ok (.iconst 1, 1) := by decide +kernel
theorem dX9_read_78 : decode cX9_read 78 = .ok (.goto 4, 3) := by decide +kernel
theorem dX9_read_81 : decode cX9_read 81 = .ok (.iconst 0, 1) := by decide +kernel
theorem dX9_read_82 : decode cX9_read 82 = .ok (.istore 5, 2) := by decide +kernel
theorem dX9_read_84 : decode cX9_read 84 = .ok (.aload_n 0, 1) := by decide +kernel
theorem dX9_read_85 : decode cX9_read 85 = .ok (.getfield 21, 3) := by decide +kernel
theorem dX9_read_88 : decode cX9_read 88 = .ok (.getfield 163, 3) := by decide +kernel
theorem dX9_read_91 : decode cX9_read 91 = .ok (.iload_n 1, 1) := by decide +kernel
theorem dX9_read_92 : decode cX9_read 92 = .ok (.iload_n 2, 1) := by decide +kernel
theorem dX9_read_93 : decode cX9_read 93 = .ok (.iastore, 1) := by decide +kernel
theorem dX9_read_94 : decode cX9_read 94 = .ok (.iload 4, 2) := by decide +kernel
theorem dX9_read_96 : decode cX9_read 96 = .ok (.ifCond .lt 26, 3) := by decide +kernel
theorem dX9_read_99 : decode cX9_read 99 = .ok (.aload_n 0, 1) := by decide +kernel
theorem dX9_read_100 : decode cX9_read 100 = .ok (.getfield 28, 3) := by decide +kernel
theorem dX9_read_103 : decode cX9_read 103 = .ok (.iload 4, 2) := by decide +kernel
theorem dX9_read_105 : decode cX9_read 105 = .ok (.invokevirtual 167, 3) := by decide +kernel
theorem dX9_read_108 : decode cX9_read 108 = .ok (.aload_n 0, 1) := by decide +kernel
theorem dX9_read_109 : decode cX9_read 109 = .ok (.getfield 28, 3) := by decide +kernel
theorem dX9_read_112 : decode cX9_read 112 = .ok (.getfield 118, 3) := by decide +kernel
theorem dX9_read_115 : decode cX9_read 115 = .ok (.iload 4, 2) := by decide +kernel
theorem dX9_read_117 : decode cX9_read 117 = .ok (.aaload, 1) := by decide +kernel
theorem dX9_read_118 : decode cX9_read 118 = .ok (.getfield 170, 3) := by decide +kernel
theorem dX9_read_121 : decode cX9_read 121 = .ok (.ireturn, 1) := by decide +kernel
theorem dX9_read_122 : decode cX9_read 122 = .ok (.aload_n 0, 1) := by decide +kernel
theorem dX9_read_123 : decode cX9_read 123 = .ok (.invokevirtual 175, 3) := by decide +kernel
theorem dX9_read_126 : decode cX9_read 126 = .ok (.istore 4, 2) := by decide +kernel
theorem dX9_read_128 : decode cX9_read 128 = .ok (.iload 4, 2) := by decide +kernel
theorem dX9_read_130 : decode cX9_read 130 = .ok (.ifCond .ge 5, 3) := by decide +kernel
theorem dX9_read_133 : decode cX9_read 133 = .ok (.iconst (-1), 1) := by decide +kernel
theorem dX9_read_134 : decode cX9_read 134 = .ok (.ireturn, 1) := by decide +kernel
theorem dX9_read_135 : decode cX9_read 135 = .ok (.aload_n 0, 1) := by decide +kernel
theorem dX9_read_136 : decode cX9_read 136 = .ok (.iload 4, 2) := by decide +kernel
theorem dX9_read_138 : decode cX9_read 138 = .ok (.iload_n 3, 1) := by decide +kernel
theorem dX9_read_139 : decode cX9_read 139 = .ok (.invokevirtual 179, 3) := by decide +kernel
theorem dX9_read_142 : decode cX9_read 142 = .ok (.iload 5, 2) := by decide +kernel
theorem dX9_read_144 : decode cX9_read 144 = .ok (.ifCond .eq 11, 3) := by decide +kernel
theorem dX9_read_147 : decode cX9_read 147 = .ok (.aload_n 0, 1) := by decide +kernel
theorem dX9_read_148 : decode cX9_read 148 = .ok (.iload_n 3, 1) := by decide +kernel
theorem dX9_read_149 : decode cX9_read 149 = .ok (.iload_n 2, 1) := by decide +kernel
theorem dX9_read_150 : decode cX9_read 150 = .ok (.iload 4, 2) := by decide +kernel
theorem dX9_read_152 : decode cX9_read 152 = .ok (.invokevirtual 183, 3) := by decide +kernel
theorem dX9_read_155 : decode cX9_read 155 = .ok (.aload_n 0, 1) := by decide +kernel
theorem dX9_read_156 : decode cX9_read 156 = .ok (.getfield 28, 3) := by decide +kernel
theorem dX9_read_159 : decode cX9_read 159 = .ok (.getfield 118, 3) := by decide +kernel
theorem dX9_read_162 : decode cX9_read 162 = .ok (.iload 4, 2) := by decide +kernel
theorem dX9_read_164 : decode cX9_read 164 = .ok (.aaload, 1) := by decide +kernel
theorem dX9_read_165 : decode cX9_read 165 = .ok (.getfield 170, 3) := by decide +kernel
theorem dX9_read_168 : decode cX9_read 168 = .ok (.ireturn, 1) := by decide +kernel
theorem dX9_write_0 : decode cX9_write 0 = .ok (.aload_n 0, 1) := by decide +kernel
theorem dX9_write_1 : decode cX9_write 1 = .ok (.iload_n 1, 1) := by decide +kernel
theorem dX9_write_2 : decode cX9_write 2 = .ok (.iload_n 2, 1) := by decide +kernel
theorem dX9_write_3 : decode cX9_write 3 = .ok (.invokevirtual 144, 3) := by decide +kernel
theorem dX9_write_6 : decode cX9_write 6 = .ok (.istore 4, 2) := by decide +kernel
theorem dX9_write_8 : decode cX9_write 8 = .ok (.iload_n 3, 1) := by decide +kernel
theorem dX9_write_9 : decode cX9_write 9 = .ok (.iconst 0, 1) := by decide +kernel
theorem dX9_write_10 : decode cX9_write 10 = .ok (.sipush 9999, 3) := by decide +kernel
theorem dX9_write_13 : decode cX9_write 13 = .ok (.invokestatic 102, 3) := by decide +kernel
theorem dX9_write_16 : decode cX9_write 16 = .ok (.aload_n 0, 1) := by decide +kernel
theorem dX9_write_17 : decode cX9_write 17 = .ok (.invokevirtual 106, 3) := by decide +kernel
theorem dX9_write_20 : decode cX9_write 20 = .ok (.aload_n 0, 1) := by decide +kernel
theorem dX9_write_21 : decode cX9_write 21 = .ok (.getfield 28, 3) := by decide +kernel
theorem dX9_write_24 : decode cX9_write 24 = .ok (.iload 4, 2) := by decide +kernel
theorem dX9_write_26 : decode cX9_write 26 = .ok (.invokevirtual 148, 3) := by decide +kernel
theorem dX9_write_29 : decode cX9_write 29 = .ok (.istore 5, 2) := by decide +kernel
theorem dX9_write_31 : decode cX9_write 31 = .ok (.iload 5, 2) := by decide +kernel
theorem dX9_write_33 : decode cX9_write 33 = .ok (.ifCond .ge 13, 3) := by decide +kernel
theorem dX9_write_36 : decode cX9_write 36 = .ok (.aload_n 0, 1) := by decide +kernel
theorem dX9_write_37 : decode cX9_write 37 = .ok (.getfield 28, 3) := by decide +kernel
theorem dX9_write_40 : decode cX9_write 40 = .ok (.invokevirtual 151, 3) := by decide +kernel
theorem dX9_write_43 : decode cX9_write 43 = .ok (.ifCond .eq 12, 3) := by decide +kernel
theorem dX9_write_46 : decode cX9_write 46 = .ok (.aload_n 0, 1) := by decide +kernel
theorem dX9_write_47 : decode cX9_write 47 = .ok (.iload 5, 2) := by decide +kernel
theorem dX9_write_49 : decode cX9_write 49 = .ok (.invokevirtual 186, 3) := by decide +kernel
theorem dX9_write_52 : decode cX9_write 52 = .ok (.ifCond .eq 13, 3) := by decide +kernel
theorem dX9_write_55 : decode cX9_write 55 = .ok (.new 91, 3) := by decide +kernel
theorem dX9_write_58 : decode cX9_write 58 = .ok (.dup, 1) := by decide +kernel
theorem dX9_write_59 : decode cX9_write 59 = .ok (.ldc 189, 2) := by decide +kernel
theorem dX9_write_61 : decode cX9_write 61 = .ok (.invokespecial 95, 3) := by decide +kernel
theorem dX9_write_64 : decode cX9_write 64 = .ok (.athrow, 1) := by decide +kernel
theorem dX9_write_65 : decode cX9_write 65 = .ok (.aload_n 0, 1) := by decide +kernel
theorem dX9_write_66 : decode cX9_write 66 = .ok (.iload_n 1, 1) := by decide +kernel
theorem dX9_write_67 : decode cX9_write 67 = .ok (.iload_n 2, 1) := by decide +kernel
theorem dX9_write_68 : decode cX9_write 68 = .ok (.iload 5, 2) := by decide +kernel
theorem dX9_write_70 : decode cX9_write 70 = .ok (.invokevirtual 160, 3) := by decide +kernel
theorem dX9_write_73 : decode cX9_write 73 = .ok (.iload 5, 2) := by decide +kernel
theorem dX9_write_75 : decode cX9_write 75 = .ok (.ifCond .ge 7, 3) := by decide +kernel
theorem dX9_write_78 : decode cX9_write 78 = .ok (.iconst 1, 1) := by decide +kernel
theorem dX9_write_79 : decode cX9_write 79 = .ok (.goto 4, 3) := by decide +kernel
theorem dX9_write_82 : decode cX9_write 82 = .ok (.iconst 0, 1) := by decide +kernel
theorem dX9_write_83 : decode cX9_write 83 = .ok (.istore 6, 2) := by decide +kernel
theorem dX9_write_85 : decode cX9_write 85 = .ok (.iload 6, 2) := by decide +kernel
theorem dX9_write_87 : decode cX9_write 87 = .ok (.ifCond .eq 31, 3) := by decide +kernel
theorem dX9_write_90 : decode cX9_write 90 = .ok (.aload_n 0, 1) := by decide +kernel
theorem dX9_write_91 : decode cX9_write 91 = .ok (.invokevirtual 175, 3) := by decide +kernel
theorem dX9_write_94 : decode cX9_write 94 = .ok (.istore 5, 2) := by decide +kernel
theorem dX9_write_96 : decode cX9_write 96 = .ok (.iload 5, 2) := by decide +kernel
theorem dX9_write_98 : decode cX9_write 98 = .ok (.ifCond .ge 5, 3) := by decide +kernel
theorem dX9_write_101 : decode cX9_write 101 = .ok (.iconst (-1), 1) := by decide +kernel
theorem dX9_write_102 : decode cX9_write 102 = .ok (.ireturn, 1) := by decide +kernel
theorem dX9_write_103 : decode cX9_write 103 = .ok (.aload_n 0, 1) := by decide +kernel
theorem dX9_write_104 : decode cX9_write 104 = .ok (.getfield 28, 3) := by decide +kernel
theorem dX9_write_107 : decode cX9_write 107 = .ok (.iload 5, 2) := by decide +kernel
theorem dX9_write_109 : decode cX9_write 109 = .ok (.iload 4, 2) := by decide +kernel
theorem dX9_write_111 : decode cX9_write 111 = .ok (.iload_n 3, 1) := by decide +kernel
theorem dX9_write_112 : decode cX9_write 112 = .ok (.invokevirtual 191, 3) := by decide +kernel
theorem dX9_write_115 : decode cX9_write 115 = .ok (.goto 12, 3) := by decide +kernel
theorem dX9_write_118 : decode cX9_write 118 = .ok (.aload_n 0, 1) := by decide +kernel
theorem dX9_write_119 : decode cX9_write 119 = .ok (.getfield 28, 3) := by decide +kernel
theorem dX9_write_122 : decode cX9_write 122 = .ok (.iload 5, 2) := by decide +kernel
theorem dX9_write_124 : decode cX9_write 124 = .ok (.invokevirtual 167, 3) := by decide +kernel
theorem dX9_write_127 : decode cX9_write 127 = .ok (.aload_n 0, 1) := by decide +kernel
theorem dX9_write_128 : decode cX9_write 128 = .ok (.aload_n 0, 1) := by decide +kernel
theorem dX9_write_129 : decode cX9_write 129 = .ok (.getfield 28, 3) := by decide +kernel
theorem dX9_write_132 : decode cX9_write 132 = .ok (.getfield 118, 3) := by decide +kernel
theorem dX9_write_135 : decode cX9_write 135 = .ok (.iload 5, 2) := by decide +kernel
theorem dX9_write_137 : decode cX9_write 137 = .ok (.aaload, 1) := by decide +kernel
theorem dX9_write_138 : decode cX9_write 138 = .ok (.iload_n 3, 1) := by decide +kernel
theorem dX9_write_139 : decode cX9_write 139 = .ok (.iload 6, 2) := by decide +kernel
theorem dX9_write_141 : decode cX9_write 141 = .ok (.invokevirtual 193, 3) := by decide +kernel
theorem dX9_write_144 : decode cX9_write 144 = .ok (.aload_n 0, 1) := by decide +kernel
theorem dX9_write_145 : decode cX9_write 145 = .ok (.invokevirtual 197, 3) := by decide +kernel
theorem dX9_write_148 : decode cX9_write 148 = .ok (.ireturn, 1) := by decide +kernel
theorem dX9_pin_0 : decode cX9_pin 0 = .ok (.aload_n 0, 1) := by decide +kernel
theorem dX9_pin_1 : decode cX9_pin 1 = .ok (.getfield 28, 3) := by decide +kernel
theorem dX9_pin_4 : decode cX9_pin 4 = .ok (.aload_n 0, 1) := by decide +kernel
theorem dX9_pin_5 : decode cX9_pin 5 = .ok (.iload_n 1, 1) := by decide +kernel
theorem dX9_pin_6 : decode cX9_pin 6 = .ok (.iload_n 2, 1) := by decide +kernel
theorem dX9_pin_7 : decode cX9_pin 7 = .ok (.invokevirtual 144, 3) := by decide +kernel
theorem dX9_pin_10 : decode cX9_pin 10 = .ok (.invokevirtual 148, 3) := by decide +kernel
theorem dX9_pin_13 : decode cX9_pin 13 = .ok (.istore_n 3, 1) := by decide +kernel
theorem dX9_pin_14 : decode cX9_pin 14 = .ok (.iload_n 3, 1) := by decide +kernel
theorem dX9_pin_15 : decode cX9_pin 15 = .ok (.ifCond .ge 13, 3) := by decide +kernel
theorem dX9_pin_18 : decode cX9_pin 18 = .ok (.new 200, 3) := by decide +kernel
theorem dX9_pin_21 : decode cX9_pin 21 = .ok (.dup, 1) := by decide +kernel
theorem dX9_pin_22 : decode cX9_pin 22 = .ok (.ldc 202, 2) := by decide +kernel
theorem dX9_pin_24 : decode cX9_pin 24 = .ok (.invokespecial 204, 3) := by decide +kernel
theorem dX9_pin_27 : decode cX9_pin 27 = .ok (.athrow, 1) := by decide +kernel
theorem dX9_pin_28 : decode cX9_pin 28 = .ok (.aload_n 0, 1) := by decide +kernel
theorem dX9_pin_29 : decode cX9_pin 29 = .ok (.getfield 28, 3) := by decide +kernel
theorem dX9_pin_32 : decode cX9_pin 32 = .ok (.getfield 118, 3) := by decide +kernel
theorem dX9_pin_35 : decode cX9_pin 35 = .ok (.iload_n 3, 1) := by decide +kernel
theorem dX9_pin_36 : decode cX9_pin 36 = .ok (.aaload, 1) := by decide +kernel
theorem dX9_pin_37 : decode cX9_pin 37 = .ok (.dup, 1) := by decide +kernel
theorem dX9_pin_38 : decode cX9_pin 38 = .ok (.getfield 205, 3) := by decide +kernel
theorem dX9_pin_41 : decode cX9_pin 41 = .ok (.iconst 1, 1) := by decide +kernel
theorem dX9_pin_42 : decode cX9_pin 42 = .ok (.iadd, 1) := by decide +kernel
theorem dX9_pin_43 : decode cX9_pin 43 = .ok (.putfield 205, 3) := by decide +kernel
theorem dX9_pin_46 : decode cX9_pin 46 = .ok (.aload_n 0, 1) := by decide +kernel
theorem dX9_pin_47 : decode cX9_pin 47 = .ok (.getfield 28, 3) := by decide +kernel
theorem dX9_pin_50 : decode cX9_pin 50 = .ok (.getfield 118, 3) := by decide +kernel
theorem dX9_pin_53 : decode cX9_pin 53 = .ok (.iload_n 3, 1) := by decide +kernel
theorem dX9_pin_54 : decode cX9_pin 54 = .ok (.aaload, 1) := by decide +kernel
theorem dX9_pin_55 : decode cX9_pin 55 = .ok (.getfield 205, 3) := by decide +kernel
theorem dX9_pin_58 : decode cX9_pin 58 = .ok (.ireturn, 1) := by decide +kernel
theorem dX9_unpin_0 : decode cX9_unpin 0 = .ok (.aload_n 0, 1) := by decide +kernel
theorem dX9_unpin_1 : decode cX9_unpin 1 = .ok (.getfield 28, 3) := by decide +kernel
theorem dX9_unpin_4 : decode cX9_unpin 4 = .ok (.aload_n 0, 1) := by decide +kernel
theorem dX9_unpin_5 : decode cX9_unpin 5 = .ok (.iload_n 1, 1) := by decide +kernel
theorem dX9_unpin_6 : decode cX9_unpin 6 = .ok (.iload_n 2, 1) := by decide +kernel
theorem dX9_unpin_7 : decode cX9_unpin 7 = .ok (.invokevirtual 144, 3) := by decide +kernel
theorem dX9_unpin_10 : decode cX9_unpin 10 = .ok (.invokevirtual 148, 3) := by decide +kernel
theorem dX9_unpin_13 : decode cX9_unpin 13 = .ok (.istore_n 3, 1) := by decide +kernel
theorem dX9_unpin_14 : decode cX9_unpin 14 = .ok (.iload_n 3, 1) := by decide +kernel
theorem dX9_unpin_15 : decode cX9_unpin 15 = .ok (.ifCond .lt 18, 3) := by decide +kernel
theorem dX9_unpin_18 : decode cX9_unpin 18 = .ok (.aload_n 0, 1) := by decide +kernel
theorem dX9_unpin_19 : decode cX9_unpin 19 = .ok (.getfield 28, 3) := by decide +kernel
theorem dX9_unpin_22 : decode cX9_unpin 22 = .ok (.getfield 118, 3) := by decide +kernel
theorem dX9_unpin_25 : decode cX9_unpin 25 = .ok (.iload_n 3, 1) := by decide +kernel
theorem dX9_unpin_26 : decode cX9_unpin 26 = .ok (.aaload, 1) := by decide +kernel
theorem dX9_unpin_27 : decode cX9_unpin 27 = .ok (.getfield 205, 3) := by decide +kernel
theorem dX9_unpin_30 : decode cX9_unpin 30 = .ok (.ifCond .ne 13, 3) := by decide +kernel
theorem dX9_unpin_33 : decode cX9_unpin 33 = .ok (.new 200, 3) := by decide +kernel
theorem dX9_unpin_36 : decode cX9_unpin 36 = .ok (.dup, 1) := by decide +kernel
theorem dX9_unpin_37 : decode cX9_unpin 37 = .ok (.ldc 208, 2) := by decide +kernel
theorem dX9_unpin_39 : decode cX9_unpin 39 = .ok (.invokespecial 204, 3) := by decide +kernel
theorem dX9_unpin_42 : decode cX9_unpin 42 = .ok (.athrow, 1) := by decide +kernel
theorem dX9_unpin_43 : decode cX9_unpin 43 = .ok (.aload_n 0, 1) := by decide +kernel
theorem dX9_unpin_44 : decode cX9_unpin 44 = .ok (.getfield 28, 3) := by decide +kernel
theorem dX9_unpin_47 : decode cX9_unpin 47 = .ok (.getfield 118, 3) := by decide +kernel
theorem dX9_unpin_50 : decode cX9_unpin 50 = .ok (.iload_n 3, 1) := by decide +kernel
theorem dX9_unpin_51 : decode cX9_unpin 51 = .ok (.aaload, 1) := by decide +kernel
theorem dX9_unpin_52 : decode cX9_unpin 52 = .ok (.dup, 1) := by decide +kernel
theorem dX9_unpin_53 : decode cX9_unpin 53 = .ok (.getfield 205, 3) := by decide +kernel
theorem dX9_unpin_56 : decode cX9_unpin 56 = .ok (.iconst 1, 1) := by decide +kernel
theorem dX9_unpin_57 : decode cX9_unpin 57 = .ok (.isub, 1) := by decide +kernel
theorem dX9_unpin_58 : decode cX9_unpin 58 = .ok (.putfield 205, 3) := by decide +kernel
theorem dX9_unpin_61 : decode cX9_unpin 61 = .ok (.aload_n 0, 1) := by decide +kernel
theorem dX9_unpin_62 : decode cX9_unpin 62 = .ok (.getfield 28, 3) := by decide +kernel
theorem dX9_unpin_65 : decode cX9_unpin 65 = .ok (.getfield 118, 3) := by decide +kernel
theorem dX9_unpin_68 : decode cX9_unpin 68 = .ok (.iload_n 3, 1) := by decide +kernel
theorem dX9_unpin_69 : decode cX9_unpin 69 = .ok (.aaload, 1) := by decide +kernel
theorem dX9_unpin_70 : decode cX9_unpin 70 = .ok (.getfield 205, 3) := by decide +kernel
theorem dX9_unpin_73 : decode cX9_unpin 73 = .ok (.ireturn, 1) := by decide +kernel
theorem dX9_frameOf_0 : decode cX9_frameOf 0 = .ok (.aload_n 0, 1) := by decide +kernel
theorem dX9_frameOf_1 : decode cX9_frameOf 1 = .ok (.getfield 28, 3) := by decide +kernel
theorem dX9_frameOf_4 : decode cX9_frameOf 4 = .ok (.aload_n 0, 1) := by decide +kernel
theorem dX9_frameOf_5 : decode cX9_frameOf 5 = .ok (.iload_n 1, 1) := by decide +kernel
theorem dX9_frameOf_6 : decode cX9_frameOf 6 = .ok (.iload_n 2, 1) := by decide +kernel
theorem dX9_frameOf_7 : decode cX9_frameOf 7 = .ok (.invokevirtual 144, 3) := by decide +kernel
theorem dX9_frameOf_10 : decode cX9_frameOf 10 = .ok (.invokevirtual 148, 3) := by decide +kernel
theorem dX9_frameOf_13 : decode cX9_frameOf 13 = .ok (.ireturn, 1) := by decide +kernel
theorem dX9_isDirty_0 : decode cX9_isDirty 0 = .ok (.aload_n 0, 1) := by decide +kernel
theorem dX9_isDirty_1 : decode cX9_isDirty 1 = .ok (.getfield 28, 3) := by decide +kernel
theorem dX9_isDirty_4 : decode cX9_isDirty 4 = .ok (.aload_n 0, 1) := by decide +kernel
theorem dX9_isDirty_5 : decode cX9_isDirty 5 = .ok (.iload_n 1, 1) := by decide +kernel
theorem dX9_isDirty_6 : decode cX9_isDirty 6 = .ok (.iload_n 2, 1) := by decide +kernel
theorem dX9_isDirty_7 : decode cX9_isDirty 7 = .ok (.invokevirtual 144, 3) := by decide +kernel
theorem dX9_isDirty_10 : decode cX9_isDirty 10 = .ok (.invokevirtual 148, 3) := by decide +kernel
theorem dX9_isDirty_13 : decode cX9_isDirty 13 = .ok (.istore_n 3, 1) := by decide +kernel
theorem dX9_isDirty_14 : decode cX9_isDirty 14 = .ok (.iload_n 3, 1) := by decide +kernel
theorem dX9_isDirty_15 : decode cX9_isDirty 15 = .ok (.ifCond .lt 22, 3) := by decide +kernel
theorem dX9_isDirty_18 : decode cX9_isDirty 18 = .ok (.aload_n 0, 1) := by decide +kernel
theorem dX9_isDirty_19 : decode cX9_isDirty 19 = .ok (.getfield 28, 3) := by decide +kernel
theorem dX9_isDirty_22 : decode cX9_isDirty 22 = .ok (.getfield 118, 3) := by decide +kernel
theorem dX9_isDirty_25 : decode cX9_isDirty 25 = .ok (.iload_n 3, 1) := by decide +kernel
theorem dX9_isDirty_26 : decode cX9_isDirty 26 = .ok (.aaload, 1) := by decide +kernel
theorem dX9_isDirty_27 : decode cX9_isDirty 27 = .ok (.getfield 210, 3) := by decide +kernel
theorem dX9_isDirty_30 : decode cX9_isDirty 30 = .ok (.ifCond .eq 7, 3) := by decide +kernel
theorem dX9_isDirty_33 : decode cX9_isDirty 33 = .ok (.iconst 1, 1) := by decide +kernel
theorem dX9_isDirty_34 : decode cX9_isDirty 34 = .ok (.goto 4, 3) := by decide +kernel
theorem dX9_isDirty_37 : decode cX9_isDirty 37 = .ok (.iconst 0, 1) := by decide +kernel
theorem dX9_isDirty_38 : decode cX9_isDirty 38 = .ok (.ireturn, 1) := by decide +kernel
theorem dX9_onPlace_0 : decode cX9_onPlace 0 = .ok (.aload_n 0, 1) := by decide +kernel
theorem dX9_onPlace_1 : decode cX9_onPlace 1 = .ok (.aload_n 0, 1) := by decide +kernel
theorem dX9_onPlace_2 : decode cX9_onPlace 2 = .ok (.iload_n 1, 1) := by decide +kernel
theorem dX9_onPlace_3 : decode cX9_onPlace 3 = .ok (.iload_n 2, 1) := by decide +kernel
theorem dX9_onPlace_4 : decode cX9_onPlace 4 = .ok (.invokevirtual 144, 3) := by decide +kernel
theorem dX9_onPlace_7 : decode cX9_onPlace 7 = .ok (.invokevirtual 213, 3) := by decide +kernel
theorem dX9_onPlace_10 : decode cX9_onPlace 10 = .ok (.ireturn, 1) := by decide +kernel
theorem dX9_begin_0 : decode cX9_begin 0 = .ok (.aload_n 0, 1) := by decide +kernel
theorem dX9_begin_1 : decode cX9_begin 1 = .ok (.invokevirtual 106, 3) := by decide +kernel
theorem dX9_begin_4 : decode cX9_begin 4 = .ok (.aload_n 0, 1) := by decide +kernel
theorem dX9_begin_5 : decode cX9_begin 5 = .ok (.getfield 42, 3) := by decide +kernel
theorem dX9_begin_8 : decode cX9_begin 8 = .ok (.getfield 216, 3) := by decide +kernel
theorem dX9_begin_11 : decode cX9_begin 11 = .ok (.ifCond .eq 13, 3) := by decide +kernel
theorem dX9_begin_14 : decode cX9_begin 14 = .ok (.new 219, 3) := by decide +kernel
theorem dX9_begin_17 : decode cX9_begin 17 = .ok (.dup, 1) := by decide +kernel
theorem dX9_begin_18 : decode cX9_begin 18 = .ok (.ldc 221, 2) := by decide +kernel
theorem dX9_begin_20 : decode cX9_begin 20 = .ok (.invokespecial 223, 3) := by decide +kernel
theorem dX9_begin_23 : decode cX9_begin 23 = .ok (.athrow, 1) := by decide +kernel
theorem dX9_begin_24 : decode cX9_begin 24 = .ok (.aload_n 0, 1) := by decide +kernel
theorem dX9_begin_25 : decode cX9_begin 25 = .ok (.getfield 42, 3) := by decide +kernel
theorem dX9_begin_28 : decode cX9_begin 28 = .ok (.iconst 1, 1) := by decide +kernel
theorem dX9_begin_29 : decode cX9_begin 29 = .ok (.putfield 216, 3) := by decide +kernel
theorem dX9_begin_32 : decode cX9_begin 32 = .ok (.aload_n 0, 1) := by decide +kernel
theorem dX9_begin_33 : decode cX9_begin 33 = .ok (.getfield 42, 3) := by decide +kernel
theorem dX9_begin_36 : decode cX9_begin 36 = .ok (.dup, 1) := by decide +kernel
theorem dX9_begin_37 : decode cX9_begin 37 = .ok (.getfield 224, 3) := by decide +kernel
theorem dX9_begin_40 : decode cX9_begin 40 = .ok (.iconst 1, 1) := by decide +kernel
theorem dX9_begin_41 : decode cX9_begin 41 = .ok (.iadd, 1) := by decide +kernel
theorem dX9_begin_42 : decode cX9_begin 42 = .ok (.putfield 224, 3) := by decide +kernel
theorem dX9_begin_45 : decode cX9_begin 45 = .ok (.aload_n 0, 1) := by decide +kernel
theorem dX9_begin_46 : decode cX9_begin 46 = .ok (.getfield 42, 3) := by decide +kernel
theorem dX9_begin_49 : decode cX9_begin 49 = .ok (.getfield 224, 3) := by decide +kernel
theorem dX9_begin_52 : decode cX9_begin 52 = .ok (.ireturn, 1) := by decide +kernel
theorem dX9_commit_0 : decode cX9_commit 0 = .ok (.aload_n 0, 1) := by decide +kernel
theorem dX9_commit_1 : decode cX9_commit 1 = .ok (.invokevirtual 106, 3) := by decide +kernel
theorem dX9_commit_4 : decode cX9_commit 4 = .ok (.aload_n 0, 1) := by decide +kernel
theorem dX9_commit_5 : decode cX9_commit 5 = .ok (.invokevirtual 227, 3) := by decide +kernel
theorem dX9_commit_8 : decode cX9_commit 8 = .ok (.aload_n 0, 1) := by decide +kernel
theorem dX9_commit_9 : decode cX9_commit 9 = .ok (.getfield 35, 3) := by decide +kernel
theorem dX9_commit_12 : decode cX9_commit 12 = .ok (.getfield 230, 3) := by decide +kernel
theorem dX9_commit_15 : decode cX9_commit 15 = .ok (.aload_n 0, 1) := by decide +kernel
theorem dX9_commit_16 : decode cX9_commit 16 = .ok (.invokevirtual 231, 3) := by decide +kernel
theorem dX9_commit_19 : decode cX9_commit 19 = .ok (.iadd, 1) := by decide +kernel
theorem dX9_commit_20 : decode cX9_commit 20 = .ok (.bipush 10, 2) := by decide +kernel
theorem dX9_commit_22 : decode cX9_commit 22 = .ok (.if_icmp .le 16, 3) := by decide +kernel
theorem dX9_commit_25 : decode cX9_commit 25 = .ok (.aload_n 0, 1) := by decide +kernel
theorem dX9_commit_26 : decode cX9_commit 26 = .ok (.iconst 0, 1) := by decide +kernel
theorem dX9_commit_27 : decode cX9_commit 27 = .ok (.sipush 128, 3) := by decide +kernel
theorem dX9_commit_30 : decode cX9_commit 30 = .ok (.invokevirtual 234, 3) := by decide +kernel
theorem dX9_commit_33 : decode cX9_commit 33 = .ok (.ifCond .ge 5, 3) := by decide +kernel
theorem dX9_commit_36 : decode cX9_commit 36 = .ok (.iconst (-1), 1) := by decide +kernel
theorem dX9_commit_37 : decode cX9_commit 37 = .ok (.ireturn, 1) := by decide +kernel
theorem dX9_commit_38 : decode cX9_commit 38 = .ok (.aload_n 0, 1) := by decide +kernel
theorem dX9_commit_39 : decode cX9_commit 39 = .ok (.invokevirtual 237, 3) := by decide +kernel
theorem dX9_commit_42 : decode cX9_commit 42 = .ok (.ifCond .ne 5, 3) := by decide +kernel
theorem dX9_commit_45 : decode cX9_commit 45 = .ok (.iconst (-1), 1) := by decide +kernel
theorem dX9_commit_46 : decode cX9_commit 46 = .ok (.ireturn, 1) := by decide +kernel
theorem dX9_commit_47 : decode cX9_commit 47 = .ok (.aload_n 0, 1) := by decide +kernel
theorem dX9_commit_48 : decode cX9_commit 48 = .ok (.getfield 66, 3) := by decide +kernel
theorem dX9_commit_51 : decode cX9_commit 51 = .ok (.aload_n 0, 1) := by decide +kernel
theorem dX9_commit_52 : decode cX9_commit 52 = .ok (.getfield 141, 3) := by decide +kernel
theorem dX9_commit_55 : decode cX9_commit 55 = .ok (.dup2, 1) := by decide +kernel
theorem dX9_commit_56 : decode cX9_commit 56 = .ok (.laload, 1) := by decide +kernel
theorem dX9_commit_57 : decode cX9_commit 57 = .ok (.lconst 1, 1) := by decide +kernel
theorem dX9_commit_58 : decode cX9_commit 58 = .ok (.ladd, 1) := by decide +kernel
theorem dX9_commit_59 : decode cX9_commit 59 = .ok (.lastore, 1) := by decide +kernel
theorem dX9_commit_60 : decode cX9_commit 60 = .ok (.iconst 0, 1) := by decide +kernel
theorem dX9_commit_61 : decode cX9_commit 61 = .ok (.istore_n 1, 1) := by decide +kernel
theorem dX9_commit_62 : decode cX9_commit 62 = .ok (.iload_n 1, 1) := by decide +kernel
theorem dX9_commit_63 : decode cX9_commit 63 = .ok (.aload_n 0, 1) := by decide +kernel
theorem dX9_commit_64 : decode cX9_commit 64 = .ok (.getfield 28, 3) := by decide +kernel
theorem dX9_commit_67 : decode cX9_commit 67 = .ok (.getfield 115, 3) := by decide +kernel
theorem dX9_commit_70 : decode cX9_commit 70 = .ok (.if_icmp .ge 46, 3) := by decide +kernel
theorem dX9_commit_73 : decode cX9_commit 73 = .ok (.aload_n 0, 1) := by decide +kernel
theorem dX9_commit_74 : decode cX9_commit 74 = .ok (.getfield 28, 3) := by decide +kernel
theorem dX9_commit_77 : decode cX9_commit 77 = .ok (.getfield 118, 3) := by decide +kernel
theorem dX9_commit_80 : decode cX9_commit 80 = .ok (.iload_n 1, 1) := by decide +kernel
theorem dX9_commit_81 : decode cX9_commit 81 = .ok (.aaload, 1) := by decide +kernel
theorem dX9_commit_82 : decode cX9_commit 82 = .ok (.astore_n 2, 1) := by decide +kernel
theorem dX9_commit_83 : decode cX9_commit 83 = .ok (.aload_n 2, 1) := by decide +kernel
theorem dX9_commit_84 : decode cX9_commit 84 = .ok (.getfield 240, 3) := by decide +kernel
theorem dX9_commit_87 : decode cX9_commit 87 = .ok (.ifCond .eq 23, 3) := by decide +kernel
theorem dX9_commit_90 : decode cX9_commit 90 = .ok (.aload_n 0, 1) := by decide +kernel
theorem dX9_commit_91 : decode cX9_commit 91 = .ok (.getfield 35, 3) := by decide +kernel
theorem dX9_commit_94 : decode cX9_commit 94 = .ok (.aload_n 2, 1) := by decide +kernel
theorem dX9_commit_95 : decode cX9_commit 95 = .ok (.getfield 243, 3) := by decide +kernel
theorem dX9_commit_98 : decode cX9_commit 98 = .ok (.aload_n 2, 1) := by decide +kernel
theorem dX9_commit_99 : decode cX9_commit 99 = .ok (.getfield 170, 3) := by decide +kernel
theorem dX9_commit_102 : decode cX9_commit 102 = .ok (.invokevirtual 246, 3) := by decide +kernel
theorem dX9_commit_105 : decode cX9_commit 105 = .ok (.aload_n 2, 1) := by decide +kernel
theorem dX9_commit_106 : decode cX9_commit 106 = .ok (.iconst 0, 1) := by decide +kernel
theorem dX9_commit_107 : decode cX9_commit 107 = .ok (.putfield 240, 3) := by decide +kernel
theorem dX9_commit_110 : decode cX9_commit 110 = .ok (.iinc 1 1, 3) := by decide +kernel
theorem dX9_commit_113 : decode cX9_commit 113 = .ok (.goto (-51), 3) := by decide +kernel
theorem dX9_commit_116 : decode cX9_commit 116 = .ok (.aload_n 0, 1) := by decide +kernel
theorem dX9_commit_117 : decode cX9_commit 117 = .ok (.getfield 42, 3) := by decide +kernel
theorem dX9_commit_120 : decode cX9_commit 120 = .ok (.invokevirtual 249, 3) := by decide +kernel
theorem dX9_commit_123 : decode cX9_commit 123 = .ok (.aload_n 0, 1) := by decide +kernel
theorem dX9_commit_124 : decode cX9_commit 124 = .ok (.getfield 35, 3) := by decide +kernel
theorem dX9_commit_127 : decode cX9_commit 127 = .ok (.getfield 230, 3) := by decide +kernel
theorem dX9_commit_130 : decode cX9_commit 130 = .ok (.ireturn, 1) := by decide +kernel
theorem dX9_abort_0 : decode cX9_abort 0 = .ok (.aload_n 0, 1) := by decide +kernel
theorem dX9_abort_1 : decode cX9_abort 1 = .ok (.invokevirtual 106, 3) := by decide +kernel
theorem dX9_abort_4 : decode cX9_abort 4 = .ok (.aload_n 0, 1) := by decide +kernel
theorem dX9_abort_5 : decode cX9_abort 5 = .ok (.invokevirtual 227, 3) := by decide +kernel
theorem dX9_abort_8 : decode cX9_abort 8 = .ok (.aload_n 0, 1) := by decide +kernel
theorem dX9_abort_9 : decode cX9_abort 9 = .ok (.getfield 42, 3) := by decide +kernel
theorem dX9_abort_12 : decode cX9_abort 12 = .ok (.getfield 252, 3) := by decide +kernel
theorem dX9_abort_15 : decode cX9_abort 15 = .ok (.istore_n 1, 1) := by decide +kernel
theorem dX9_abort_16 : decode cX9_abort 16 = .ok (.iconst 0, 1) := by decide +kernel
theorem dX9_abort_17 : decode cX9_abort 17 = .ok (.istore_n 2, 1) := by decide +kernel
theorem dX9_abort_18 : decode cX9_abort 18 = .ok (.iload_n 2, 1) := by decide +kernel
theorem dX9_abort_19 : decode cX9_abort 19 = .ok (.aload_n 0, 1) := by decide +kernel
theorem dX9_abort_20 : decode cX9_abort 20 = .ok (.getfield 28, 3) := by decide +kernel
theorem dX9_abort_23 : decode cX9_abort 23 = .ok (.getfield 115, 3) := by decide +kernel
theorem dX9_abort_26 : decode cX9_abort 26 = .ok (.if_icmp .ge 36, 3) := by decide +kernel
theorem dX9_abort_29 : decode cX9_abort 29 = .ok (.aload_n 0, 1) := by decide +kernel
theorem dX9_abort_30 : decode cX9_abort 30 = .ok (.getfield 28, 3) := by decide +kernel
theorem dX9_abort_33 : decode cX9_abort 33 = .ok (.getfield 118, 3) := by decide +kernel
theorem dX9_abort_36 : decode cX9_abort 36 = .ok (.iload_n 2, 1) := by decide +kernel
theorem dX9_abort_37 : decode cX9_abort 37 = .ok (.aaload, 1) := by decide +kernel
theorem dX9_abort_38 : decode cX9_abort 38 = .ok (.getfield 240, 3) := by decide +kernel
theorem dX9_abort_41 : decode cX9_abort 41 = .ok (.ifCond .eq 15, 3) := by decide +kernel
theorem dX9_abort_44 : decode cX9_abort 44 = .ok (.aload_n 0, 1) := by decide +kernel
theorem dX9_abort_45 : decode cX9_abort 45 = .ok (.getfield 28, 3) := by decide +kernel
theorem dX9_abort_48 : decode cX9_abort 48 = .ok (.getfield 118, 3) := by decide +kernel
theorem dX9_abort_51 : decode cX9_abort 51 = .ok (.iload_n 2, 1) := by decide +kernel
theorem dX9_abort_52 : decode cX9_abort 52 = .ok (.aaload, 1) := by decide +kernel
theorem dX9_abort_53 : decode cX9_abort 53 = .ok (.invokevirtual 255, 3) := by decide +kernel
theorem dX9_abort_56 : decode cX9_abort 56 = .ok (.iinc 2 1, 3) := by decide +kernel
theorem dX9_abort_59 : decode cX9_abort 59 = .ok (.goto (-41), 3) := by decide +kernel
theorem dX9_abort_62 : decode cX9_abort 62 = .ok (.aload_n 0, 1) := by decide +kernel
theorem dX9_abort_63 : decode cX9_abort 63 = .ok (.getfield 42, 3) := by decide +kernel
theorem dX9_abort_66 : decode cX9_abort 66 = .ok (.invokevirtual 249, 3) := by decide +kernel
theorem dX9_abort_69 : decode cX9_abort 69 = .ok (.iload_n 1, 1) := by decide +kernel
theorem dX9_abort_70 : decode cX9_abort 70 = .ok (.ireturn, 1) := by decide +kernel
theorem dX9_countWritten_0 : decode cX9_countWritten 0 = .ok (.aload_n 0, 1) := by decide +kernel
theorem dX9_countWritten_1 : decode cX9_countWritten 1 = .ok (.getfield 42, 3) := by decide +kernel
theorem dX9_countWritten_4 : decode cX9_countWritten 4 = .ok (.getfield 252, 3) := by decide +kernel
theorem dX9_countWritten_7 : decode cX9_countWritten 7 = .ok (.ireturn, 1) := by decide +kernel
theorem dX9_checkpoint_0 : decode cX9_checkpoint 0 = .ok (.aload_n 0, 1) := by decide +kernel
theorem dX9_checkpoint_1 : decode cX9_checkpoint 1 = .ok (.invokevirtual 106, 3) := by decide +kernel
theorem dX9_checkpoint_4 : decode cX9_checkpoint 4 = .ok (.aload_n 0, 1) := by decide +kernel
theorem dX9_checkpoint_5 : decode cX9_checkpoint 5 = .ok (.iconst 0, 1) := by decide +kernel
theorem dX9_checkpoint_6 : decode cX9_checkpoint 6 = .ok (.sipush 128, 3) := by decide +kernel
theorem dX9_checkpoint_9 : decode cX9_checkpoint 9 = .ok (.invokevirtual 234, 3) := by decide +kernel
theorem dX9_checkpoint_12 : decode cX9_checkpoint 12 = .ok (.ireturn, 1) := by decide +kernel
theorem dX9_sync_0 : decode cX9_sync 0 = .ok (.aload_n 0, 1) := by decide +kernel
theorem dX9_sync_1 : decode cX9_sync 1 = .ok (.iload_n 1, 1) := by decide +kernel
theorem dX9_sync_2 : decode cX9_sync 2 = .ok (.iconst 0, 1) := by decide +kernel
theorem dX9_sync_3 : decode cX9_sync 3 = .ok (.invokevirtual 144, 3) := by decide +kernel
theorem dX9_sync_6 : decode cX9_sync 6 = .ok (.istore_n 2, 1) := by decide +kernel
theorem dX9_sync_7 : decode cX9_sync 7 = .ok (.aload_n 0, 1) := by decide +kernel
theorem dX9_sync_8 : decode cX9_sync 8 = .ok (.invokevirtual 106, 3) := by decide +kernel
theorem dX9_sync_11 : decode cX9_sync 11 = .ok (.iload_n 2, 1) := by decide +kernel
theorem dX9_sync_12 : decode cX9_sync 12 = .ok (.bipush 16, 2) := by decide +kernel
theorem dX9_sync_14 : decode cX9_sync 14 = .ok (.iadd, 1) := by decide +kernel
theorem dX9_sync_15 : decode cX9_sync 15 = .ok (.istore_n 3, 1) := by decide +kernel
theorem dX9_sync_16 : decode cX9_sync 16 = .ok (.iload_n 3, 1) := by decide +kernel
theorem dX9_sync_17 : decode cX9_sync 17 = .ok (.iload_n 2, 1) := by decide +kernel
theorem dX9_sync_18 : decode cX9_sync 18 = .ok (.aload_n 0, 1) := by decide +kernel
theorem dX9_sync_19 : decode cX9_sync 19 = .ok (.getfield 11, 3) := by decide +kernel
theorem dX9_sync_22 : decode cX9_sync 22 = .ok (.iconst 0, 1) := by decide +kernel
theorem dX9_sync_23 : decode cX9_sync 23 = .ok (.aaload, 1) := by decide +kernel
theorem dX9_sync_24 : decode cX9_sync 24 = .ok (.getfield 258, 3) := by decide +kernel
theorem dX9_sync_27 : decode cX9_sync 27 = .ok (.invokestatic 261, 3) := by decide +kernel
theorem dX9_sync_30 : decode cX9_sync 30 = .ok (.invokestatic 266, 3) := by decide +kernel
theorem dX9_sync_33 : decode cX9_sync 33 = .ok (.istore 4, 2) := by decide +kernel
theorem dX9_sync_35 : decode cX9_sync 35 = .ok (.aload_n 0, 1) := by decide +kernel
theorem dX9_sync_36 : decode cX9_sync 36 = .ok (.iload 4, 2) := by decide +kernel
theorem dX9_sync_38 : decode cX9_sync 38 = .ok (.iload_n 3, 1) := by decide +kernel
theorem dX9_sync_39 : decode cX9_sync 39 = .ok (.invokevirtual 234, 3) := by decide +kernel
theorem dX9_sync_42 : decode cX9_sync 42 = .ok (.istore 5, 2) := by decide +kernel
theorem dX9_sync_44 : decode cX9_sync 44 = .ok (.iload 5, 2) := by decide +kernel
theorem dX9_sync_46 : decode cX9_sync 46 = .ok (.ifCond .ge 5, 3) := by decide +kernel
theorem dX9_sync_49 : decode cX9_sync 49 = .ok (.iconst (-1), 1) := by decide +kernel
theorem dX9_sync_50 : decode cX9_sync 50 = .ok (.ireturn, 1) := by decide +kernel
theorem dX9_sync_51 : decode cX9_sync 51 = .ok (.aload_n 0, 1) := by decide +kernel
theorem dX9_sync_52 : decode cX9_sync 52 = .ok (.iload_n 2, 1) := by decide +kernel
theorem dX9_sync_53 : decode cX9_sync 53 = .ok (.iload 4, 2) := by decide +kernel
theorem dX9_sync_55 : decode cX9_sync 55 = .ok (.invokevirtual 234, 3) := by decide +kernel
theorem dX9_sync_58 : decode cX9_sync 58 = .ok (.istore 6, 2) := by decide +kernel
theorem dX9_sync_60 : decode cX9_sync 60 = .ok (.iload 6, 2) := by decide +kernel
theorem dX9_sync_62 : decode cX9_sync 62 = .ok (.ifCond .ge 7, 3) := by decide +kernel
theorem dX9_sync_65 : decode cX9_sync 65 = .ok (.iconst (-1), 1) := by decide +kernel
theorem dX9_sync_66 : decode cX9_sync 66 = .ok (.goto 8, 3) := by decide +kernel
theorem dX9_sync_69 : decode cX9_sync 69 = .ok (.iload 5, 2) := by decide +kernel
theorem dX9_sync_71 : decode cX9_sync 71 = .ok (.iload 6, 2) := by decide +kernel
theorem dX9_sync_73 : decode cX9_sync 73 = .ok (.iadd, 1) := by decide +kernel
theorem dX9_sync_74 : decode cX9_sync 74 = .ok (.ireturn, 1) := by decide +kernel
theorem dX9_countLog_0 : decode cX9_countLog 0 = .ok (.aload_n 0, 1) := by decide +kernel
theorem dX9_countLog_1 : decode cX9_countLog 1 = .ok (.getfield 35, 3) := by decide +kernel
theorem dX9_countLog_4 : decode cX9_countLog 4 = .ok (.getfield 230, 3) := by decide +kernel
theorem dX9_countLog_7 : decode cX9_countLog 7 = .ok (.ireturn, 1) := by decide +kernel
theorem dX9_failAt_0 : decode cX9_failAt 0 = .ok (.iload_n 1, 1) := by decide +kernel
theorem dX9_failAt_1 : decode cX9_failAt 1 = .ok (.iconst 0, 1) := by decide +kernel
theorem dX9_failAt_2 : decode cX9_failAt 2 = .ok (.bipush 99, 2) := by decide +kernel
theorem dX9_failAt_4 : decode cX9_failAt 4 = .ok (.invokestatic 102, 3) := by decide +kernel
theorem dX9_failAt_7 : decode cX9_failAt 7 = .ok (.aload_n 0, 1) := by decide +kernel
theorem dX9_failAt_8 : decode cX9_failAt 8 = .ok (.invokevirtual 106, 3) := by decide +kernel
theorem dX9_failAt_11 : decode cX9_failAt 11 = .ok (.aload_n 0, 1) := by decide +kernel
theorem dX9_failAt_12 : decode cX9_failAt 12 = .ok (.getfield 269, 3) := by decide +kernel
theorem dX9_failAt_15 : decode cX9_failAt 15 = .ok (.istore_n 2, 1) := by decide +kernel
theorem dX9_failAt_16 : decode cX9_failAt 16 = .ok (.aload_n 0, 1) := by decide +kernel
theorem dX9_failAt_17 : decode cX9_failAt 17 = .ok (.iload_n 1, 1) := by decide +kernel
theorem dX9_failAt_18 : decode cX9_failAt 18 = .ok (.putfield 269, 3) := by decide +kernel
theorem dX9_failAt_21 : decode cX9_failAt 21 = .ok (.iload_n 2, 1) := by decide +kernel
theorem dX9_failAt_22 : decode cX9_failAt 22 = .ok (.ireturn, 1) := by decide +kernel
theorem dX9_fail_0 : decode cX9_fail 0 = .ok (.aload_n 0, 1) := by decide +kernel
theorem dX9_fail_1 : decode cX9_fail 1 = .ok (.invokevirtual 106, 3) := by decide +kernel
theorem dX9_fail_4 : decode cX9_fail 4 = .ok (.aload_n 0, 1) := by decide +kernel
theorem dX9_fail_5 : decode cX9_fail 5 = .ok (.getfield 28, 3) := by decide +kernel
theorem dX9_fail_8 : decode cX9_fail 8 = .ok (.iconst 1, 1) := by decide +kernel
theorem dX9_fail_9 : decode cX9_fail 9 = .ok (.invokevirtual 272, 3) := by decide +kernel
theorem dX9_fail_12 : decode cX9_fail 12 = .ok (.istore_n 1, 1) := by decide +kernel
theorem dX9_fail_13 : decode cX9_fail 13 = .ok (.aload_n 0, 1) := by decide +kernel
theorem dX9_fail_14 : decode cX9_fail 14 = .ok (.invokevirtual 276, 3) := by decide +kernel
theorem dX9_fail_17 : decode cX9_fail 17 = .ok (.iload_n 1, 1) := by decide +kernel
theorem dX9_fail_18 : decode cX9_fail 18 = .ok (.ireturn, 1) := by decide +kernel
theorem dX9_powerOn_0 : decode cX9_powerOn 0 = .ok (.aload_n 0, 1) := by decide +kernel
theorem dX9_powerOn_1 : decode cX9_powerOn 1 = .ok (.getfield 78, 3) := by decide +kernel
theorem dX9_powerOn_4 : decode cX9_powerOn 4 = .ok (.ifCond .eq 14, 3) := by decide +kernel
theorem dX9_powerOn_7 : decode cX9_powerOn 7 = .ok (.new 219, 3) := by decide +kernel
theorem dX9_powerOn_10 : decode cX9_powerOn 10 = .ok (.dup, 1) := by decide +kernel
theorem dX9_powerOn_11 : decode cX9_powerOn 11 = .ok (.ldc_w 279, 3) := by decide +kernel
theorem dX9_powerOn_14 : decode cX9_powerOn 14 = .ok (.invokespecial 223, 3) := by decide +kernel
theorem dX9_powerOn_17 : decode cX9_powerOn 17 = .ok (.athrow, 1) := by decide +kernel
theorem dX9_powerOn_18 : decode cX9_powerOn 18 = .ok (.aload_n 0, 1) := by decide +kernel
theorem dX9_powerOn_19 : decode cX9_powerOn 19 = .ok (.iconst 1, 1) := by decide +kernel
theorem dX9_powerOn_20 : decode cX9_powerOn 20 = .ok (.putfield 78, 3) := by decide +kernel
theorem dX9_powerOn_23 : decode cX9_powerOn 23 = .ok (.iconst 0, 1) := by decide +kernel
theorem dX9_powerOn_24 : decode cX9_powerOn 24 = .ok (.istore_n 1, 1) := by decide +kernel
theorem dX9_powerOn_25 : decode cX9_powerOn 25 = .ok (.iconst 0, 1) := by decide +kernel
theorem dX9_powerOn_26 : decode cX9_powerOn 26 = .ok (.istore_n 2, 1) := by decide +kernel
theorem dX9_powerOn_27 : decode cX9_powerOn 27 = .ok (.iload_n 2, 1) := by decide +kernel
theorem dX9_powerOn_28 : decode cX9_powerOn 28 = .ok (.sipush 128, 3) := by decide +kernel
theorem dX9_powerOn_31 : decode cX9_powerOn 31 = .ok (.if_icmp .ge 46, 3) := by decide +kernel
theorem dX9_powerOn_34 : decode cX9_powerOn 34 = .ok (.aload_n 0, 1) := by decide +kernel
theorem dX9_powerOn_35 : decode cX9_powerOn 35 = .ok (.getfield 35, 3) := by decide +kernel
theorem dX9_powerOn_38 : decode cX9_powerOn 38 = .ok (.getfield 281, 3) := by decide +kernel
theorem dX9_powerOn_41 : decode cX9_powerOn 41 = .ok (.iload_n 2, 1) := by decide +kernel
theorem dX9_powerOn_42 : decode cX9_powerOn 42 = .ok (.baload, 1) := by decide +kernel
theorem dX9_powerOn_43 : decode cX9_powerOn 43 = .ok (.ifCond .eq 28, 3) := by decide +kernel
theorem dX9_powerOn_46 : decode cX9_powerOn 46 = .ok (.aload_n 0, 1) := by decide +kernel
theorem dX9_powerOn_47 : decode cX9_powerOn 47 = .ok (.iload_n 2, 1) := by decide +kernel
theorem dX9_powerOn_48 : decode cX9_powerOn 48 = .ok (.aload_n 0, 1) := by decide +kernel
theorem dX9_powerOn_49 : decode cX9_powerOn 49 = .ok (.getfield 35, 3) := by decide +kernel
theorem dX9_powerOn_52 : decode cX9_powerOn 52 = .ok (.getfield 285, 3) := by decide +kernel
theorem dX9_powerOn_55 : decode cX9_powerOn 55 = .ok (.iload_n 2, 1) := by decide +kernel
theorem dX9_powerOn_56 : decode cX9_powerOn 56 = .ok (.iaload, 1) := by decide +kernel
theorem dX9_powerOn_57 : decode cX9_powerOn 57 = .ok (.invokevirtual 288, 3) := by decide +kernel
theorem dX9_powerOn_60 : decode cX9_powerOn 60 = .ok (.aload_n 0, 1) := by decide +kernel
theorem dX9_powerOn_61 : decode cX9_powerOn 61 = .ok (.getfield 35, 3) := by decide +kernel
theorem dX9_powerOn_64 : decode cX9_powerOn 64 = .ok (.iload_n 2, 1) := by decide +kernel
theorem dX9_powerOn_65 : decode cX9_powerOn 65 = .ok (.invokevirtual 291, 3) := by decide +kernel
theorem dX9_powerOn_68 : decode cX9_powerOn 68 = .ok (.iinc 1 1, 3) := by decide +kernel
theorem dX9_powerOn_71 : decode cX9_powerOn 71 = .ok (.iinc 2 1, 3) := by decide +kernel
theorem dX9_powerOn_74 : decode cX9_powerOn 74 = .ok (.goto (-47), 3) := by decide +kernel
theorem dX9_powerOn_77 : decode cX9_powerOn 77 = .ok (.iload_n 1, 1) := by decide +kernel
theorem dX9_powerOn_78 : decode cX9_powerOn 78 = .ok (.ireturn, 1) := by decide +kernel
theorem dX9_hasPower_0 : decode cX9_hasPower 0 = .ok (.aload_n 0, 1) := by decide +kernel
theorem dX9_hasPower_1 : decode cX9_hasPower 1 = .ok (.getfield 78, 3) := by decide +kernel
theorem dX9_hasPower_4 : decode cX9_hasPower 4 = .ok (.ireturn, 1) := by decide +kernel
theorem dX9_damage_0 : decode cX9_damage 0 = .ok (.aload_n 0, 1) := by decide +kernel
theorem dX9_damage_1 : decode cX9_damage 1 = .ok (.iload_n 1, 1) := by decide +kernel
theorem dX9_damage_2 : decode cX9_damage 2 = .ok (.iload_n 2, 1) := by decide +kernel
theorem dX9_damage_3 : decode cX9_damage 3 = .ok (.invokevirtual 144, 3) := by decide +kernel
theorem dX9_damage_6 : decode cX9_damage 6 = .ok (.istore 4, 2) := by decide +kernel
theorem dX9_damage_8 : decode cX9_damage 8 = .ok (.iload_n 3, 1) := by decide +kernel
theorem dX9_damage_9 : decode cX9_damage 9 = .ok (.iconst 0, 1) := by decide +kernel
theorem dX9_damage_10 : decode cX9_damage 10 = .ok (.sipush 9999, 3) := by decide +kernel
theorem dX9_damage_13 : decode cX9_damage 13 = .ok (.invokestatic 102, 3) := by decide +kernel
theorem dX9_damage_16 : decode cX9_damage 16 = .ok (.aload_n 0, 1) := by decide +kernel
theorem dX9_damage_17 : decode cX9_damage 17 = .ok (.iload 4, 2) := by decide +kernel
theorem dX9_damage_19 : decode cX9_damage 19 = .ok (.invokevirtual 213, 3) := by decide +kernel
theorem dX9_damage_22 : decode cX9_damage 22 = .ok (.istore 5, 2) := by decide +kernel
theorem dX9_damage_24 : decode cX9_damage 24 = .ok (.iload 5, 2) := by decide +kernel
theorem dX9_damage_26 : decode cX9_damage 26 = .ok (.iload_n 3, 1) := by decide +kernel
theorem dX9_damage_27 : decode cX9_damage 27 = .ok (.if_icmp .ne 14, 3) := by decide +kernel
theorem dX9_damage_30 : decode cX9_damage 30 = .ok (.new 219, 3) := by decide +kernel
theorem dX9_damage_33 : decode cX9_damage 33 = .ok (.dup, 1) := by decide +kernel
theorem dX9_damage_34 : decode cX9_damage 34 = .ok (.ldc_w 294, 3) := by decide +kernel
theorem dX9_damage_37 : decode cX9_damage 37 = .ok (.invokespecial 223, 3) := by decide +kernel
theorem dX9_damage_40 : decode cX9_damage 40 = .ok (.athrow, 1) := by decide +kernel
theorem dX9_damage_41 : decode cX9_damage 41 = .ok (.aload_n 0, 1) := by decide +kernel
theorem dX9_damage_42 : decode cX9_damage 42 = .ok (.getfield 11, 3) := by decide +kernel
theorem dX9_damage_45 : decode cX9_damage 45 = .ok (.iload 4, 2) := by decide +kernel
theorem dX9_damage_47 : decode cX9_damage 47 = .ok (.bipush 64, 2) := by decide +kernel
theorem dX9_damage_49 : decode cX9_damage 49 = .ok (.idiv, 1) := by decide +kernel
theorem dX9_damage_50 : decode cX9_damage 50 = .ok (.aaload, 1) := by decide +kernel
theorem dX9_damage_51 : decode cX9_damage 51 = .ok (.getfield 296, 3) := by decide +kernel
theorem dX9_damage_54 : decode cX9_damage 54 = .ok (.iload 4, 2) := by decide +kernel
theorem dX9_damage_56 : decode cX9_damage 56 = .ok (.bipush 64, 2) := by decide +kernel
theorem dX9_damage_58 : decode cX9_damage 58 = .ok (.irem, 1) := by decide +kernel
theorem dX9_damage_59 : decode cX9_damage 59 = .ok (.iload_n 3, 1) := by decide +kernel
theorem dX9_damage_60 : decode cX9_damage 60 = .ok (.iastore, 1) := by decide +kernel
theorem dX9_damage_61 : decode cX9_damage 61 = .ok (.iload 5, 2) := by decide +kernel
theorem dX9_damage_63 : decode cX9_damage 63 = .ok (.ireturn, 1) := by decide +kernel
theorem dX9_scrub_0 : decode cX9_scrub 0 = .ok (.aload_n 0, 1) := by decide +kernel
theorem dX9_scrub_1 : decode cX9_scrub 1 = .ok (.iload_n 1, 1) := by decide +kernel
theorem dX9_scrub_2 : decode cX9_scrub 2 = .ok (.invokevirtual 82, 3) := by decide +kernel
theorem dX9_scrub_5 : decode cX9_scrub 5 = .ok (.invokevirtual 297, 3) := by decide +kernel
theorem dX9_scrub_8 : decode cX9_scrub 8 = .ok (.ireturn, 1) := by decide +kernel
theorem dX9_keepImage_0 : decode cX9_keepImage 0 = .ok (.aload_n 0, 1) := by decide +kernel
theorem dX9_keepImage_1 : decode cX9_keepImage 1 = .ok (.iload_n 1, 1) := by decide +kernel
theorem dX9_keepImage_2 : decode cX9_keepImage 2 = .ok (.invokevirtual 82, 3) := by decide +kernel
theorem dX9_keepImage_5 : decode cX9_keepImage 5 = .ok (.astore_n 2, 1) := by decide +kernel
theorem dX9_keepImage_6 : decode cX9_keepImage 6 = .ok (.aload_n 0, 1) := by decide +kernel
theorem dX9_keepImage_7 : decode cX9_keepImage 7 = .ok (.getfield 300, 3) := by decide +kernel
theorem dX9_keepImage_10 : decode cX9_keepImage 10 = .ok (.iconst 4, 1) := by decide +kernel
theorem dX9_keepImage_11 : decode cX9_keepImage 11 = .ok (.if_icmp .lt 14, 3) := by decide +kernel
theorem dX9_keepImage_14 : decode cX9_keepImage 14 = .ok (.new 91, 3) := by decide +kernel
theorem dX9_keepImage_17 : decode cX9_keepImage 17 = .ok (.dup, 1) := by decide +kernel
theorem dX9_keepImage_18 : decode cX9_keepImage 18 = .ok (.ldc_w 303, 3) := by decide +kernel
theorem dX9_keepImage_21 : decode cX9_keepImage 21 = .ok (.invokespecial 95, 3) := by decide +kernel
theorem dX9_keepImage_24 : decode cX9_keepImage 24 = .ok (.athrow, 1) := by decide +kernel
theorem dX9_keepImage_25 : decode cX9_keepImage 25 = .ok (.aload_n 0, 1) := by decide +kernel
theorem dX9_keepImage_26 : decode cX9_keepImage 26 = .ok (.getfield 62, 3) := by decide +kernel
theorem dX9_keepImage_29 : decode cX9_keepImage 29 = .ok (.aload_n 0, 1) := by decide +kernel
theorem dX9_keepImage_30 : decode cX9_keepImage 30 = .ok (.getfield 300, 3) := by decide +kernel
theorem dX9_keepImage_33 : decode cX9_keepImage 33 = .ok (.new 60, 3) := by decide +kernel
theorem dX9_keepImage_36 : decode cX9_keepImage 36 = .ok (.dup, 1) := by decide +kernel
theorem dX9_keepImage_37 : decode cX9_keepImage 37 = .ok (.iload_n 1, 1) := by decide +kernel
theorem dX9_keepImage_38 : decode cX9_keepImage 38 = .ok (.aload_n 2, 1) := by decide +kernel
theorem dX9_keepImage_39 : decode cX9_keepImage 39 = .ok (.getfield 296, 3) := by decide +kernel
theorem dX9_keepImage_42 : decode cX9_keepImage 42 = .ok (.invokevirtual 305, 3) := by decide +kernel
theorem dX9_keepImage_45 : decode cX9_keepImage 45 = .ok (.checkcast 306, 3) := by decide +kernel
theorem dX9_keepImage_48 : decode cX9_keepImage 48 = .ok (.aload_n 2, 1) := by decide +kernel
theorem dX9_keepImage_49 : decode cX9_keepImage 49 = .ok (.getfield 310, 3) := by decide +kernel
theorem dX9_keepImage_52 : decode cX9_keepImage 52 = .ok (.invokevirtual 305, 3) := by decide +kernel
theorem dX9_keepImage_55 : decode cX9_keepImage 55 = .ok (.checkcast 306, 3) := by decide +kernel
theorem dX9_keepImage_58 : decode cX9_keepImage 58 = .ok (.invokespecial 313, 3) := by decide +kernel
theorem dX9_keepImage_61 : decode cX9_keepImage 61 = .ok (.aastore, 1) := by decide +kernel
theorem dX9_keepImage_62 : decode cX9_keepImage 62 = .ok (.aload_n 0, 1) := by decide +kernel
theorem dX9_keepImage_63 : decode cX9_keepImage 63 = .ok (.dup, 1) := by decide +kernel
theorem dX9_keepImage_64 : decode cX9_keepImage 64 = .ok (.getfield 300, 3) := by decide +kernel
theorem dX9_keepImage_67 : decode cX9_keepImage 67 = .ok (.iconst 1, 1) := by decide +kernel
theorem dX9_keepImage_68 : decode cX9_keepImage 68 = .ok (.iadd, 1) := by decide +kernel
theorem dX9_keepImage_69 : decode cX9_keepImage 69 = .ok (.putfield 300, 3) := by decide +kernel
theorem dX9_keepImage_72 : decode cX9_keepImage 72 = .ok (.aload_n 0, 1) := by decide +kernel
theorem dX9_keepImage_73 : decode cX9_keepImage 73 = .ok (.getfield 300, 3) := by decide +kernel
theorem dX9_keepImage_76 : decode cX9_keepImage 76 = .ok (.iconst 1, 1) := by decide +kernel
theorem dX9_keepImage_77 : decode cX9_keepImage 77 = .ok (.isub, 1) := by decide +kernel
theorem dX9_keepImage_78 : decode cX9_keepImage 78 = .ok (.ireturn, 1) := by decide +kernel
theorem dX9_layBack_0 : decode cX9_layBack 0 = .ok (.aload_n 0, 1) := by decide +kernel
theorem dX9_layBack_1 : decode cX9_layBack 1 = .ok (.iload_n 1, 1) := by decide +kernel
theorem dX9_layBack_2 : decode cX9_layBack 2 = .ok (.invokevirtual 316, 3) := by decide +kernel
theorem dX9_layBack_5 : decode cX9_layBack 5 = .ok (.astore_n 3, 1) := by decide +kernel
theorem dX9_layBack_6 : decode cX9_layBack 6 = .ok (.aload_n 0, 1) := by decide +kernel
theorem dX9_layBack_7 : decode cX9_layBack 7 = .ok (.iload_n 2, 1) := by decide +kernel
theorem dX9_layBack_8 : decode cX9_layBack 8 = .ok (.invokevirtual 82, 3) := by decide +kernel
theorem dX9_layBack_11 : decode cX9_layBack 11 = .ok (.astore 4, 2) := by decide +kernel
theorem dX9_layBack_13 : decode cX9_layBack 13 = .ok (.aload_n 3, 1) := by decide +kernel
theorem dX9_layBack_14 : decode cX9_layBack 14 = .ok (.getfield 320, 3) := by decide +kernel
theorem dX9_layBack_17 : decode cX9_layBack 17 = .ok (.iload_n 2, 1) := by decide +kernel
theorem dX9_layBack_18 : decode cX9_layBack 18 = .ok (.if_icmp .ne 13, 3) := by decide +kernel
theorem dX9_layBack_21 : decode cX9_layBack 21 = .ok (.aload_n 0, 1) := by decide +kernel
theorem dX9_layBack_22 : decode cX9_layBack 22 = .ok (.getfield 42, 3) := by decide +kernel
theorem dX9_layBack_25 : decode cX9_layBack 25 = .ok (.getfield 216, 3) := by decide +kernel
theorem dX9_layBack_28 : decode cX9_layBack 28 = .ok (.ifCond .eq 14, 3) := by decide +kernel
theorem dX9_layBack_31 : decode cX9_layBack 31 = .ok (.new 219, 3) := by decide +kernel
theorem dX9_layBack_34 : decode cX9_layBack 34 = .ok (.dup, 1) := by decide +kernel
theorem dX9_layBack_35 : decode cX9_layBack 35 = .ok (.ldc_w 323, 3) := by decide +kernel
theorem dX9_layBack_38 : decode cX9_layBack 38 = .ok (.invokespecial 223, 3) := by decide +kernel
theorem dX9_layBack_41 : decode cX9_layBack 41 = .ok (.athrow, 1) := by decide +kernel
theorem dX9_layBack_42 : decode cX9_layBack 42 = .ok (.iload_n 2, 1) := by decide +kernel
theorem dX9_layBack_43 : decode cX9_layBack 43 = .ok (.bipush 64, 2) := by decide +kernel
theorem dX9_layBack_45 : decode cX9_layBack 45 = .ok (.imul, 1) := by decide +kernel
theorem dX9_layBack_46 : decode cX9_layBack 46 = .ok (.istore 5, 2) := by decide +kernel
theorem dX9_layBack_48 : decode cX9_layBack 48 = .ok (.aload_n 0, 1) := by decide +kernel
theorem dX9_layBack_49 : decode cX9_layBack 49 = .ok (.getfield 28, 3) := by decide +kernel
theorem dX9_layBack_52 : decode cX9_layBack 52 = .ok (.iload 5, 2) := by decide +kernel
theorem dX9_layBack_54 : decode cX9_layBack 54 = .ok (.iload 5, 2) := by decide +kernel
theorem dX9_layBack_56 : decode cX9_layBack 56 = .ok (.bipush 64, 2) := by decide +kernel
theorem dX9_layBack_58 : decode cX9_layBack 58 = .ok (.iadd, 1) := by decide +kernel
theorem dX9_layBack_59 : decode cX9_layBack 59 = .ok (.invokevirtual 325, 3) := by decide +kernel
theorem dX9_layBack_62 : decode cX9_layBack 62 = .ok (.iload 5, 2) := by decide +kernel
theorem dX9_layBack_64 : decode cX9_layBack 64 = .ok (.istore 6, 2) := by decide +kernel
theorem dX9_layBack_66 : decode cX9_layBack 66 = .ok (.iload 6, 2) := by decide +kernel
theorem dX9_layBack_68 : decode cX9_layBack 68 = .ok (.iload 5, 2) := by decide +kernel
theorem dX9_layBack_70 : decode cX9_layBack 70 = .ok (.bipush 64, 2) := by decide +kernel
theorem dX9_layBack_72 : decode cX9_layBack 72 = .ok (.iadd, 1) := by decide +kernel
theorem dX9_layBack_73 : decode cX9_layBack 73 = .ok (.if_icmp .ge 18, 3) := by decide +kernel
theorem dX9_layBack_76 : decode cX9_layBack 76 = .ok (.aload_n 0, 1) := by decide +kernel
theorem dX9_layBack_77 : decode cX9_layBack 77 = .ok (.getfield 35, 3) := by decide +kernel
theorem dX9_layBack_80 : decode cX9_layBack 80 = .ok (.iload 6, 2) := by decide +kernel
theorem dX9_layBack_82 : decode cX9_layBack 82 = .ok (.invokevirtual 291, 3) := by decide +kernel
theorem dX9_layBack_85 : decode cX9_layBack 85 = .ok (.iinc 6 1, 3) := by decide +kernel
theorem dX9_layBack_88 : decode cX9_layBack 88 = .ok (.goto (-22), 3) := by decide +kernel
theorem dX9_layBack_91 : decode cX9_layBack 91 = .ok (.aload 4, 2) := by decide +kernel
theorem dX9_layBack_93 : decode cX9_layBack 93 = .ok (.aload_n 3, 1) := by decide +kernel
theorem dX9_layBack_94 : decode cX9_layBack 94 = .ok (.getfield 328, 3) := by decide +kernel
theorem dX9_layBack_97 : decode cX9_layBack 97 = .ok (.aload_n 3, 1) := by decide +kernel
theorem dX9_layBack_98 : decode cX9_layBack 98 = .ok (.getfield 329, 3) := by decide +kernel
theorem dX9_layBack_101 : decode cX9_layBack 101 = .ok (.invokevirtual 330, 3) := by decide +kernel
theorem dX9_layBack_104 : decode cX9_layBack 104 = .ok (.ireturn, 1) := by decide +kernel
theorem dX9_countPages_0 : decode cX9_countPages 0 = .ok (.aload_n 0, 1) := by decide +kernel
theorem dX9_countPages_1 : decode cX9_countPages 1 = .ok (.getfield 28, 3) := by decide +kernel
theorem dX9_countPages_4 : decode cX9_countPages 4 = .ok (.invokevirtual 334, 3) := by decide +kernel
theorem dX9_countPages_7 : decode cX9_countPages 7 = .ok (.ireturn, 1) := by decide +kernel
theorem dX9_countDirty_0 : decode cX9_countDirty 0 = .ok (.aload_n 0, 1) := by decide +kernel
theorem dX9_countDirty_1 : decode cX9_countDirty 1 = .ok (.getfield 28, 3) := by decide +kernel
theorem dX9_countDirty_4 : decode cX9_countDirty 4 = .ok (.iconst 1, 1) := by decide +kernel
theorem dX9_countDirty_5 : decode cX9_countDirty 5 = .ok (.invokevirtual 272, 3) := by decide +kernel
theorem dX9_countDirty_8 : decode cX9_countDirty 8 = .ok (.ireturn, 1) := by decide +kernel
theorem dX9_getArm_0 : decode cX9_getArm 0 = .ok (.aload_n 0, 1) := by decide +kernel
theorem dX9_getArm_1 : decode cX9_getArm 1 = .ok (.getfield 11, 3) := by decide +kernel
theorem dX9_getArm_4 : decode cX9_getArm 4 = .ok (.iconst 0, 1) := by decide +kernel
theorem dX9_getArm_5 : decode cX9_getArm 5 = .ok (.aaload, 1) := by decide +kernel
theorem dX9_getArm_6 : decode cX9_getArm 6 = .ok (.getfield 258, 3) := by decide +kernel
theorem dX9_getArm_9 : decode cX9_getArm 9 = .ok (.ireturn, 1) := by decide +kernel
theorem dX9_countHits_0 : decode cX9_countHits 0 = .ok (.aload_n 0, 1) := by decide +kernel
theorem dX9_countHits_1 : decode cX9_countHits 1 = .ok (.getfield 56, 3) := by decide +kernel
theorem dX9_countHits_4 : decode cX9_countHits 4 = .ok (.getfield 337, 3) := by decide +kernel
theorem dX9_countHits_7 : decode cX9_countHits 7 = .ok (.ireturn, 1) := by decide +kernel
theorem dX9_countMisses_0 : decode cX9_countMisses 0 = .ok (.aload_n 0, 1) := by decide +kernel
theorem dX9_countMisses_1 : decode cX9_countMisses 1 = .ok (.getfield 56, 3) := by decide +kernel
theorem dX9_countMisses_4 : decode cX9_countMisses 4 = .ok (.getfield 340, 3) := by decide +kernel
theorem dX9_countMisses_7 : decode cX9_countMisses 7 = .ok (.ireturn, 1) := by decide +kernel
theorem dX9_countWaits_0 : decode cX9_countWaits 0 = .ok (.aload_n 0, 1) := by decide +kernel
theorem dX9_countWaits_1 : decode cX9_countWaits 1 = .ok (.getfield 56, 3) := by decide +kernel
theorem dX9_countWaits_4 : decode cX9_countWaits 4 = .ok (.getfield 343, 3) := by decide +kernel
theorem dX9_countWaits_7 : decode cX9_countWaits 7 = .ok (.ireturn, 1) := by decide +kernel
theorem dX9_countAhead_0 : decode cX9_countAhead 0 = .ok (.aload_n 0, 1) := by decide +kernel
theorem dX9_countAhead_1 : decode cX9_countAhead 1 = .ok (.getfield 56, 3) := by decide +kernel
theorem dX9_countAhead_4 : decode cX9_countAhead 4 = .ok (.getfield 346, 3) := by decide +kernel
theorem dX9_countAhead_7 : decode cX9_countAhead 7 = .ok (.ireturn, 1) := by decide +kernel
theorem dX9_countUseful_0 : decode cX9_countUseful 0 = .ok (.aload_n 0, 1) := by decide +kernel
theorem dX9_countUseful_1 : decode cX9_countUseful 1 = .ok (.getfield 56, 3) := by decide +kernel
theorem dX9_countUseful_4 : decode cX9_countUseful 4 = .ok (.getfield 349, 3) := by decide +kernel
theorem dX9_countUseful_7 : decode cX9_countUseful 7 = .ok (.ireturn, 1) := by decide +kernel
theorem dX9_getWear_0 : decode cX9_getWear 0 = .ok (.iload_n 1, 1) := by decide +kernel
theorem dX9_getWear_1 : decode cX9_getWear 1 = .ok (.iconst 0, 1) := by decide +kernel
theorem dX9_getWear_2 : decode cX9_getWear 2 = .ok (.bipush 63, 2) := by decide +kernel
theorem dX9_getWear_4 : decode cX9_getWear 4 = .ok (.invokestatic 102, 3) := by decide +kernel
theorem dX9_getWear_7 : decode cX9_getWear 7 = .ok (.aload_n 0, 1) := by decide +kernel
theorem dX9_getWear_8 : decode cX9_getWear 8 = .ok (.getfield 11, 3) := by decide +kernel
theorem dX9_getWear_11 : decode cX9_getWear 11 = .ok (.iconst 1, 1) := by decide +kernel
theorem dX9_getWear_12 : decode cX9_getWear 12 = .ok (.aaload, 1) := by decide +kernel
theorem dX9_getWear_13 : decode cX9_getWear 13 = .ok (.getfield 352, 3) := by decide +kernel
theorem dX9_getWear_16 : decode cX9_getWear 16 = .ok (.iload_n 1, 1) := by decide +kernel
theorem dX9_getWear_17 : decode cX9_getWear 17 = .ok (.iaload, 1) := by decide +kernel
theorem dX9_getWear_18 : decode cX9_getWear 18 = .ok (.ireturn, 1) := by decide +kernel
theorem dX9_getBill_0 : decode cX9_getBill 0 = .ok (.iload_n 1, 1) := by decide +kernel
theorem dX9_getBill_1 : decode cX9_getBill 1 = .ok (.iconst 0, 1) := by decide +kernel
theorem dX9_getBill_2 : decode cX9_getBill 2 = .ok (.iconst 2, 1) := by decide +kernel
theorem dX9_getBill_3 : decode cX9_getBill 3 = .ok (.invokestatic 102, 3) := by decide +kernel
theorem dX9_getBill_6 : decode cX9_getBill 6 = .ok (.aload_n 0, 1) := by decide +kernel
theorem dX9_getBill_7 : decode cX9_getBill 7 = .ok (.getfield 66, 3) := by decide +kernel
theorem dX9_getBill_10 : decode cX9_getBill 10 = .ok (.iload_n 1, 1) := by decide +kernel
theorem dX9_getBill_11 : decode cX9_getBill 11 = .ok (.laload, 1) := by decide +kernel
theorem dX9_getBill_12 : decode cX9_getBill 12 = .ok (.lreturn, 1) := by decide +kernel
theorem dX9_missesBy_0 : decode cX9_missesBy 0 = .ok (.iload_n 1, 1) := by decide +kernel
theorem dX9_missesBy_1 : decode cX9_missesBy 1 = .ok (.bipush 98, 2) := by decide +kernel
theorem dX9_missesBy_3 : decode cX9_missesBy 3 = .ok (.if_icmp .eq 20, 3) := by decide +kernel
theorem dX9_missesBy_6 : decode cX9_missesBy 6 = .ok (.iload_n 1, 1) := by decide +kernel
theorem dX9_missesBy_7 : decode cX9_missesBy 7 = .ok (.invokestatic 129, 3) := by decide +kernel
theorem dX9_missesBy_10 : decode cX9_missesBy 10 = .ok (.ifCond .ne 13, 3) := by decide +kernel
theorem dX9_missesBy_13 : decode cX9_missesBy 13 = .ok (.new 133, 3) := by decide +kernel
theorem dX9_missesBy_16 : decode cX9_missesBy 16 = .ok (.dup, 1) := by decide +kernel
theorem dX9_missesBy_17 : decode cX9_missesBy 17 = .ok (.ldc 135, 2) := by decide +kernel
theorem dX9_missesBy_19 : decode cX9_missesBy 19 = .ok (.invokespecial 137, 3) := by decide +kernel
theorem dX9_missesBy_22 : decode cX9_missesBy 22 = .ok (.athrow, 1) := by decide +kernel
theorem dX9_missesBy_23 : decode cX9_missesBy 23 = .ok (.iload_n 2, 1) := by decide +kernel
theorem dX9_missesBy_24 : decode cX9_missesBy 24 = .ok (.iconst 1, 1) := by decide +kernel
theorem dX9_missesBy_25 : decode cX9_missesBy 25 = .ok (.bipush 16, 2) := by decide +kernel
theorem dX9_missesBy_27 : decode cX9_missesBy 27 = .ok (.invokestatic 102, 3) := by decide +kernel
theorem dX9_missesBy_30 : decode cX9_missesBy 30 = .ok (.aload_n 0, 1) := by decide +kernel
theorem dX9_missesBy_31 : decode cX9_missesBy 31 = .ok (.getfield 49, 3) := by decide +kernel
theorem dX9_missesBy_34 : decode cX9_missesBy 34 = .ok (.iload_n 1, 1) := by decide +kernel
theorem dX9_missesBy_35 : decode cX9_missesBy 35 = .ok (.iload_n 2, 1) := by decide +kernel
theorem dX9_missesBy_36 : decode cX9_missesBy 36 = .ok (.invokevirtual 355, 3) := by decide +kernel
theorem dX9_missesBy_39 : decode cX9_missesBy 39 = .ok (.ireturn, 1) := by decide +kernel
theorem dX9_framesFor_0 : decode cX9_framesFor 0 = .ok (.iload_n 1, 1) := by decide +kernel
theorem dX9_framesFor_1 : decode cX9_framesFor 1 = .ok (.iconst 0, 1) := by decide +kernel
theorem dX9_framesFor_2 : decode cX9_framesFor 2 = .ok (.bipush 100, 2) := by decide +kernel
theorem dX9_framesFor_4 : decode cX9_framesFor 4 = .ok (.invokestatic 102, 3) := by decide +kernel
theorem dX9_framesFor_7 : decode cX9_framesFor 7 = .ok (.iconst 1, 1) := by decide +kernel
theorem dX9_framesFor_8 : decode cX9_framesFor 8 = .ok (.istore_n 2, 1) := by decide +kernel
theorem dX9_framesFor_9 : decode cX9_framesFor 9 = .ok (.iload_n 2, 1) := by decide +kernel
theorem dX9_framesFor_10 : decode cX9_framesFor 10 = .ok (.bipush 16, 2) := by decide +kernel
theorem dX9_framesFor_12 : decode cX9_framesFor 12 = .ok (.if_icmp .gt 25, 3) := by decide +kernel
theorem dX9_framesFor_15 : decode cX9_framesFor 15 = .ok (.aload_n 0, 1) := by decide +kernel
theorem dX9_framesFor_16 : decode cX9_framesFor 16 = .ok (.getfield 49, 3) := by decide +kernel
theorem dX9_framesFor_19 : decode cX9_framesFor 19 = .ok (.bipush 98, 2) := by decide +kernel
theorem dX9_framesFor_21 : decode cX9_framesFor 21 = .ok (.iload_n 2, 1) := by decide +kernel
theorem dX9_framesFor_22 : decode cX9_framesFor 22 = .ok (.invokevirtual 355, 3) := by decide +kernel
theorem dX9_framesFor_25 : decode cX9_framesFor 25 = .ok (.iload_n 1, 1) := by decide +kernel
theorem dX9_framesFor_26 : decode cX9_framesFor 26 = .ok (.if_icmp .gt 5, 3) := by decide +kernel
theorem dX9_framesFor_29 : decode cX9_framesFor 29 = .ok (.iload_n 2, 1) := by decide +kernel
theorem dX9_framesFor_30 : decode cX9_framesFor 30 = .ok (.ireturn, 1) := by decide +kernel
theorem dX9_framesFor_31 : decode cX9_framesFor 31 = .ok (.iinc 2 1, 3) := by decide +kernel
theorem dX9_framesFor_34 : decode cX9_framesFor 34 = .ok (.goto (-25), 3) := by decide +kernel
theorem dX9_framesFor_37 : decode cX9_framesFor 37 = .ok (.bipush 17, 2) := by decide +kernel
theorem dX9_framesFor_39 : decode cX9_framesFor 39 = .ok (.ireturn, 1) := by decide +kernel
theorem dX9_getHitShare_0 : decode cX9_getHitShare 0 = .ok (.aload_n 0, 1) := by decide +kernel
theorem dX9_getHitShare_1 : decode cX9_getHitShare 1 = .ok (.invokevirtual 358, 3) := by decide +kernel
theorem dX9_getHitShare_4 : decode cX9_getHitShare 4 = .ok (.aload_n 0, 1) := by decide +kernel
theorem dX9_getHitShare_5 : decode cX9_getHitShare 5 = .ok (.invokevirtual 361, 3) := by decide +kernel
theorem dX9_getHitShare_8 : decode cX9_getHitShare 8 = .ok (.freturn, 1) := by decide +kernel
theorem dX9_getHitBits_0 : decode cX9_getHitBits 0 = .ok (.aload_n 0, 1) := by decide +kernel
theorem dX9_getHitBits_1 : decode cX9_getHitBits 1 = .ok (.invokevirtual 358, 3) := by decide +kernel
theorem dX9_getHitBits_4 : decode cX9_getHitBits 4 = .ok (.aload_n 0, 1) := by decide +kernel
theorem dX9_getHitBits_5 : decode cX9_getHitBits 5 = .ok (.invokevirtual 361, 3) := by decide +kernel
theorem dX9_getHitBits_8 : decode cX9_getHitBits 8 = .ok (.invokestatic 365, 3) := by decide +kernel
theorem dX9_getHitBits_11 : decode cX9_getHitBits 11 = .ok (.ireturn, 1) := by decide +kernel
theorem dX9_getMeanCost_0 : decode cX9_getMeanCost 0 = .ok (.aload_n 0, 1) := by decide +kernel
theorem dX9_getMeanCost_1 : decode cX9_getMeanCost 1 = .ok (.invokevirtual 358, 3) := by decide +kernel
theorem dX9_getMeanCost_4 : decode cX9_getMeanCost 4 = .ok (.lconst 0, 1) := by decide +kernel
theorem dX9_getMeanCost_5 : decode cX9_getMeanCost 5 = .ok (.lstore_n 1, 1) := by decide +kernel
theorem dX9_getMeanCost_6 : decode cX9_getMeanCost 6 = .ok (.iconst 0, 1) := by decide +kernel
theorem dX9_getMeanCost_7 : decode cX9_getMeanCost 7 = .ok (.istore_n 3, 1) := by decide +kernel
theorem dX9_getMeanCost_8 : decode cX9_getMeanCost 8 = .ok (.iload_n 3, 1) := by decide +kernel
theorem dX9_getMeanCost_9 : decode cX9_getMeanCost 9 = .ok (.iconst 3, 1) := by decide +kernel
theorem dX9_getMeanCost_10 : decode cX9_getMeanCost 10 = .ok (.if_icmp .ge 18, 3) := by decide +kernel
theorem dX9_getMeanCost_13 : decode cX9_getMeanCost 13 = .ok (.lload_n 1, 1) := by decide +kernel
theorem dX9_getMeanCost_14 : decode cX9_getMeanCost 14 = .ok (.aload_n 0, 1) := by decide +kernel
theorem dX9_getMeanCost_15 : decode cX9_getMeanCost 15 = .ok (.getfield 66, 3) := by decide +kernel
theorem dX9_getMeanCost_18 : decode cX9_getMeanCost 18 = .ok (.iload_n 3, 1) := by decide +kernel
theorem dX9_getMeanCost_19 : decode cX9_getMeanCost 19 = .ok (.laload, 1) := by decide +kernel
theorem dX9_getMeanCost_20 : decode cX9_getMeanCost 20 = .ok (.ladd, 1) := by decide +kernel
theorem dX9_getMeanCost_21 : decode cX9_getMeanCost 21 = .ok (.lstore_n 1, 1) := by decide +kernel
theorem dX9_getMeanCost_22 : decode cX9_getMeanCost 22 = .ok (.iinc 3 1, 3) := by decide +kernel
theorem dX9_getMeanCost_25 : decode cX9_getMeanCost 25 = .ok (.goto (-17), 3) := by decide +kernel
theorem dX9_getMeanCost_28 : decode cX9_getMeanCost 28 = .ok (.lload_n 1, 1) := by decide +kernel
theorem dX9_getMeanCost_29 : decode cX9_getMeanCost 29 = .ok (.l2d, 1) := by decide +kernel
theorem dX9_getMeanCost_30 : decode cX9_getMeanCost 30 = .ok (.aload_n 0, 1) := by decide +kernel
theorem dX9_getMeanCost_31 : decode cX9_getMeanCost 31 = .ok (.getfield 56, 3) := by decide +kernel
theorem dX9_getMeanCost_34 : decode cX9_getMeanCost 34 = .ok (.invokevirtual 369, 3) := by decide +kernel
theorem dX9_getMeanCost_37 : decode cX9_getMeanCost 37 = .ok (.i2d, 1) := by decide +kernel
theorem dX9_getMeanCost_38 : decode cX9_getMeanCost 38 = .ok (.ddiv, 1) := by decide +kernel
theorem dX9_getMeanCost_39 : decode cX9_getMeanCost 39 = .ok (.dreturn, 1) := by decide +kernel
theorem dX9_checksum_0 : decode cX9_checksum 0 = .ok (.ldc2_w 372, 3) := by decide +kernel
theorem dX9_checksum_3 : decode cX9_checksum 3 = .ok (.lstore_n 1, 1) := by decide +kernel
theorem dX9_checksum_4 : decode cX9_checksum 4 = .ok (.iconst 0, 1) := by decide +kernel
theorem dX9_checksum_5 : decode cX9_checksum 5 = .ok (.istore_n 3, 1) := by decide +kernel
theorem dX9_checksum_6 : decode cX9_checksum 6 = .ok (.iload_n 3, 1) := by decide +kernel
theorem dX9_checksum_7 : decode cX9_checksum 7 = .ok (.sipush 128, 3) := by decide +kernel
theorem dX9_checksum_10 : decode cX9_checksum 10 = .ok (.if_icmp .ge 22, 3) := by decide +kernel
theorem dX9_checksum_13 : decode cX9_checksum 13 = .ok (.ldc2_w 374, 3) := by decide +kernel
theorem dX9_checksum_16 : decode cX9_checksum 16 = .ok (.lload_n 1, 1) := by decide +kernel
theorem dX9_checksum_17 : decode cX9_checksum 17 = .ok (.lmul, 1) := by decide +kernel
theorem dX9_checksum_18 : decode cX9_checksum 18 = .ok (.aload_n 0, 1) := by decide +kernel
theorem dX9_checksum_19 : decode cX9_checksum 19 = .ok (.iload_n 3, 1) := by decide +kernel
theorem dX9_checksum_20 : decode cX9_checksum 20 = .ok (.invokevirtual 213, 3) := by decide +kernel
theorem dX9_checksum_23 : decode cX9_checksum 23 = .ok (.i2l, 1) := by decide +kernel
theorem dX9_checksum_24 : decode cX9_checksum 24 = .ok (.ladd, 1) := by decide +kernel
theorem dX9_checksum_25 : decode cX9_checksum 25 = .ok (.lstore_n 1, 1) := by decide +kernel
theorem dX9_checksum_26 : decode cX9_checksum 26 = .ok (.iinc 3 1, 3) := by decide +kernel
theorem dX9_checksum_29 : decode cX9_checksum 29 = .ok (.goto (-23), 3) := by decide +kernel
theorem dX9_checksum_32 : decode cX9_checksum 32 = .ok (.iconst 0, 1) := by decide +kernel
theorem dX9_checksum_33 : decode cX9_checksum 33 = .ok (.istore_n 3, 1) := by decide +kernel
theorem dX9_checksum_34 : decode cX9_checksum 34 = .ok (.iload_n 3, 1) := by decide +kernel
theorem dX9_checksum_35 : decode cX9_checksum 35 = .ok (.aload_n 0, 1) := by decide +kernel
theorem dX9_checksum_36 : decode cX9_checksum 36 = .ok (.getfield 28, 3) := by decide +kernel
theorem dX9_checksum_39 : decode cX9_checksum 39 = .ok (.getfield 115, 3) := by decide +kernel
theorem dX9_checksum_42 : decode cX9_checksum 42 = .ok (.if_icmp .ge 45, 3) := by decide +kernel
theorem dX9_checksum_45 : decode cX9_checksum 45 = .ok (.aload_n 0, 1) := by decide +kernel
theorem dX9_checksum_46 : decode cX9_checksum 46 = .ok (.getfield 28, 3) := by decide +kernel
theorem dX9_checksum_49 : decode cX9_checksum 49 = .ok (.getfield 118, 3) := by decide +kernel
theorem dX9_checksum_52 : decode cX9_checksum 52 = .ok (.iload_n 3, 1) := by decide +kernel
theorem dX9_checksum_53 : decode cX9_checksum 53 = .ok (.aaload, 1) := by decide +kernel
theorem dX9_checksum_54 : decode cX9_checksum 54 = .ok (.astore 4, 2) := by decide +kernel
theorem dX9_checksum_56 : decode cX9_checksum 56 = .ok (.ldc2_w 374, 3) := by decide +kernel
theorem dX9_checksum_59 : decode cX9_checksum 59 = .ok (.lload_n 1, 1) := by decide +kernel
theorem dX9_checksum_60 : decode cX9_checksum 60 = .ok (.lmul, 1) := by decide +kernel
theorem dX9_checksum_61 : decode cX9_checksum 61 = .ok (.aload 4, 2) := by decide +kernel
theorem dX9_checksum_63 : decode cX9_checksum 63 = .ok (.invokevirtual 376, 3) := by decide +kernel
theorem dX9_checksum_66 : decode cX9_checksum 66 = .ok (.ifCond .eq 7, 3) := by decide +kernel
theorem dX9_checksum_69 : decode cX9_checksum 69 = .ok (.iconst (-1), 1) := by decide +kernel
theorem dX9_checksum_70 : decode cX9_checksum 70 = .ok (.goto 8, 3) := by decide +kernel
theorem dX9_checksum_73 : decode cX9_checksum 73 = .ok (.aload 4, 2) := by decide +kernel
theorem dX9_checksum_75 : decode cX9_checksum 75 = .ok (.getfield 170, 3) := by decide +kernel
theorem dX9_checksum_78 : decode cX9_checksum 78 = .ok (.i2l, 1) := by decide +kernel
theorem dX9_checksum_79 : decode cX9_checksum 79 = .ok (.ladd, 1) := by decide +kernel
theorem dX9_checksum_80 : decode cX9_checksum 80 = .ok (.lstore_n 1, 1) := by decide +kernel
theorem dX9_checksum_81 : decode cX9_checksum 81 = .ok (.iinc 3 1, 3) := by decide +kernel
theorem dX9_checksum_84 : decode cX9_checksum 84 = .ok (.goto (-50), 3) := by decide +kernel
theorem dX9_checksum_87 : decode cX9_checksum 87 = .ok (.ldc2_w 374, 3) := by decide +kernel
theorem dX9_checksum_90 : decode cX9_checksum 90 = .ok (.lload_n 1, 1) := by decide +kernel
theorem dX9_checksum_91 : decode cX9_checksum 91 = .ok (.lmul, 1) := by decide +kernel
theorem dX9_checksum_92 : decode cX9_checksum 92 = .ok (.aload_n 0, 1) := by decide +kernel
theorem dX9_checksum_93 : decode cX9_checksum 93 = .ok (.getfield 56, 3) := by decide +kernel
theorem dX9_checksum_96 : decode cX9_checksum 96 = .ok (.getfield 337, 3) := by decide +kernel
theorem dX9_checksum_99 : decode cX9_checksum 99 = .ok (.i2l, 1) := by decide +kernel
theorem dX9_checksum_100 : decode cX9_checksum 100 = .ok (.ladd, 1) := by decide +kernel
theorem dX9_checksum_101 : decode cX9_checksum 101 = .ok (.lstore_n 1, 1) := by decide +kernel
theorem dX9_checksum_102 : decode cX9_checksum 102 = .ok (.ldc2_w 374, 3) := by decide +kernel
theorem dX9_checksum_105 : decode cX9_checksum 105 = .ok (.lload_n 1, 1) := by decide +kernel
theorem dX9_checksum_106 : decode cX9_checksum 106 = .ok (.lmul, 1) := by decide +kernel
theorem dX9_checksum_107 : decode cX9_checksum 107 = .ok (.aload_n 0, 1) := by decide +kernel
theorem dX9_checksum_108 : decode cX9_checksum 108 = .ok (.getfield 56, 3) := by decide +kernel
theorem dX9_checksum_111 : decode cX9_checksum 111 = .ok (.getfield 340, 3) := by decide +kernel
theorem dX9_checksum_114 : decode cX9_checksum 114 = .ok (.i2l, 1) := by decide +kernel
theorem dX9_checksum_115 : decode cX9_checksum 115 = .ok (.ladd, 1) := by decide +kernel
theorem dX9_checksum_116 : decode cX9_checksum 116 = .ok (.lstore_n 1, 1) := by decide +kernel
theorem dX9_checksum_117 : decode cX9_checksum 117 = .ok (.ldc2_w 374, 3) := by decide +kernel
theorem dX9_checksum_120 : decode cX9_checksum 120 = .ok (.lload_n 1, 1) := by decide +kernel
theorem dX9_checksum_121 : decode cX9_checksum 121 = .ok (.lmul, 1) := by decide +kernel
theorem dX9_checksum_122 : decode cX9_checksum 122 = .ok (.aload_n 0, 1) := by decide +kernel
theorem dX9_checksum_123 : decode cX9_checksum 123 = .ok (.getfield 56, 3) := by decide +kernel
theorem dX9_checksum_126 : decode cX9_checksum 126 = .ok (.getfield 343, 3) := by decide +kernel
theorem dX9_checksum_129 : decode cX9_checksum 129 = .ok (.i2l, 1) := by decide +kernel
theorem dX9_checksum_130 : decode cX9_checksum 130 = .ok (.ladd, 1) := by decide +kernel
theorem dX9_checksum_131 : decode cX9_checksum 131 = .ok (.lstore_n 1, 1) := by decide +kernel
theorem dX9_checksum_132 : decode cX9_checksum 132 = .ok (.ldc2_w 374, 3) := by decide +kernel
theorem dX9_checksum_135 : decode cX9_checksum 135 = .ok (.lload_n 1, 1) := by decide +kernel
theorem dX9_checksum_136 : decode cX9_checksum 136 = .ok (.lmul, 1) := by decide +kernel
theorem dX9_checksum_137 : decode cX9_checksum 137 = .ok (.aload_n 0, 1) := by decide +kernel
theorem dX9_checksum_138 : decode cX9_checksum 138 = .ok (.getfield 11, 3) := by decide +kernel
theorem dX9_checksum_141 : decode cX9_checksum 141 = .ok (.iconst 0, 1) := by decide +kernel
theorem dX9_checksum_142 : decode cX9_checksum 142 = .ok (.aaload, 1) := by decide +kernel
theorem dX9_checksum_143 : decode cX9_checksum 143 = .ok (.getfield 258, 3) := by decide +kernel
theorem dX9_checksum_146 : decode cX9_checksum 146 = .ok (.i2l, 1) := by decide +kernel
theorem dX9_checksum_147 : decode cX9_checksum 147 = .ok (.ladd, 1) := by decide +kernel
theorem dX9_checksum_148 : decode cX9_checksum 148 = .ok (.lstore_n 1, 1) := by decide +kernel
theorem dX9_checksum_149 : decode cX9_checksum 149 = .ok (.ldc2_w 374, 3) := by decide +kernel
theorem dX9_checksum_152 : decode cX9_checksum 152 = .ok (.lload_n 1, 1) := by decide +kernel
theorem dX9_checksum_153 : decode cX9_checksum 153 = .ok (.lmul, 1) := by decide +kernel
theorem dX9_checksum_154 : decode cX9_checksum 154 = .ok (.aload_n 0, 1) := by decide +kernel
theorem dX9_checksum_155 : decode cX9_checksum 155 = .ok (.getfield 35, 3) := by decide +kernel
theorem dX9_checksum_158 : decode cX9_checksum 158 = .ok (.getfield 230, 3) := by decide +kernel
theorem dX9_checksum_161 : decode cX9_checksum 161 = .ok (.i2l, 1) := by decide +kernel
theorem dX9_checksum_162 : decode cX9_checksum 162 = .ok (.ladd, 1) := by decide +kernel
theorem dX9_checksum_163 : decode cX9_checksum 163 = .ok (.lstore_n 1, 1) := by decide +kernel
theorem dX9_checksum_164 : decode cX9_checksum 164 = .ok (.iconst 0, 1) := by decide +kernel
theorem dX9_checksum_165 : decode cX9_checksum 165 = .ok (.istore_n 3, 1) := by decide +kernel
theorem dX9_checksum_166 : decode cX9_checksum 166 = .ok (.iload_n 3, 1) := by decide +kernel
theorem dX9_checksum_167 : decode cX9_checksum 167 = .ok (.iconst 3, 1) := by decide +kernel
theorem dX9_checksum_168 : decode cX9_checksum 168 = .ok (.if_icmp .ge 22, 3) := by decide +kernel
theorem dX9_checksum_171 : decode cX9_checksum 171 = .ok (.ldc2_w 374, 3) := by decide +kernel
theorem dX9_checksum_174 : decode cX9_checksum 174 = .ok (.lload_n 1, 1) := by decide +kernel
theorem dX9_checksum_175 : decode cX9_checksum 175 = .ok (.lmul, 1) := by decide +kernel
theorem dX9_checksum_176 : decode cX9_checksum 176 = .ok (.aload_n 0, 1) := by decide +kernel
theorem dX9_checksum_177 : decode cX9_checksum 177 = .ok (.getfield 66, 3) := by decide +kernel
theorem dX9_checksum_180 : decode cX9_checksum 180 = .ok (.iload_n 3, 1) := by decide +kernel
theorem dX9_checksum_181 : decode cX9_checksum 181 = .ok (.laload, 1) := by decide +kernel
theorem dX9_checksum_182 : decode cX9_checksum 182 = .ok (.ladd, 1) := by decide +kernel
theorem dX9_checksum_183 : decode cX9_checksum 183 = .ok (.lstore_n 1, 1) := by decide +kernel
theorem dX9_checksum_184 : decode cX9_checksum 184 = .ok (.iinc 3 1, 3) := by decide +kernel
theorem dX9_checksum_187 : decode cX9_checksum 187 = .ok (.goto (-21), 3) := by decide +kernel
theorem dX9_checksum_190 : decode cX9_checksum 190 = .ok (.lload_n 1, 1) := by decide +kernel
theorem dX9_checksum_191 : decode cX9_checksum 191 = .ok (.lreturn, 1) := by decide +kernel
theorem dX9_isSound_0 : decode cX9_isSound 0 = .ok (.aload_n 0, 1) := by decide +kernel
theorem dX9_isSound_1 : decode cX9_isSound 1 = .ok (.getfield 28, 3) := by decide +kernel
theorem dX9_isSound_4 : decode cX9_isSound 4 = .ok (.invokevirtual 379, 3) := by decide +kernel
theorem dX9_isSound_7 : decode cX9_isSound 7 = .ok (.ifCond .eq 45, 3) := by decide +kernel
theorem dX9_isSound_10 : decode cX9_isSound 10 = .ok (.aload_n 0, 1) := by decide +kernel
theorem dX9_isSound_11 : decode cX9_isSound 11 = .ok (.invokevirtual 382, 3) := by decide +kernel
theorem dX9_isSound_14 : decode cX9_isSound 14 = .ok (.ifCond .eq 38, 3) := by decide +kernel
theorem dX9_isSound_17 : decode cX9_isSound 17 = .ok (.aload_n 0, 1) := by decide +kernel
theorem dX9_isSound_18 : decode cX9_isSound 18 = .ok (.invokevirtual 385, 3) := by decide +kernel
theorem dX9_isSound_21 : decode cX9_isSound 21 = .ok (.ifCond .eq 31, 3) := by decide +kernel
theorem dX9_isSound_24 : decode cX9_isSound 24 = .ok (.aload_n 0, 1) := by decide +kernel
theorem dX9_isSound_25 : decode cX9_isSound 25 = .ok (.getfield 28, 3) := by decide +kernel
theorem dX9_isSound_28 : decode cX9_isSound 28 = .ok (.invokevirtual 388, 3) := by decide +kernel
theorem dX9_isSound_31 : decode cX9_isSound 31 = .ok (.aload_n 0, 1) := by decide +kernel
theorem dX9_isSound_32 : decode cX9_isSound 32 = .ok (.getfield 42, 3) := by decide +kernel
theorem dX9_isSound_35 : decode cX9_isSound 35 = .ok (.getfield 252, 3) := by decide +kernel
theorem dX9_isSound_38 : decode cX9_isSound 38 = .ok (.if_icmp .ne 14, 3) := by decide +kernel
theorem dX9_isSound_41 : decode cX9_isSound 41 = .ok (.aload_n 0, 1) := by decide +kernel
theorem dX9_isSound_42 : decode cX9_isSound 42 = .ok (.invokevirtual 391, 3) := by decide +kernel
theorem dX9_isSound_45 : decode cX9_isSound 45 = .ok (.ifCond .eq 7, 3) := by decide +kernel
theorem dX9_isSound_48 : decode cX9_isSound 48 = .ok (.iconst 1, 1) := by decide +kernel
theorem dX9_isSound_49 : decode cX9_isSound 49 = .ok (.goto 4, 3) := by decide +kernel
theorem dX9_isSound_52 : decode cX9_isSound 52 = .ok (.iconst 0, 1) := by decide +kernel
theorem dX9_isSound_53 : decode cX9_isSound 53 = .ok (.ireturn, 1) := by decide +kernel
theorem dX9_checkRange_0 : decode cX9_checkRange 0 = .ok (.iload_n 0, 1) := by decide +kernel
theorem dX9_checkRange_1 : decode cX9_checkRange 1 = .ok (.iload_n 1, 1) := by decide +kernel
theorem dX9_checkRange_2 : decode cX9_checkRange 2 = .ok (.if_icmp .lt 8, 3) := by decide +kernel
theorem dX9_checkRange_5 : decode cX9_checkRange 5 = .ok (.iload_n 0, 1) := by decide +kernel
theorem dX9_checkRange_6 : decode cX9_checkRange 6 = .ok (.iload_n 2, 1) := by decide +kernel
theorem dX9_checkRange_7 : decode cX9_checkRange 7 = .ok (.if_icmp .le 14, 3) := by decide +kernel
theorem dX9_checkRange_10 : decode cX9_checkRange 10 = .ok (.new 133, 3) := by decide +kernel
theorem dX9_checkRange_13 : decode cX9_checkRange 13 = .ok (.dup, 1) := by decide +kernel
theorem dX9_checkRange_14 : decode cX9_checkRange 14 = .ok (.ldc_w 394, 3) := by decide +kernel
theorem dX9_checkRange_17 : decode cX9_checkRange 17 = .ok (.invokespecial 137, 3) := by decide +kernel
theorem dX9_checkRange_20 : decode cX9_checkRange 20 = .ok (.athrow, 1) := by decide +kernel
theorem dX9_checkRange_21 : decode cX9_checkRange 21 = .ok (.return_, 1) := by decide +kernel
theorem dX9_checkPower_0 : decode cX9_checkPower 0 = .ok (.aload_n 0, 1) := by decide +kernel
theorem dX9_checkPower_1 : decode cX9_checkPower 1 = .ok (.getfield 78, 3) := by decide +kernel
theorem dX9_checkPower_4 : decode cX9_checkPower 4 = .ok (.ifCond .ne 14, 3) := by decide +kernel
theorem dX9_checkPower_7 : decode cX9_checkPower 7 = .ok (.new 219, 3) := by decide +kernel
theorem dX9_checkPower_10 : decode cX9_checkPower 10 = .ok (.dup, 1) := by decide +kernel
theorem dX9_checkPower_11 : decode cX9_checkPower 11 = .ok (.ldc_w 396, 3) := by decide +kernel
theorem dX9_checkPower_14 : decode cX9_checkPower 14 = .ok (.invokespecial 223, 3) := by decide +kernel
theorem dX9_checkPower_17 : decode cX9_checkPower 17 = .ok (.athrow, 1) := by decide +kernel
theorem dX9_checkPower_18 : decode cX9_checkPower 18 = .ok (.return_, 1) := by decide +kernel
theorem dX9_checkWork_0 : decode cX9_checkWork 0 = .ok (.aload_n 0, 1) := by decide +kernel
theorem dX9_checkWork_1 : decode cX9_checkWork 1 = .ok (.getfield 42, 3) := by decide +kernel
theorem dX9_checkWork_4 : decode cX9_checkWork 4 = .ok (.getfield 216, 3) := by decide +kernel
theorem dX9_checkWork_7 : decode cX9_checkWork 7 = .ok (.ifCond .ne 14, 3) := by decide +kernel
theorem dX9_checkWork_10 : decode cX9_checkWork 10 = .ok (.new 219, 3) := by decide +kernel
theorem dX9_checkWork_13 : decode cX9_checkWork 13 = .ok (.dup, 1) := by decide +kernel
theorem dX9_checkWork_14 : decode cX9_checkWork 14 = .ok (.ldc_w 398, 3) := by decide +kernel
theorem dX9_checkWork_17 : decode cX9_checkWork 17 = .ok (.invokespecial 223, 3) := by decide +kernel
theorem dX9_checkWork_20 : decode cX9_checkWork 20 = .ok (.athrow, 1) := by decide +kernel
theorem dX9_checkWork_21 : decode cX9_checkWork 21 = .ok (.return_, 1) := by decide +kernel
theorem dX9_checkAccesses_0 : decode cX9_checkAccesses 0 = .ok (.aload_n 0, 1) := by decide +kernel
theorem dX9_checkAccesses_1 : decode cX9_checkAccesses 1 = .ok (.getfield 56, 3) := by decide +kernel
theorem dX9_checkAccesses_4 : decode cX9_checkAccesses 4 = .ok (.invokevirtual 369, 3) := by decide +kernel
theorem dX9_checkAccesses_7 : decode cX9_checkAccesses 7 = .ok (.ifCond .ne 14, 3) := by decide +kernel
theorem dX9_checkAccesses_10 : decode cX9_checkAccesses 10 = .ok (.new 400, 3) := by decide +kernel
theorem dX9_checkAccesses_13 : decode cX9_checkAccesses 13 = .ok (.dup, 1) := by decide +kernel
theorem dX9_checkAccesses_14 : decode cX9_checkAccesses 14 = .ok (.ldc_w 402, 3) := by decide +kernel
theorem dX9_checkAccesses_17 : decode cX9_checkAccesses 17 = .ok (.invokespecial 404, 3) := by decide +kernel
theorem dX9_checkAccesses_20 : decode cX9_checkAccesses 20 = .ok (.athrow, 1) := by decide +kernel
theorem dX9_checkAccesses_21 : decode cX9_checkAccesses 21 = .ok (.return_, 1) := by decide +kernel
theorem dX9_deviceOf_0 : decode cX9_deviceOf 0 = .ok (.iload_n 1, 1) := by decide +kernel
theorem dX9_deviceOf_1 : decode cX9_deviceOf 1 = .ok (.ifCond .lt 8, 3) := by decide +kernel
theorem dX9_deviceOf_4 : decode cX9_deviceOf 4 = .ok (.iload_n 1, 1) := by decide +kernel
theorem dX9_deviceOf_5 : decode cX9_deviceOf 5 = .ok (.iconst 2, 1) := by decide +kernel
theorem dX9_deviceOf_6 : decode cX9_deviceOf 6 = .ok (.if_icmp .lt 14, 3) := by decide +kernel
theorem dX9_deviceOf_9 : decode cX9_deviceOf 9 = .ok (.new 405, 3) := by decide +kernel
theorem dX9_deviceOf_12 : decode cX9_deviceOf 12 = .ok (.dup, 1) := by decide +kernel
theorem dX9_deviceOf_13 : decode cX9_deviceOf 13 = .ok (.ldc_w 407, 3) := by decide +kernel
theorem dX9_deviceOf_16 : decode cX9_deviceOf 16 = .ok (.invokespecial 409, 3) := by decide +kernel
theorem dX9_deviceOf_19 : decode cX9_deviceOf 19 = .ok (.athrow, 1) := by decide +kernel
theorem dX9_deviceOf_20 : decode cX9_deviceOf 20 = .ok (.aload_n 0, 1) := by decide +kernel
theorem dX9_deviceOf_21 : decode cX9_deviceOf 21 = .ok (.getfield 11, 3) := by decide +kernel
theorem dX9_deviceOf_24 : decode cX9_deviceOf 24 = .ok (.iload_n 1, 1) := by decide +kernel
theorem dX9_deviceOf_25 : decode cX9_deviceOf 25 = .ok (.aaload, 1) := by decide +kernel
theorem dX9_deviceOf_26 : decode cX9_deviceOf 26 = .ok (.areturn, 1) := by decide +kernel
theorem dX9_imageOf_0 : decode cX9_imageOf 0 = .ok (.iload_n 1, 1) := by decide +kernel
theorem dX9_imageOf_1 : decode cX9_imageOf 1 = .ok (.ifCond .lt 20, 3) := by decide +kernel
theorem dX9_imageOf_4 : decode cX9_imageOf 4 = .ok (.iload_n 1, 1) := by decide +kernel
theorem dX9_imageOf_5 : decode cX9_imageOf 5 = .ok (.aload_n 0, 1) := by decide +kernel
theorem dX9_imageOf_6 : decode cX9_imageOf 6 = .ok (.getfield 300, 3) := by decide +kernel
theorem dX9_imageOf_9 : decode cX9_imageOf 9 = .ok (.if_icmp .ge 12, 3) := by decide +kernel
theorem dX9_imageOf_12 : decode cX9_imageOf 12 = .ok (.aload_n 0, 1) := by decide +kernel
theorem dX9_imageOf_13 : decode cX9_imageOf 13 = .ok (.getfield 62, 3) := by decide +kernel
theorem dX9_imageOf_16 : decode cX9_imageOf 16 = .ok (.iload_n 1, 1) := by decide +kernel
theorem dX9_imageOf_17 : decode cX9_imageOf 17 = .ok (.aaload, 1) := by decide +kernel
theorem dX9_imageOf_18 : decode cX9_imageOf 18 = .ok (.ifnonnull 14, 3) := by decide +kernel
theorem dX9_imageOf_21 : decode cX9_imageOf 21 = .ok (.new 405, 3) := by decide +kernel
theorem dX9_imageOf_24 : decode cX9_imageOf 24 = .ok (.dup, 1) := by decide +kernel
theorem dX9_imageOf_25 : decode cX9_imageOf 25 = .ok (.ldc_w 410, 3) := by decide +kernel
theorem dX9_imageOf_28 : decode cX9_imageOf 28 = .ok (.invokespecial 409, 3) := by decide +kernel
theorem dX9_imageOf_31 : decode cX9_imageOf 31 = .ok (.athrow, 1) := by decide +kernel
theorem dX9_imageOf_32 : decode cX9_imageOf 32 = .ok (.aload_n 0, 1) := by decide +kernel
theorem dX9_imageOf_33 : decode cX9_imageOf 33 = .ok (.getfield 62, 3) := by decide +kernel
theorem dX9_imageOf_36 : decode cX9_imageOf 36 = .ok (.iload_n 1, 1) := by decide +kernel
theorem dX9_imageOf_37 : decode cX9_imageOf 37 = .ok (.aaload, 1) := by decide +kernel
theorem dX9_imageOf_38 : decode cX9_imageOf 38 = .ok (.areturn, 1) := by decide +kernel
theorem dX9_spotOf_0 : decode cX9_spotOf 0 = .ok (.iload_n 1, 1) := by decide +kernel
theorem dX9_spotOf_1 : decode cX9_spotOf 1 = .ok (.ifCond .lt 24, 3) := by decide +kernel
theorem dX9_spotOf_4 : decode cX9_spotOf 4 = .ok (.iload_n 1, 1) := by decide +kernel
theorem dX9_spotOf_5 : decode cX9_spotOf 5 = .ok (.aload_n 0, 1) := by decide +kernel
theorem dX9_spotOf_6 : decode cX9_spotOf 6 = .ok (.getfield 21, 3) := by decide +kernel
theorem dX9_spotOf_9 : decode cX9_spotOf 9 = .ok (.getfield 88, 3) := by decide +kernel
theorem dX9_spotOf_12 : decode cX9_spotOf 12 = .ok (.if_icmp .ge 13, 3) := by decide +kernel
theorem dX9_spotOf_15 : decode cX9_spotOf 15 = .ok (.iload_n 2, 1) := by decide +kernel
theorem dX9_spotOf_16 : decode cX9_spotOf 16 = .ok (.ifCond .lt 9, 3) := by decide +kernel
theorem dX9_spotOf_19 : decode cX9_spotOf 19 = .ok (.iload_n 2, 1) := by decide +kernel
theorem dX9_spotOf_20 : decode cX9_spotOf 20 = .ok (.bipush 16, 2) := by decide +kernel
theorem dX9_spotOf_22 : decode cX9_spotOf 22 = .ok (.if_icmp .lt 14, 3) := by decide +kernel
theorem dX9_spotOf_25 : decode cX9_spotOf 25 = .ok (.new 405, 3) := by decide +kernel
theorem dX9_spotOf_28 : decode cX9_spotOf 28 = .ok (.dup, 1) := by decide +kernel
theorem dX9_spotOf_29 : decode cX9_spotOf 29 = .ok (.ldc_w 412, 3) := by decide +kernel
theorem dX9_spotOf_32 : decode cX9_spotOf 32 = .ok (.invokespecial 409, 3) := by decide +kernel
theorem dX9_spotOf_35 : decode cX9_spotOf 35 = .ok (.athrow, 1) := by decide +kernel
theorem dX9_spotOf_36 : decode cX9_spotOf 36 = .ok (.aload_n 0, 1) := by decide +kernel
theorem dX9_spotOf_37 : decode cX9_spotOf 37 = .ok (.getfield 21, 3) := by decide +kernel
theorem dX9_spotOf_40 : decode cX9_spotOf 40 = .ok (.getfield 414, 3) := by decide +kernel
theorem dX9_spotOf_43 : decode cX9_spotOf 43 = .ok (.iload_n 1, 1) := by decide +kernel
theorem dX9_spotOf_44 : decode cX9_spotOf 44 = .ok (.iaload, 1) := by decide +kernel
theorem dX9_spotOf_45 : decode cX9_spotOf 45 = .ok (.iload_n 2, 1) := by decide +kernel
theorem dX9_spotOf_46 : decode cX9_spotOf 46 = .ok (.iadd, 1) := by decide +kernel
theorem dX9_spotOf_47 : decode cX9_spotOf 47 = .ok (.ireturn, 1) := by decide +kernel
theorem dX9_isPolicy_0 : decode cX9_isPolicy 0 = .ok (.iload_n 0, 1) := by decide +kernel
theorem dX9_isPolicy_1 : decode cX9_isPolicy 1 = .ok (.bipush 108, 2) := by decide +kernel
theorem dX9_isPolicy_3 : decode cX9_isPolicy 3 = .ok (.if_icmp .eq 15, 3) := by decide +kernel
theorem dX9_isPolicy_6 : decode cX9_isPolicy 6 = .ok (.iload_n 0, 1) := by decide +kernel
theorem dX9_isPolicy_7 : decode cX9_isPolicy 7 = .ok (.bipush 102, 2) := by decide +kernel
theorem dX9_isPolicy_9 : decode cX9_isPolicy 9 = .ok (.if_icmp .eq 9, 3) := by decide +kernel
theorem dX9_isPolicy_12 : decode cX9_isPolicy 12 = .ok (.iload_n 0, 1) := by decide +kernel
theorem dX9_isPolicy_13 : decode cX9_isPolicy 13 = .ok (.bipush 99, 2) := by decide +kernel
theorem dX9_isPolicy_15 : decode cX9_isPolicy 15 = .ok (.if_icmp .ne 7, 3) := by decide +kernel
theorem dX9_isPolicy_18 : decode cX9_isPolicy 18 = .ok (.iconst 1, 1) := by decide +kernel
theorem dX9_isPolicy_19 : decode cX9_isPolicy 19 = .ok (.goto 4, 3) := by decide +kernel
theorem dX9_isPolicy_22 : decode cX9_isPolicy 22 = .ok (.iconst 0, 1) := by decide +kernel
theorem dX9_isPolicy_23 : decode cX9_isPolicy 23 = .ok (.ireturn, 1) := by decide +kernel
theorem dX9_isOneTooMany_0 : decode cX9_isOneTooMany 0 = .ok (.aload_n 0, 1) := by decide +kernel
theorem dX9_isOneTooMany_1 : decode cX9_isOneTooMany 1 = .ok (.getfield 42, 3) := by decide +kernel
theorem dX9_isOneTooMany_4 : decode cX9_isOneTooMany 4 = .ok (.getfield 252, 3) := by decide +kernel
theorem dX9_isOneTooMany_7 : decode cX9_isOneTooMany 7 = .ok (.bipush 6, 2) := by decide +kernel
theorem dX9_isOneTooMany_9 : decode cX9_isOneTooMany 9 = .ok (.if_icmp .lt 26, 3) := by decide +kernel
theorem dX9_isOneTooMany_12 : decode cX9_isOneTooMany 12 = .ok (.iload_n 1, 1) := by decide +kernel
theorem dX9_isOneTooMany_13 : decode cX9_isOneTooMany 13 = .ok (.ifCond .lt 18, 3) := by decide +kernel
theorem dX9_isOneTooMany_16 : decode cX9_isOneTooMany 16 = .ok (.aload_n 0, 1) := by decide +kernel
theorem dX9_isOneTooMany_17 : decode cX9_isOneTooMany 17 = .ok (.getfield 28, 3) := by decide +kernel
theorem dX9_isOneTooMany_20 : decode cX9_isOneTooMany 20 = .ok (.getfield 118, 3) := by decide +kernel
theorem dX9_isOneTooMany_23 : decode cX9_isOneTooMany 23 = .ok (.iload_n 1, 1) := by decide +kernel
theorem dX9_isOneTooMany_24 : decode cX9_isOneTooMany 24 = .ok (.aaload, 1) := by decide +kernel
theorem dX9_isOneTooMany_25 : decode cX9_isOneTooMany 25 = .ok (.getfield 240, 3) := by decide +kernel
theorem dX9_isOneTooMany_28 : decode cX9_isOneTooMany 28 = .ok (.ifCond .ne 7, 3) := by decide +kernel
theorem dX9_isOneTooMany_31 : decode cX9_isOneTooMany 31 = .ok (.iconst 1, 1) := by decide +kernel
theorem dX9_isOneTooMany_32 : decode cX9_isOneTooMany 32 = .ok (.goto 4, 3) := by decide +kernel
theorem dX9_isOneTooMany_35 : decode cX9_isOneTooMany 35 = .ok (.iconst 0, 1) := by decide +kernel
theorem dX9_isOneTooMany_36 : decode cX9_isOneTooMany 36 = .ok (.ireturn, 1) := by decide +kernel
theorem dX9_valueOn_0 : decode cX9_valueOn 0 = .ok (.aload_n 0, 1) := by decide +kernel
theorem dX9_valueOn_1 : decode cX9_valueOn 1 = .ok (.getfield 11, 3) := by decide +kernel
theorem dX9_valueOn_4 : decode cX9_valueOn 4 = .ok (.iload_n 1, 1) := by decide +kernel
theorem dX9_valueOn_5 : decode cX9_valueOn 5 = .ok (.bipush 64, 2) := by decide +kernel
theorem dX9_valueOn_7 : decode cX9_valueOn 7 = .ok (.idiv, 1) := by decide +kernel
theorem dX9_valueOn_8 : decode cX9_valueOn 8 = .ok (.aaload, 1) := by decide +kernel
theorem dX9_valueOn_9 : decode cX9_valueOn 9 = .ok (.getfield 296, 3) := by decide +kernel
theorem dX9_valueOn_12 : decode cX9_valueOn 12 = .ok (.iload_n 1, 1) := by decide +kernel
theorem dX9_valueOn_13 : decode cX9_valueOn 13 = .ok (.bipush 64, 2) := by decide +kernel
theorem dX9_valueOn_15 : decode cX9_valueOn 15 = .ok (.irem, 1) := by decide +kernel
theorem dX9_valueOn_16 : decode cX9_valueOn 16 = .ok (.iaload, 1) := by decide +kernel
theorem dX9_valueOn_17 : decode cX9_valueOn 17 = .ok (.ireturn, 1) := by decide +kernel
theorem dX9_isDamaged_0 : decode cX9_isDamaged 0 = .ok (.aload_n 0, 1) := by decide +kernel
theorem dX9_isDamaged_1 : decode cX9_isDamaged 1 = .ok (.getfield 11, 3) := by decide +kernel
theorem dX9_isDamaged_4 : decode cX9_isDamaged 4 = .ok (.iload_n 1, 1) := by decide +kernel
theorem dX9_isDamaged_5 : decode cX9_isDamaged 5 = .ok (.bipush 64, 2) := by decide +kernel
theorem dX9_isDamaged_7 : decode cX9_isDamaged 7 = .ok (.idiv, 1) := by decide +kernel
theorem dX9_isDamaged_8 : decode cX9_isDamaged 8 = .ok (.aaload, 1) := by decide +kernel
theorem dX9_isDamaged_9 : decode cX9_isDamaged 9 = .ok (.iload_n 1, 1) := by decide +kernel
theorem dX9_isDamaged_10 : decode cX9_isDamaged 10 = .ok (.bipush 64, 2) := by decide +kernel
theorem dX9_isDamaged_12 : decode cX9_isDamaged 12 = .ok (.irem, 1) := by decide +kernel
theorem dX9_isDamaged_13 : decode cX9_isDamaged 13 = .ok (.invokevirtual 417, 3) := by decide +kernel
theorem dX9_isDamaged_16 : decode cX9_isDamaged 16 = .ok (.ireturn, 1) := by decide +kernel
theorem dX9_readPlace_0 : decode cX9_readPlace 0 = .ok (.aload_n 0, 1) := by decide +kernel
theorem dX9_readPlace_1 : decode cX9_readPlace 1 = .ok (.getfield 66, 3) := by decide +kernel
theorem dX9_readPlace_4 : decode cX9_readPlace 4 = .ok (.aload_n 0, 1) := by decide +kernel
theorem dX9_readPlace_5 : decode cX9_readPlace 5 = .ok (.getfield 141, 3) := by decide +kernel
theorem dX9_readPlace_8 : decode cX9_readPlace 8 = .ok (.dup2, 1) := by decide +kernel
theorem dX9_readPlace_9 : decode cX9_readPlace 9 = .ok (.laload, 1) := by decide +kernel
theorem dX9_readPlace_10 : decode cX9_readPlace 10 = .ok (.aload_n 0, 1) := by decide +kernel
theorem dX9_readPlace_11 : decode cX9_readPlace 11 = .ok (.getfield 11, 3) := by decide +kernel
theorem dX9_readPlace_14 : decode cX9_readPlace 14 = .ok (.iload_n 1, 1) := by decide +kernel
theorem dX9_readPlace_15 : decode cX9_readPlace 15 = .ok (.bipush 64, 2) := by decide +kernel
theorem dX9_readPlace_17 : decode cX9_readPlace 17 = .ok (.idiv, 1) := by decide +kernel
theorem dX9_readPlace_18 : decode cX9_readPlace 18 = .ok (.aaload, 1) := by decide +kernel
theorem dX9_readPlace_19 : decode cX9_readPlace 19 = .ok (.iload_n 1, 1) := by decide +kernel
theorem dX9_readPlace_20 : decode cX9_readPlace 20 = .ok (.bipush 64, 2) := by decide +kernel
theorem dX9_readPlace_22 : decode cX9_readPlace 22 = .ok (.irem, 1) := by decide +kernel
theorem dX9_readPlace_23 : decode cX9_readPlace 23 = .ok (.invokevirtual 418, 3) := by decide +kernel
theorem dX9_readPlace_26 : decode cX9_readPlace 26 = .ok (.i2l, 1) := by decide +kernel
theorem dX9_readPlace_27 : decode cX9_readPlace 27 = .ok (.ladd, 1) := by decide +kernel
theorem dX9_readPlace_28 : decode cX9_readPlace 28 = .ok (.lastore, 1) := by decide +kernel
theorem dX9_readPlace_29 : decode cX9_readPlace 29 = .ok (.aload_n 0, 1) := by decide +kernel
theorem dX9_readPlace_30 : decode cX9_readPlace 30 = .ok (.iload_n 1, 1) := by decide +kernel
theorem dX9_readPlace_31 : decode cX9_readPlace 31 = .ok (.invokevirtual 213, 3) := by decide +kernel
theorem dX9_readPlace_34 : decode cX9_readPlace 34 = .ok (.ireturn, 1) := by decide +kernel
theorem dX9_writePlace_0 : decode cX9_writePlace 0 = .ok (.aload_n 0, 1) := by decide +kernel
theorem dX9_writePlace_1 : decode cX9_writePlace 1 = .ok (.getfield 11, 3) := by decide +kernel
theorem dX9_writePlace_4 : decode cX9_writePlace 4 = .ok (.iload_n 1, 1) := by decide +kernel
theorem dX9_writePlace_5 : decode cX9_writePlace 5 = .ok (.bipush 64, 2) := by decide +kernel
theorem dX9_writePlace_7 : decode cX9_writePlace 7 = .ok (.idiv, 1) := by decide +kernel
theorem dX9_writePlace_8 : decode cX9_writePlace 8 = .ok (.aaload, 1) := by decide +kernel
theorem dX9_writePlace_9 : decode cX9_writePlace 9 = .ok (.astore_n 3, 1) := by decide +kernel
theorem dX9_writePlace_10 : decode cX9_writePlace 10 = .ok (.aload_n 0, 1) := by decide +kernel
theorem dX9_writePlace_11 : decode cX9_writePlace 11 = .ok (.getfield 66, 3) := by decide +kernel
theorem dX9_writePlace_14 : decode cX9_writePlace 14 = .ok (.aload_n 0, 1) := by decide +kernel
theorem dX9_writePlace_15 : decode cX9_writePlace 15 = .ok (.getfield 141, 3) := by decide +kernel
theorem dX9_writePlace_18 : decode cX9_writePlace 18 = .ok (.dup2, 1) := by decide +kernel
theorem dX9_writePlace_19 : decode cX9_writePlace 19 = .ok (.laload, 1) := by decide +kernel
theorem dX9_writePlace_20 : decode cX9_writePlace 20 = .ok (.aload_n 3, 1) := by decide +kernel
theorem dX9_writePlace_21 : decode cX9_writePlace 21 = .ok (.iload_n 1, 1) := by decide +kernel
theorem dX9_writePlace_22 : decode cX9_writePlace 22 = .ok (.bipush 64, 2) := by decide +kernel
theorem dX9_writePlace_24 : decode cX9_writePlace 24 = .ok (.irem, 1) := by decide +kernel
theorem dX9_writePlace_25 : decode cX9_writePlace 25 = .ok (.invokevirtual 418, 3) := by decide +kernel
theorem dX9_writePlace_28 : decode cX9_writePlace 28 = .ok (.i2l, 1) := by decide +kernel
theorem dX9_writePlace_29 : decode cX9_writePlace 29 = .ok (.ladd, 1) := by decide +kernel
theorem dX9_writePlace_30 : decode cX9_writePlace 30 = .ok (.lastore, 1) := by decide +kernel
theorem dX9_writePlace_31 : decode cX9_writePlace 31 = .ok (.aload_n 3, 1) := by decide +kernel
theorem dX9_writePlace_32 : decode cX9_writePlace 32 = .ok (.iload_n 1, 1) := by decide +kernel
theorem dX9_writePlace_33 : decode cX9_writePlace 33 = .ok (.bipush 64, 2) := by decide +kernel
theorem dX9_writePlace_35 : decode cX9_writePlace 35 = .ok (.irem, 1) := by decide +kernel
theorem dX9_writePlace_36 : decode cX9_writePlace 36 = .ok (.iload_n 2, 1) := by decide +kernel
theorem dX9_writePlace_37 : decode cX9_writePlace 37 = .ok (.invokevirtual 421, 3) := by decide +kernel
theorem dX9_writePlace_40 : decode cX9_writePlace 40 = .ok (.return_, 1) := by decide +kernel
theorem dX9_mayWrite_0 : decode cX9_mayWrite 0 = .ok (.aload_n 0, 1) := by decide +kernel
theorem dX9_mayWrite_1 : decode cX9_mayWrite 1 = .ok (.getfield 269, 3) := by decide +kernel
theorem dX9_mayWrite_4 : decode cX9_mayWrite 4 = .ok (.ifCond .ne 5, 3) := by decide +kernel
theorem dX9_mayWrite_7 : decode cX9_mayWrite 7 = .ok (.iconst 1, 1) := by decide +kernel
theorem dX9_mayWrite_8 : decode cX9_mayWrite 8 = .ok (.ireturn, 1) := by decide +kernel
theorem dX9_mayWrite_9 : decode cX9_mayWrite 9 = .ok (.aload_n 0, 1) := by decide +kernel
theorem dX9_mayWrite_10 : decode cX9_mayWrite 10 = .ok (.dup, 1) := by decide +kernel
theorem dX9_mayWrite_11 : decode cX9_mayWrite 11 = .ok (.getfield 269, 3) := by decide +kernel
theorem dX9_mayWrite_14 : decode cX9_mayWrite 14 = .ok (.iconst 1, 1) := by decide +kernel
theorem dX9_mayWrite_15 : decode cX9_mayWrite 15 = .ok (.isub, 1) := by decide +kernel
theorem dX9_mayWrite_16 : decode cX9_mayWrite 16 = .ok (.putfield 269, 3) := by decide +kernel
theorem dX9_mayWrite_19 : decode cX9_mayWrite 19 = .ok (.aload_n 0, 1) := by decide +kernel
theorem dX9_mayWrite_20 : decode cX9_mayWrite 20 = .ok (.getfield 269, 3) := by decide +kernel
theorem dX9_mayWrite_23 : decode cX9_mayWrite 23 = .ok (.ifCond .le 5, 3) := by decide +kernel
theorem dX9_mayWrite_26 : decode cX9_mayWrite 26 = .ok (.iconst 1, 1) := by decide +kernel
theorem dX9_mayWrite_27 : decode cX9_mayWrite 27 = .ok (.ireturn, 1) := by decide +kernel
theorem dX9_mayWrite_28 : decode cX9_mayWrite 28 = .ok (.aload_n 0, 1) := by decide +kernel
theorem dX9_mayWrite_29 : decode cX9_mayWrite 29 = .ok (.invokevirtual 276, 3) := by decide +kernel
theorem dX9_mayWrite_32 : decode cX9_mayWrite 32 = .ok (.iconst 0, 1) := by decide +kernel
theorem dX9_mayWrite_33 : decode cX9_mayWrite 33 = .ok (.ireturn, 1) := by decide +kernel
theorem dX9_losePower_0 : decode cX9_losePower 0 = .ok (.aload_n 0, 1) := by decide +kernel
theorem dX9_losePower_1 : decode cX9_losePower 1 = .ok (.iconst 0, 1) := by decide +kernel
theorem dX9_losePower_2 : decode cX9_losePower 2 = .ok (.putfield 78, 3) := by decide +kernel
theorem dX9_losePower_5 : decode cX9_losePower 5 = .ok (.iconst 0, 1) := by decide +kernel
theorem dX9_losePower_6 : decode cX9_losePower 6 = .ok (.istore_n 1, 1) := by decide +kernel
theorem dX9_losePower_7 : decode cX9_losePower 7 = .ok (.iload_n 1, 1) := by decide +kernel
theorem dX9_losePower_8 : decode cX9_losePower 8 = .ok (.bipush 16, 2) := by decide +kernel
theorem dX9_losePower_10 : decode cX9_losePower 10 = .ok (.if_icmp .ge 21, 3) := by decide +kernel
theorem dX9_losePower_13 : decode cX9_losePower 13 = .ok (.aload_n 0, 1) := by decide +kernel
theorem dX9_losePower_14 : decode cX9_losePower 14 = .ok (.getfield 28, 3) := by decide +kernel
theorem dX9_losePower_17 : decode cX9_losePower 17 = .ok (.getfield 118, 3) := by decide +kernel
theorem dX9_losePower_20 : decode cX9_losePower 20 = .ok (.iload_n 1, 1) := by decide +kernel
theorem dX9_losePower_21 : decode cX9_losePower 21 = .ok (.aaload, 1) := by decide +kernel
theorem dX9_losePower_22 : decode cX9_losePower 22 = .ok (.invokevirtual 424, 3) := by decide +kernel
theorem dX9_losePower_25 : decode cX9_losePower 25 = .ok (.iinc 1 1, 3) := by decide +kernel
theorem dX9_losePower_28 : decode cX9_losePower 28 = .ok (.goto (-21), 3) := by decide +kernel
theorem dX9_losePower_31 : decode cX9_losePower 31 = .ok (.aload_n 0, 1) := by decide +kernel
theorem dX9_losePower_32 : decode cX9_losePower 32 = .ok (.getfield 42, 3) := by decide +kernel
theorem dX9_losePower_35 : decode cX9_losePower 35 = .ok (.invokevirtual 249, 3) := by decide +kernel
theorem dX9_losePower_38 : decode cX9_losePower 38 = .ok (.return_, 1) := by decide +kernel
theorem dX9_flush_0 : decode cX9_flush 0 = .ok (.aload_n 0, 1) := by decide +kernel
theorem dX9_flush_1 : decode cX9_flush 1 = .ok (.invokevirtual 237, 3) := by decide +kernel
theorem dX9_flush_4 : decode cX9_flush 4 = .ok (.ifCond .ne 5, 3) := by decide +kernel
theorem dX9_flush_7 : decode cX9_flush 7 = .ok (.iconst 0, 1) := by decide +kernel
theorem dX9_flush_8 : decode cX9_flush 8 = .ok (.ireturn, 1) := by decide +kernel
theorem dX9_flush_9 : decode cX9_flush 9 = .ok (.aload_n 0, 1) := by decide +kernel
theorem dX9_flush_10 : decode cX9_flush 10 = .ok (.aload_n 1, 1) := by decide +kernel
theorem dX9_flush_11 : decode cX9_flush 11 = .ok (.getfield 243, 3) := by decide +kernel
theorem dX9_flush_14 : decode cX9_flush 14 = .ok (.aload_n 1, 1) := by decide +kernel
theorem dX9_flush_15 : decode cX9_flush 15 = .ok (.getfield 170, 3) := by decide +kernel
theorem dX9_flush_18 : decode cX9_flush 18 = .ok (.invokevirtual 288, 3) := by decide +kernel
theorem dX9_flush_21 : decode cX9_flush 21 = .ok (.aload_n 1, 1) := by decide +kernel
theorem dX9_flush_22 : decode cX9_flush 22 = .ok (.iconst 0, 1) := by decide +kernel
theorem dX9_flush_23 : decode cX9_flush 23 = .ok (.putfield 210, 3) := by decide +kernel
theorem dX9_flush_26 : decode cX9_flush 26 = .ok (.aload_n 0, 1) := by decide +kernel
theorem dX9_flush_27 : decode cX9_flush 27 = .ok (.getfield 35, 3) := by decide +kernel
theorem dX9_flush_30 : decode cX9_flush 30 = .ok (.aload_n 1, 1) := by decide +kernel
theorem dX9_flush_31 : decode cX9_flush 31 = .ok (.getfield 243, 3) := by decide +kernel
theorem dX9_flush_34 : decode cX9_flush 34 = .ok (.invokevirtual 291, 3) := by decide +kernel
theorem dX9_flush_37 : decode cX9_flush 37 = .ok (.iconst 1, 1) := by decide +kernel
theorem dX9_flush_38 : decode cX9_flush 38 = .ok (.ireturn, 1) := by decide +kernel
theorem dX9_evict_0 : decode cX9_evict 0 = .ok (.aload_n 1, 1) := by decide +kernel
theorem dX9_evict_1 : decode cX9_evict 1 = .ok (.getfield 210, 3) := by decide +kernel
theorem dX9_evict_4 : decode cX9_evict 4 = .ok (.ifCond .eq 13, 3) := by decide +kernel
theorem dX9_evict_7 : decode cX9_evict 7 = .ok (.aload_n 0, 1) := by decide +kernel
theorem dX9_evict_8 : decode cX9_evict 8 = .ok (.aload_n 1, 1) := by decide +kernel
theorem dX9_evict_9 : decode cX9_evict 9 = .ok (.invokevirtual 427, 3) := by decide +kernel
theorem dX9_evict_12 : decode cX9_evict 12 = .ok (.ifCond .ne 5, 3) := by decide +kernel
theorem dX9_evict_15 : decode cX9_evict 15 = .ok (.iconst 0, 1) := by decide +kernel
theorem dX9_evict_16 : decode cX9_evict 16 = .ok (.ireturn, 1) := by decide +kernel
theorem dX9_evict_17 : decode cX9_evict 17 = .ok (.aload_n 1, 1) := by decide +kernel
theorem dX9_evict_18 : decode cX9_evict 18 = .ok (.invokevirtual 424, 3) := by decide +kernel
theorem dX9_evict_21 : decode cX9_evict 21 = .ok (.iconst 1, 1) := by decide +kernel
theorem dX9_evict_22 : decode cX9_evict 22 = .ok (.ireturn, 1) := by decide +kernel
theorem dX9_takeFrame_0 : decode cX9_takeFrame 0 = .ok (.aload_n 0, 1) := by decide +kernel
theorem dX9_takeFrame_1 : decode cX9_takeFrame 1 = .ok (.getfield 28, 3) := by decide +kernel
theorem dX9_takeFrame_4 : decode cX9_takeFrame 4 = .ok (.invokevirtual 430, 3) := by decide +kernel
theorem dX9_takeFrame_7 : decode cX9_takeFrame 7 = .ok (.istore_n 1, 1) := by decide +kernel
theorem dX9_takeFrame_8 : decode cX9_takeFrame 8 = .ok (.iload_n 1, 1) := by decide +kernel
theorem dX9_takeFrame_9 : decode cX9_takeFrame 9 = .ok (.ifCond .lt 5, 3) := by decide +kernel
theorem dX9_takeFrame_12 : decode cX9_takeFrame 12 = .ok (.iload_n 1, 1) := by decide +kernel
theorem dX9_takeFrame_13 : decode cX9_takeFrame 13 = .ok (.ireturn, 1) := by decide +kernel
theorem dX9_takeFrame_14 : decode cX9_takeFrame 14 = .ok (.aload_n 0, 1) := by decide +kernel
theorem dX9_takeFrame_15 : decode cX9_takeFrame 15 = .ok (.getfield 28, 3) := by decide +kernel
theorem dX9_takeFrame_18 : decode cX9_takeFrame 18 = .ok (.aload_n 0, 1) := by decide +kernel
theorem dX9_takeFrame_19 : decode cX9_takeFrame 19 = .ok (.getfield 70, 3) := by decide +kernel
theorem dX9_takeFrame_22 : decode cX9_takeFrame 22 = .ok (.iconst 0, 1) := by decide +kernel
theorem dX9_takeFrame_23 : decode cX9_takeFrame 23 = .ok (.iconst (-1), 1) := by decide +kernel
theorem dX9_takeFrame_24 : decode cX9_takeFrame 24 = .ok (.invokevirtual 433, 3) := by decide +kernel
theorem dX9_takeFrame_27 : decode cX9_takeFrame 27 = .ok (.istore_n 2, 1) := by decide +kernel
theorem dX9_takeFrame_28 : decode cX9_takeFrame 28 = .ok (.iload_n 2, 1) := by decide +kernel
theorem dX9_takeFrame_29 : decode cX9_takeFrame 29 = .ok (.ifCond .lt 23, 3) := by decide +kernel
theorem dX9_takeFrame_32 : decode cX9_takeFrame 32 = .ok (.aload_n 0, 1) := by decide +kernel
theorem dX9_takeFrame_33 : decode cX9_takeFrame 33 = .ok (.aload_n 0, 1) := by decide +kernel
theorem dX9_takeFrame_34 : decode cX9_takeFrame 34 = .ok (.getfield 28, 3) := by decide +kernel
theorem dX9_takeFrame_37 : decode cX9_takeFrame 37 = .ok (.getfield 118, 3) := by decide +kernel
theorem dX9_takeFrame_40 : decode cX9_takeFrame 40 = .ok (.iload_n 2, 1) := by decide +kernel
theorem dX9_takeFrame_41 : decode cX9_takeFrame 41 = .ok (.aaload, 1) := by decide +kernel
theorem dX9_takeFrame_42 : decode cX9_takeFrame 42 = .ok (.invokevirtual 122, 3) := by decide +kernel
theorem dX9_takeFrame_45 : decode cX9_takeFrame 45 = .ok (.ifCond .eq 7, 3) := by decide +kernel
theorem dX9_takeFrame_48 : decode cX9_takeFrame 48 = .ok (.iload_n 2, 1) := by decide +kernel
theorem dX9_takeFrame_49 : decode cX9_takeFrame 49 = .ok (.goto 4, 3) := by decide +kernel
theorem dX9_takeFrame_52 : decode cX9_takeFrame 52 = .ok (.iconst (-1), 1) := by decide +kernel
theorem dX9_takeFrame_53 : decode cX9_takeFrame 53 = .ok (.ireturn, 1) := by decide +kernel
theorem dX9_bring_0 : decode cX9_bring 0 = .ok (.aload_n 0, 1) := by decide +kernel
theorem dX9_bring_1 : decode cX9_bring 1 = .ok (.getfield 28, 3) := by decide +kernel
theorem dX9_bring_4 : decode cX9_bring 4 = .ok (.iload_n 1, 1) := by decide +kernel
theorem dX9_bring_5 : decode cX9_bring 5 = .ok (.iload_n 2, 1) := by decide +kernel
theorem dX9_bring_6 : decode cX9_bring 6 = .ok (.aload_n 0, 1) := by decide +kernel
theorem dX9_bring_7 : decode cX9_bring 7 = .ok (.iload_n 2, 1) := by decide +kernel
theorem dX9_bring_8 : decode cX9_bring 8 = .ok (.invokevirtual 437, 3) := by decide +kernel
theorem dX9_bring_11 : decode cX9_bring 11 = .ok (.invokevirtual 191, 3) := by decide +kernel
theorem dX9_bring_14 : decode cX9_bring 14 = .ok (.return_, 1) := by decide +kernel
theorem dX9_readAhead_0 : decode cX9_readAhead 0 = .ok (.iconst 1, 1) := by decide +kernel
theorem dX9_readAhead_1 : decode cX9_readAhead 1 = .ok (.istore 4, 2) := by decide +kernel
theorem dX9_readAhead_3 : decode cX9_readAhead 3 = .ok (.iload 4, 2) := by decide +kernel
theorem dX9_readAhead_5 : decode cX9_readAhead 5 = .ok (.aload_n 0, 1) := by decide +kernel
theorem dX9_readAhead_6 : decode cX9_readAhead 6 = .ok (.getfield 138, 3) := by decide +kernel
theorem dX9_readAhead_9 : decode cX9_readAhead 9 = .ok (.if_icmp .gt 45, 3) := by decide +kernel
theorem dX9_readAhead_12 : decode cX9_readAhead 12 = .ok (.iload_n 2, 1) := by decide +kernel
theorem dX9_readAhead_13 : decode cX9_readAhead 13 = .ok (.iload 4, 2) := by decide +kernel
theorem dX9_readAhead_15 : decode cX9_readAhead 15 = .ok (.iadd, 1) := by decide +kernel
theorem dX9_readAhead_16 : decode cX9_readAhead 16 = .ok (.bipush 16, 2) := by decide +kernel
theorem dX9_readAhead_18 : decode cX9_readAhead 18 = .ok (.if_icmp .ge 36, 3) := by decide +kernel
theorem dX9_readAhead_21 : decode cX9_readAhead 21 = .ok (.aload_n 0, 1) := by decide +kernel
theorem dX9_readAhead_22 : decode cX9_readAhead 22 = .ok (.getfield 28, 3) := by decide +kernel
theorem dX9_readAhead_25 : decode cX9_readAhead 25 = .ok (.iload_n 1, 1) := by decide +kernel
theorem dX9_readAhead_26 : decode cX9_readAhead 26 = .ok (.iload 4, 2) := by decide +kernel
theorem dX9_readAhead_28 : decode cX9_readAhead 28 = .ok (.iadd, 1) := by decide +kernel
theorem dX9_readAhead_29 : decode cX9_readAhead 29 = .ok (.invokevirtual 148, 3) := by decide +kernel
theorem dX9_readAhead_32 : decode cX9_readAhead 32 = .ok (.ifCond .ge 16, 3) := by decide +kernel
theorem dX9_readAhead_35 : decode cX9_readAhead 35 = .ok (.aload_n 0, 1) := by decide +kernel
theorem dX9_readAhead_36 : decode cX9_readAhead 36 = .ok (.iload_n 1, 1) := by decide +kernel
theorem dX9_readAhead_37 : decode cX9_readAhead 37 = .ok (.iload 4, 2) := by decide +kernel
theorem dX9_readAhead_39 : decode cX9_readAhead 39 = .ok (.iadd, 1) := by decide +kernel
theorem dX9_readAhead_40 : decode cX9_readAhead 40 = .ok (.iload_n 3, 1) := by decide +kernel
theorem dX9_readAhead_41 : decode cX9_readAhead 41 = .ok (.invokevirtual 440, 3) := by decide +kernel
theorem dX9_readAhead_44 : decode cX9_readAhead 44 = .ok (.ifCond .ne 4, 3) := by decide +kernel
theorem dX9_readAhead_47 : decode cX9_readAhead 47 = .ok (.return_, 1) := by decide +kernel
theorem dX9_readAhead_48 : decode cX9_readAhead 48 = .ok (.iinc 4 1, 3) := by decide +kernel
theorem dX9_readAhead_51 : decode cX9_readAhead 51 = .ok (.goto (-48), 3) := by decide +kernel
theorem dX9_readAhead_54 : decode cX9_readAhead 54 = .ok (.return_, 1) := by decide +kernel
theorem dX9_bringAhead_0 : decode cX9_bringAhead 0 = .ok (.aload_n 0, 1) := by decide +kernel
theorem dX9_bringAhead_1 : decode cX9_bringAhead 1 = .ok (.iload_n 1, 1) := by decide +kernel
theorem dX9_bringAhead_2 : decode cX9_bringAhead 2 = .ok (.invokevirtual 155, 3) := by decide +kernel
theorem dX9_bringAhead_5 : decode cX9_bringAhead 5 = .ok (.ifCond .eq 5, 3) := by decide +kernel
theorem dX9_bringAhead_8 : decode cX9_bringAhead 8 = .ok (.iconst 0, 1) := by decide +kernel
theorem dX9_bringAhead_9 : decode cX9_bringAhead 9 = .ok (.ireturn, 1) := by decide +kernel
theorem dX9_bringAhead_10 : decode cX9_bringAhead 10 = .ok (.aload_n 0, 1) := by decide +kernel
theorem dX9_bringAhead_11 : decode cX9_bringAhead 11 = .ok (.getfield 28, 3) := by decide +kernel
theorem dX9_bringAhead_14 : decode cX9_bringAhead 14 = .ok (.invokevirtual 430, 3) := by decide +kernel
theorem dX9_bringAhead_17 : decode cX9_bringAhead 17 = .ok (.istore_n 3, 1) := by decide +kernel
theorem dX9_bringAhead_18 : decode cX9_bringAhead 18 = .ok (.iload_n 3, 1) := by decide +kernel
theorem dX9_bringAhead_19 : decode cX9_bringAhead 19 = .ok (.ifCond .ge 17, 3) := by decide +kernel
theorem dX9_bringAhead_22 : decode cX9_bringAhead 22 = .ok (.aload_n 0, 1) := by decide +kernel
theorem dX9_bringAhead_23 : decode cX9_bringAhead 23 = .ok (.getfield 28, 3) := by decide +kernel
theorem dX9_bringAhead_26 : decode cX9_bringAhead 26 = .ok (.aload_n 0, 1) := by decide +kernel
theorem dX9_bringAhead_27 : decode cX9_bringAhead 27 = .ok (.getfield 70, 3) := by decide +kernel
theorem dX9_bringAhead_30 : decode cX9_bringAhead 30 = .ok (.iconst 1, 1) := by decide +kernel
theorem dX9_bringAhead_31 : decode cX9_bringAhead 31 = .ok (.iload_n 2, 1) := by decide +kernel
theorem dX9_bringAhead_32 : decode cX9_bringAhead 32 = .ok (.invokevirtual 433, 3) := by decide +kernel
theorem dX9_bringAhead_35 : decode cX9_bringAhead 35 = .ok (.istore_n 3, 1) := by decide +kernel
theorem dX9_bringAhead_36 : decode cX9_bringAhead 36 = .ok (.iload_n 3, 1) := by decide +kernel
theorem dX9_bringAhead_37 : decode cX9_bringAhead 37 = .ok (.ifCond .ge 5, 3) := by decide +kernel
theorem dX9_bringAhead_40 : decode cX9_bringAhead 40 = .ok (.iconst 0, 1) := by decide +kernel
theorem dX9_bringAhead_41 : decode cX9_bringAhead 41 = .ok (.ireturn, 1) := by decide +kernel
theorem dX9_bringAhead_42 : decode cX9_bringAhead 42 = .ok (.aload_n 0, 1) := by decide +kernel
theorem dX9_bringAhead_43 : decode cX9_bringAhead 43 = .ok (.iload_n 3, 1) := by decide +kernel
theorem dX9_bringAhead_44 : decode cX9_bringAhead 44 = .ok (.iload_n 1, 1) := by decide +kernel
theorem dX9_bringAhead_45 : decode cX9_bringAhead 45 = .ok (.invokevirtual 179, 3) := by decide +kernel
theorem dX9_bringAhead_48 : decode cX9_bringAhead 48 = .ok (.aload_n 0, 1) := by decide +kernel
theorem dX9_bringAhead_49 : decode cX9_bringAhead 49 = .ok (.getfield 28, 3) := by decide +kernel
theorem dX9_bringAhead_52 : decode cX9_bringAhead 52 = .ok (.getfield 118, 3) := by decide +kernel
theorem dX9_bringAhead_55 : decode cX9_bringAhead 55 = .ok (.iload_n 3, 1) := by decide +kernel
theorem dX9_bringAhead_56 : decode cX9_bringAhead 56 = .ok (.aaload, 1) := by decide +kernel
theorem dX9_bringAhead_57 : decode cX9_bringAhead 57 = .ok (.iconst 1, 1) := by decide +kernel
theorem dX9_bringAhead_58 : decode cX9_bringAhead 58 = .ok (.putfield 444, 3) := by decide +kernel
theorem dX9_bringAhead_61 : decode cX9_bringAhead 61 = .ok (.aload_n 0, 1) := by decide +kernel
theorem dX9_bringAhead_62 : decode cX9_bringAhead 62 = .ok (.getfield 56, 3) := by decide +kernel
theorem dX9_bringAhead_65 : decode cX9_bringAhead 65 = .ok (.dup, 1) := by decide +kernel
theorem dX9_bringAhead_66 : decode cX9_bringAhead 66 = .ok (.getfield 346, 3) := by decide +kernel
theorem dX9_bringAhead_69 : decode cX9_bringAhead 69 = .ok (.iconst 1, 1) := by decide +kernel
theorem dX9_bringAhead_70 : decode cX9_bringAhead 70 = .ok (.iadd, 1) := by decide +kernel
theorem dX9_bringAhead_71 : decode cX9_bringAhead 71 = .ok (.putfield 346, 3) := by decide +kernel
theorem dX9_bringAhead_74 : decode cX9_bringAhead 74 = .ok (.iconst 1, 1) := by decide +kernel
theorem dX9_bringAhead_75 : decode cX9_bringAhead 75 = .ok (.ireturn, 1) := by decide +kernel
theorem dX9_countAccess_0 : decode cX9_countAccess 0 = .ok (.aload_n 0, 1) := by decide +kernel
theorem dX9_countAccess_1 : decode cX9_countAccess 1 = .ok (.getfield 49, 3) := by decide +kernel
theorem dX9_countAccess_4 : decode cX9_countAccess 4 = .ok (.iload_n 1, 1) := by decide +kernel
theorem dX9_countAccess_5 : decode cX9_countAccess 5 = .ok (.bipush 16, 2) := by decide +kernel
theorem dX9_countAccess_7 : decode cX9_countAccess 7 = .ok (.imul, 1) := by decide +kernel
theorem dX9_countAccess_8 : decode cX9_countAccess 8 = .ok (.iload_n 2, 1) := by decide +kernel
theorem dX9_countAccess_9 : decode cX9_countAccess 9 = .ok (.iadd, 1) := by decide +kernel
theorem dX9_countAccess_10 : decode cX9_countAccess 10 = .ok (.invokevirtual 446, 3) := by decide +kernel
theorem dX9_countAccess_13 : decode cX9_countAccess 13 = .ok (.iload_n 3, 1) := by decide +kernel
theorem dX9_countAccess_14 : decode cX9_countAccess 14 = .ok (.ifCond .ge 17, 3) := by decide +kernel
theorem dX9_countAccess_17 : decode cX9_countAccess 17 = .ok (.aload_n 0, 1) := by decide +kernel
theorem dX9_countAccess_18 : decode cX9_countAccess 18 = .ok (.getfield 56, 3) := by decide +kernel
theorem dX9_countAccess_21 : decode cX9_countAccess 21 = .ok (.dup, 1) := by decide +kernel
theorem dX9_countAccess_22 : decode cX9_countAccess 22 = .ok (.getfield 340, 3) := by decide +kernel
theorem dX9_countAccess_25 : decode cX9_countAccess 25 = .ok (.iconst 1, 1) := by decide +kernel
theorem dX9_countAccess_26 : decode cX9_countAccess 26 = .ok (.iadd, 1) := by decide +kernel
theorem dX9_countAccess_27 : decode cX9_countAccess 27 = .ok (.putfield 340, 3) := by decide +kernel
theorem dX9_countAccess_30 : decode cX9_countAccess 30 = .ok (.return_, 1) := by decide +kernel
theorem dX9_countAccess_31 : decode cX9_countAccess 31 = .ok (.aload_n 0, 1) := by decide +kernel
theorem dX9_countAccess_32 : decode cX9_countAccess 32 = .ok (.getfield 56, 3) := by decide +kernel
theorem dX9_countAccess_35 : decode cX9_countAccess 35 = .ok (.dup, 1) := by decide +kernel
theorem dX9_countAccess_36 : decode cX9_countAccess 36 = .ok (.getfield 337, 3) := by decide +kernel
theorem dX9_countAccess_39 : decode cX9_countAccess 39 = .ok (.iconst 1, 1) := by decide +kernel
theorem dX9_countAccess_40 : decode cX9_countAccess 40 = .ok (.iadd, 1) := by decide +kernel
theorem dX9_countAccess_41 : decode cX9_countAccess 41 = .ok (.putfield 337, 3) := by decide +kernel
theorem dX9_countAccess_44 : decode cX9_countAccess 44 = .ok (.aload_n 0, 1) := by decide +kernel
theorem dX9_countAccess_45 : decode cX9_countAccess 45 = .ok (.getfield 28, 3) := by decide +kernel
theorem dX9_countAccess_48 : decode cX9_countAccess 48 = .ok (.getfield 118, 3) := by decide +kernel
theorem dX9_countAccess_51 : decode cX9_countAccess 51 = .ok (.iload_n 3, 1) := by decide +kernel
theorem dX9_countAccess_52 : decode cX9_countAccess 52 = .ok (.aaload, 1) := by decide +kernel
theorem dX9_countAccess_53 : decode cX9_countAccess 53 = .ok (.getfield 444, 3) := by decide +kernel
theorem dX9_countAccess_56 : decode cX9_countAccess 56 = .ok (.ifCond .eq 29, 3) := by decide +kernel
theorem dX9_countAccess_59 : decode cX9_countAccess 59 = .ok (.aload_n 0, 1) := by decide +kernel
theorem dX9_countAccess_60 : decode cX9_countAccess 60 = .ok (.getfield 28, 3) := by decide +kernel
theorem dX9_countAccess_63 : decode cX9_countAccess 63 = .ok (.getfield 118, 3) := by decide +kernel
theorem dX9_countAccess_66 : decode cX9_countAccess 66 = .ok (.iload_n 3, 1) := by decide +kernel
theorem dX9_countAccess_67 : decode cX9_countAccess 67 = .ok (.aaload, 1) := by decide +kernel
theorem dX9_countAccess_68 : decode cX9_countAccess 68 = .ok (.iconst 0, 1) := by decide +kernel
theorem dX9_countAccess_69 : decode cX9_countAccess 69 = .ok (.putfield 444, 3) := by decide +kernel
theorem dX9_countAccess_72 : decode cX9_countAccess 72 = .ok (.aload_n 0, 1) := by decide +kernel
theorem dX9_countAccess_73 : decode cX9_countAccess 73 = .ok (.getfield 56, 3) := by decide +kernel
theorem dX9_countAccess_76 : decode cX9_countAccess 76 = .ok (.dup, 1) := by decide +kernel
theorem dX9_countAccess_77 : decode cX9_countAccess 77 = .ok (.getfield 349, 3) := by decide +kernel
theorem dX9_countAccess_80 : decode cX9_countAccess 80 = .ok (.iconst 1, 1) := by decide +kernel
theorem dX9_countAccess_81 : decode cX9_countAccess 81 = .ok (.iadd, 1) := by decide +kernel
theorem dX9_countAccess_82 : decode cX9_countAccess 82 = .ok (.putfield 349, 3) := by decide +kernel
theorem dX9_countAccess_85 : decode cX9_countAccess 85 = .ok (.return_, 1) := by decide +kernel
theorem dX9_change_0 : decode cX9_change 0 = .ok (.aload_n 0, 1) := by decide +kernel
theorem dX9_change_1 : decode cX9_change 1 = .ok (.getfield 42, 3) := by decide +kernel
theorem dX9_change_4 : decode cX9_change 4 = .ok (.getfield 216, 3) := by decide +kernel
theorem dX9_change_7 : decode cX9_change 7 = .ok (.ifCond .eq 28, 3) := by decide +kernel
theorem dX9_change_10 : decode cX9_change 10 = .ok (.aload_n 1, 1) := by decide +kernel
theorem dX9_change_11 : decode cX9_change 11 = .ok (.getfield 240, 3) := by decide +kernel
theorem dX9_change_14 : decode cX9_change 14 = .ok (.ifCond .ne 21, 3) := by decide +kernel
theorem dX9_change_17 : decode cX9_change 17 = .ok (.aload_n 1, 1) := by decide +kernel
theorem dX9_change_18 : decode cX9_change 18 = .ok (.iload_n 3, 1) := by decide +kernel
theorem dX9_change_19 : decode cX9_change 19 = .ok (.invokevirtual 449, 3) := by decide +kernel
theorem dX9_change_22 : decode cX9_change 22 = .ok (.aload_n 0, 1) := by decide +kernel
theorem dX9_change_23 : decode cX9_change 23 = .ok (.getfield 42, 3) := by decide +kernel
theorem dX9_change_26 : decode cX9_change 26 = .ok (.dup, 1) := by decide +kernel
theorem dX9_change_27 : decode cX9_change 27 = .ok (.getfield 252, 3) := by decide +kernel
theorem dX9_change_30 : decode cX9_change 30 = .ok (.iconst 1, 1) := by decide +kernel
theorem dX9_change_31 : decode cX9_change 31 = .ok (.iadd, 1) := by decide +kernel
theorem dX9_change_32 : decode cX9_change 32 = .ok (.putfield 252, 3) := by decide +kernel
theorem dX9_change_35 : decode cX9_change 35 = .ok (.aload_n 1, 1) := by decide +kernel
theorem dX9_change_36 : decode cX9_change 36 = .ok (.iload_n 2, 1) := by decide +kernel
theorem dX9_change_37 : decode cX9_change 37 = .ok (.putfield 170, 3) := by decide +kernel
theorem dX9_change_40 : decode cX9_change 40 = .ok (.aload_n 1, 1) := by decide +kernel
theorem dX9_change_41 : decode cX9_change 41 = .ok (.getfield 210, 3) := by decide +kernel
theorem dX9_change_44 : decode cX9_change 44 = .ok (.ifCond .ne 16, 3) := by decide +kernel
theorem dX9_change_47 : decode cX9_change 47 = .ok (.aload_n 1, 1) := by decide +kernel
theorem dX9_change_48 : decode cX9_change 48 = .ok (.iconst 1, 1) := by decide +kernel
theorem dX9_change_49 : decode cX9_change 49 = .ok (.putfield 210, 3) := by decide +kernel
theorem dX9_change_52 : decode cX9_change 52 = .ok (.aload_n 1, 1) := by decide +kernel
theorem dX9_change_53 : decode cX9_change 53 = .ok (.aload_n 1, 1) := by decide +kernel
theorem dX9_change_54 : decode cX9_change 54 = .ok (.getfield 453, 3) := by decide +kernel
theorem dX9_change_57 : decode cX9_change 57 = .ok (.putfield 456, 3) := by decide +kernel
theorem dX9_change_60 : decode cX9_change 60 = .ok (.return_, 1) := by decide +kernel
theorem dX9_waitForLimit_0 : decode cX9_waitForLimit 0 = .ok (.iconst 0, 1) := by decide +kernel
theorem dX9_waitForLimit_1 : decode cX9_waitForLimit 1 = .ok (.istore_n 1, 1) := by decide +kernel
theorem dX9_waitForLimit_2 : decode cX9_waitForLimit 2 = .ok (.iconst 0, 1) := by decide +kernel
theorem dX9_waitForLimit_3 : decode cX9_waitForLimit 3 = .ok (.istore_n 2, 1) := by decide +kernel
theorem dX9_waitForLimit_4 : decode cX9_waitForLimit 4 = .ok (.iload_n 2, 1) := by decide +kernel
theorem dX9_waitForLimit_5 : decode cX9_waitForLimit 5 = .ok (.bipush 16, 2) := by decide +kernel
theorem dX9_waitForLimit_7 : decode cX9_waitForLimit 7 = .ok (.if_icmp .ge 70, 3) := by decide +kernel
theorem dX9_waitForLimit_10 : decode cX9_waitForLimit 10 = .ok (.aload_n 0, 1) := by decide +kernel
theorem dX9_waitForLimit_11 : decode cX9_waitForLimit 11 = .ok (.getfield 28, 3) := by decide +kernel
theorem dX9_waitForLimit_14 : decode cX9_waitForLimit 14 = .ok (.iconst 0, 1) := by decide +kernel
theorem dX9_waitForLimit_15 : decode cX9_waitForLimit 15 = .ok (.invokevirtual 272, 3) := by decide +kernel
theorem dX9_waitForLimit_18 : decode cX9_waitForLimit 18 = .ok (.aload_n 0, 1) := by decide +kernel
theorem dX9_waitForLimit_19 : decode cX9_waitForLimit 19 = .ok (.getfield 74, 3) := by decide +kernel
theorem dX9_waitForLimit_22 : decode cX9_waitForLimit 22 = .ok (.if_icmp .le 55, 3) := by decide +kernel
theorem dX9_waitForLimit_25 : decode cX9_waitForLimit 25 = .ok (.aload_n 0, 1) := by decide +kernel
theorem dX9_waitForLimit_26 : decode cX9_waitForLimit 26 = .ok (.getfield 28, 3) := by decide +kernel
theorem dX9_waitForLimit_29 : decode cX9_waitForLimit 29 = .ok (.invokevirtual 459, 3) := by decide +kernel
theorem dX9_waitForLimit_32 : decode cX9_waitForLimit 32 = .ok (.istore_n 3, 1) := by decide +kernel
theorem dX9_waitForLimit_33 : decode cX9_waitForLimit 33 = .ok (.iload_n 3, 1) := by decide +kernel
theorem dX9_waitForLimit_34 : decode cX9_waitForLimit 34 = .ok (.ifCond .lt 19, 3) := by decide +kernel
theorem dX9_waitForLimit_37 : decode cX9_waitForLimit 37 = .ok (.aload_n 0, 1) := by decide +kernel
theorem dX9_waitForLimit_38 : decode cX9_waitForLimit 38 = .ok (.aload_n 0, 1) := by decide +kernel
theorem dX9_waitForLimit_39 : decode cX9_waitForLimit 39 = .ok (.getfield 28, 3) := by decide +kernel
theorem dX9_waitForLimit_42 : decode cX9_waitForLimit 42 = .ok (.getfield 118, 3) := by decide +kernel
theorem dX9_waitForLimit_45 : decode cX9_waitForLimit 45 = .ok (.iload_n 3, 1) := by decide +kernel
theorem dX9_waitForLimit_46 : decode cX9_waitForLimit 46 = .ok (.aaload, 1) := by decide +kernel
theorem dX9_waitForLimit_47 : decode cX9_waitForLimit 47 = .ok (.invokevirtual 427, 3) := by decide +kernel
theorem dX9_waitForLimit_50 : decode cX9_waitForLimit 50 = .ok (.ifCond .ne 5, 3) := by decide +kernel
theorem dX9_waitForLimit_53 : decode cX9_waitForLimit 53 = .ok (.iconst (-1), 1) := by decide +kernel
theorem dX9_waitForLimit_54 : decode cX9_waitForLimit 54 = .ok (.ireturn, 1) := by decide +kernel
theorem dX9_waitForLimit_55 : decode cX9_waitForLimit 55 = .ok (.aload_n 0, 1) := by decide +kernel
theorem dX9_waitForLimit_56 : decode cX9_waitForLimit 56 = .ok (.getfield 56, 3) := by decide +kernel
theorem dX9_waitForLimit_59 : decode cX9_waitForLimit 59 = .ok (.dup, 1) := by decide +kernel
theorem dX9_waitForLimit_60 : decode cX9_waitForLimit 60 = .ok (.getfield 343, 3) := by decide +kernel
theorem dX9_waitForLimit_63 : decode cX9_waitForLimit 63 = .ok (.iconst 1, 1) := by decide +kernel
theorem dX9_waitForLimit_64 : decode cX9_waitForLimit 64 = .ok (.iadd, 1) := by decide +kernel
theorem dX9_waitForLimit_65 : decode cX9_waitForLimit 65 = .ok (.putfield 343, 3) := by decide +kernel
theorem dX9_waitForLimit_68 : decode cX9_waitForLimit 68 = .ok (.iinc 1 1, 3) := by decide +kernel
theorem dX9_waitForLimit_71 : decode cX9_waitForLimit 71 = .ok (.iinc 2 1, 3) := by decide +kernel
theorem dX9_waitForLimit_74 : decode cX9_waitForLimit 74 = .ok (.goto (-70), 3) := by decide +kernel
theorem dX9_waitForLimit_77 : decode cX9_waitForLimit 77 = .ok (.iload_n 1, 1) := by decide +kernel
theorem dX9_waitForLimit_78 : decode cX9_waitForLimit 78 = .ok (.ireturn, 1) := by decide +kernel
theorem dX9_flushSpots_0 : decode cX9_flushSpots 0 = .ok (.iconst 0, 1) := by decide +kernel
theorem dX9_flushSpots_1 : decode cX9_flushSpots 1 = .ok (.istore_n 3, 1) := by decide +kernel
theorem dX9_flushSpots_2 : decode cX9_flushSpots 2 = .ok (.iload_n 1, 1) := by decide +kernel
theorem dX9_flushSpots_3 : decode cX9_flushSpots 3 = .ok (.istore 4, 2) := by decide +kernel
theorem dX9_flushSpots_5 : decode cX9_flushSpots 5 = .ok (.iload 4, 2) := by decide +kernel
theorem dX9_flushSpots_7 : decode cX9_flushSpots 7 = .ok (.iload_n 2, 1) := by decide +kernel
theorem dX9_flushSpots_8 : decode cX9_flushSpots 8 = .ok (.if_icmp .ge 63, 3) := by decide +kernel
theorem dX9_flushSpots_11 : decode cX9_flushSpots 11 = .ok (.aload_n 0, 1) := by decide +kernel
theorem dX9_flushSpots_12 : decode cX9_flushSpots 12 = .ok (.getfield 28, 3) := by decide +kernel
theorem dX9_flushSpots_15 : decode cX9_flushSpots 15 = .ok (.iload 4, 2) := by decide +kernel
theorem dX9_flushSpots_17 : decode cX9_flushSpots 17 = .ok (.invokevirtual 148, 3) := by decide +kernel
theorem dX9_flushSpots_20 : decode cX9_flushSpots 20 = .ok (.istore 5, 2) := by decide +kernel
theorem dX9_flushSpots_22 : decode cX9_flushSpots 22 = .ok (.iload 5, 2) := by decide +kernel
theorem dX9_flushSpots_24 : decode cX9_flushSpots 24 = .ok (.ifCond .lt 41, 3) := by decide +kernel
theorem dX9_flushSpots_27 : decode cX9_flushSpots 27 = .ok (.aload_n 0, 1) := by decide +kernel
theorem dX9_flushSpots_28 : decode cX9_flushSpots 28 = .ok (.getfield 28, 3) := by decide +kernel
theorem dX9_flushSpots_31 : decode cX9_flushSpots 31 = .ok (.getfield 118, 3) := by decide +kernel
theorem dX9_flushSpots_34 : decode cX9_flushSpots 34 = .ok (.iload 5, 2) := by decide +kernel
theorem dX9_flushSpots_36 : decode cX9_flushSpots 36 = .ok (.aaload, 1) := by decide +kernel
theorem dX9_flushSpots_37 : decode cX9_flushSpots 37 = .ok (.invokevirtual 462, 3) := by decide +kernel
theorem dX9_flushSpots_40 : decode cX9_flushSpots 40 = .ok (.ifCond .eq 25, 3) := by decide +kernel
theorem dX9_flushSpots_43 : decode cX9_flushSpots 43 = .ok (.aload_n 0, 1) := by decide +kernel
theorem dX9_flushSpots_44 : decode cX9_flushSpots 44 = .ok (.aload_n 0, 1) := by decide +kernel
theorem dX9_flushSpots_45 : decode cX9_flushSpots 45 = .ok (.getfield 28, 3) := by decide +kernel
theorem dX9_flushSpots_48 : decode cX9_flushSpots 48 = .ok (.getfield 118, 3) := by decide +kernel
theorem dX9_flushSpots_51 : decode cX9_flushSpots 51 = .ok (.iload 5, 2) := by decide +kernel
theorem dX9_flushSpots_53 : decode cX9_flushSpots 53 = .ok (.aaload, 1) := by decide +kernel
theorem dX9_flushSpots_54 : decode cX9_flushSpots 54 = .ok (.invokevirtual 427, 3) := by decide +kernel
theorem dX9_flushSpots_57 : decode cX9_flushSpots 57 = .ok (.ifCond .ne 5, 3) := by decide +kernel
theorem dX9_flushSpots_60 : decode cX9_flushSpots 60 = .ok (.iconst (-1), 1) := by decide +kernel
theorem dX9_flushSpots_61 : decode cX9_flushSpots 61 = .ok (.ireturn, 1) := by decide +kernel
theorem dX9_flushSpots_62 : decode cX9_flushSpots 62 = .ok (.iinc 3 1, 3) := by decide +kernel
theorem dX9_flushSpots_65 : decode cX9_flushSpots 65 = .ok (.iinc 4 1, 3) := by decide +kernel
theorem dX9_flushSpots_68 : decode cX9_flushSpots 68 = .ok (.goto (-63), 3) := by decide +kernel
theorem dX9_flushSpots_71 : decode cX9_flushSpots 71 = .ok (.iload_n 3, 1) := by decide +kernel
theorem dX9_flushSpots_72 : decode cX9_flushSpots 72 = .ok (.ireturn, 1) := by decide +kernel
theorem dX9_countNewToLog_0 : decode cX9_countNewToLog 0 = .ok (.iconst 0, 1) := by decide +kernel
theorem dX9_countNewToLog_1 : decode cX9_countNewToLog 1 = .ok (.istore_n 1, 1) := by decide +kernel
theorem dX9_countNewToLog_2 : decode cX9_countNewToLog 2 = .ok (.iconst 0, 1) := by decide +kernel
theorem dX9_countNewToLog_3 : decode cX9_countNewToLog 3 = .ok (.istore_n 2, 1) := by decide +kernel
theorem dX9_countNewToLog_4 : decode cX9_countNewToLog 4 = .ok (.iload_n 2, 1) := by decide +kernel
theorem dX9_countNewToLog_5 : decode cX9_countNewToLog 5 = .ok (.aload_n 0, 1) := by decide +kernel
theorem dX9_countNewToLog_6 : decode cX9_countNewToLog 6 = .ok (.getfield 28, 3) := by decide +kernel
theorem dX9_countNewToLog_9 : decode cX9_countNewToLog 9 = .ok (.getfield 115, 3) := by decide +kernel
theorem dX9_countNewToLog_12 : decode cX9_countNewToLog 12 = .ok (.if_icmp .ge 44, 3) := by decide +kernel
theorem dX9_countNewToLog_15 : decode cX9_countNewToLog 15 = .ok (.aload_n 0, 1) := by decide +kernel
theorem dX9_countNewToLog_16 : decode cX9_countNewToLog 16 = .ok (.getfield 28, 3) := by decide +kernel
theorem dX9_countNewToLog_19 : decode cX9_countNewToLog 19 = .ok (.getfield 118, 3) := by decide +kernel
theorem dX9_countNewToLog_22 : decode cX9_countNewToLog 22 = .ok (.iload_n 2, 1) := by decide +kernel
theorem dX9_countNewToLog_23 : decode cX9_countNewToLog 23 = .ok (.aaload, 1) := by decide +kernel
theorem dX9_countNewToLog_24 : decode cX9_countNewToLog 24 = .ok (.astore_n 3, 1) := by decide +kernel
theorem dX9_countNewToLog_25 : decode cX9_countNewToLog 25 = .ok (.aload_n 3, 1) := by decide +kernel
theorem dX9_countNewToLog_26 : decode cX9_countNewToLog 26 = .ok (.getfield 240, 3) := by decide +kernel
theorem dX9_countNewToLog_29 : decode cX9_countNewToLog 29 = .ok (.ifCond .eq 21, 3) := by decide +kernel
theorem dX9_countNewToLog_32 : decode cX9_countNewToLog 32 = .ok (.aload_n 0, 1) := by decide +kernel
theorem dX9_countNewToLog_33 : decode cX9_countNewToLog 33 = .ok (.getfield 35, 3) := by decide +kernel
theorem dX9_countNewToLog_36 : decode cX9_countNewToLog 36 = .ok (.getfield 281, 3) := by decide +kernel
theorem dX9_countNewToLog_39 : decode cX9_countNewToLog 39 = .ok (.aload_n 3, 1) := by decide +kernel
theorem dX9_countNewToLog_40 : decode cX9_countNewToLog 40 = .ok (.getfield 243, 3) := by decide +kernel
theorem dX9_countNewToLog_43 : decode cX9_countNewToLog 43 = .ok (.baload, 1) := by decide +kernel
theorem dX9_countNewToLog_44 : decode cX9_countNewToLog 44 = .ok (.ifCond .ne 6, 3) := by decide +kernel
theorem dX9_countNewToLog_47 : decode cX9_countNewToLog 47 = .ok (.iinc 1 1, 3) := by decide +kernel
theorem dX9_countNewToLog_50 : decode cX9_countNewToLog 50 = .ok (.iinc 2 1, 3) := by decide +kernel
theorem dX9_countNewToLog_53 : decode cX9_countNewToLog 53 = .ok (.goto (-49), 3) := by decide +kernel
theorem dX9_countNewToLog_56 : decode cX9_countNewToLog 56 = .ok (.iload_n 1, 1) := by decide +kernel
theorem dX9_countNewToLog_57 : decode cX9_countNewToLog 57 = .ok (.ireturn, 1) := by decide +kernel
theorem dX9_hitShare_0 : decode cX9_hitShare 0 = .ok (.aload_n 0, 1) := by decide +kernel
theorem dX9_hitShare_1 : decode cX9_hitShare 1 = .ok (.getfield 56, 3) := by decide +kernel
theorem dX9_hitShare_4 : decode cX9_hitShare 4 = .ok (.invokevirtual 369, 3) := by decide +kernel
theorem dX9_hitShare_7 : decode cX9_hitShare 7 = .ok (.istore_n 1, 1) := by decide +kernel
theorem dX9_hitShare_8 : decode cX9_hitShare 8 = .ok (.iload_n 1, 1) := by decide +kernel
theorem dX9_hitShare_9 : decode cX9_hitShare 9 = .ok (.ifCond .ne 7, 3) := by decide +kernel
theorem dX9_hitShare_12 : decode cX9_hitShare 12 = .ok (.fconst 0, 1) := by decide +kernel
theorem dX9_hitShare_13 : decode cX9_hitShare 13 = .ok (.goto 14, 3) := by decide +kernel
theorem dX9_hitShare_16 : decode cX9_hitShare 16 = .ok (.aload_n 0, 1) := by decide +kernel
theorem dX9_hitShare_17 : decode cX9_hitShare 17 = .ok (.getfield 56, 3) := by decide +kernel
theorem dX9_hitShare_20 : decode cX9_hitShare 20 = .ok (.getfield 337, 3) := by decide +kernel
theorem dX9_hitShare_23 : decode cX9_hitShare 23 = .ok (.i2f, 1) := by decide +kernel
theorem dX9_hitShare_24 : decode cX9_hitShare 24 = .ok (.iload_n 1, 1) := by decide +kernel
theorem dX9_hitShare_25 : decode cX9_hitShare 25 = .ok (.i2f, 1) := by decide +kernel
theorem dX9_hitShare_26 : decode cX9_hitShare 26 = .ok (.fdiv, 1) := by decide +kernel
theorem dX9_hitShare_27 : decode cX9_hitShare 27 = .ok (.freturn, 1) := by decide +kernel
theorem dX9_bitsOf_0 : decode cX9_bitsOf 0 = .ok (.fload_n 0, 1) := by decide +kernel
theorem dX9_bitsOf_1 : decode cX9_bitsOf 1 = .ok (.fconst 0, 1) := by decide +kernel
theorem dX9_bitsOf_2 : decode cX9_bitsOf 2 = .ok (.fcmp .g, 1) := by decide +kernel
theorem dX9_bitsOf_3 : decode cX9_bitsOf 3 = .ok (.ifCond .gt 5, 3) := by decide +kernel
theorem dX9_bitsOf_6 : decode cX9_bitsOf 6 = .ok (.iconst 0, 1) := by decide +kernel
theorem dX9_bitsOf_7 : decode cX9_bitsOf 7 = .ok (.ireturn, 1) := by decide +kernel
theorem dX9_bitsOf_8 : decode cX9_bitsOf 8 = .ok (.fload_n 0, 1) := by decide +kernel
theorem dX9_bitsOf_9 : decode cX9_bitsOf 9 = .ok (.fstore_n 1, 1) := by decide +kernel
theorem dX9_bitsOf_10 : decode cX9_bitsOf 10 = .ok (.bipush 127, 2) := by decide +kernel
theorem dX9_bitsOf_12 : decode cX9_bitsOf 12 = .ok (.istore_n 2, 1) := by decide +kernel
theorem dX9_bitsOf_13 : decode cX9_bitsOf 13 = .ok (.iconst 0, 1) := by decide +kernel
theorem dX9_bitsOf_14 : decode cX9_bitsOf 14 = .ok (.istore_n 3, 1) := by decide +kernel
theorem dX9_bitsOf_15 : decode cX9_bitsOf 15 = .ok (.iload_n 3, 1) := by decide +kernel
theorem dX9_bitsOf_16 : decode cX9_bitsOf 16 = .ok (.bipush 127, 2) := by decide +kernel
theorem dX9_bitsOf_18 : decode cX9_bitsOf 18 = .ok (.if_icmp .ge 22, 3) := by decide +kernel
theorem dX9_bitsOf_21 : decode cX9_bitsOf 21 = .ok (.fload_n 1, 1) := by decide +kernel
theorem dX9_bitsOf_22 : decode cX9_bitsOf 22 = .ok (.fconst 1, 1) := by decide +kernel
theorem dX9_bitsOf_23 : decode cX9_bitsOf 23 = .ok (.fcmp .g, 1) := by decide +kernel
theorem dX9_bitsOf_24 : decode cX9_bitsOf 24 = .ok (.ifCond .ge 16, 3) := by decide +kernel
theorem dX9_bitsOf_27 : decode cX9_bitsOf 27 = .ok (.fload_n 1, 1) := by decide +kernel
theorem dX9_bitsOf_28 : decode cX9_bitsOf 28 = .ok (.fconst 2, 1) := by decide +kernel
theorem dX9_bitsOf_29 : decode cX9_bitsOf 29 = .ok (.fmul, 1) := by decide +kernel
theorem dX9_bitsOf_30 : decode cX9_bitsOf 30 = .ok (.fstore_n 1, 1) := by decide +kernel
theorem dX9_bitsOf_31 : decode cX9_bitsOf 31 = .ok (.iinc 2 (-1), 3) := by decide +kernel
theorem dX9_bitsOf_34 : decode cX9_bitsOf 34 = .ok (.iinc 3 1, 3) := by decide +kernel
theorem dX9_bitsOf_37 : decode cX9_bitsOf 37 = .ok (.goto (-22), 3) := by decide +kernel
theorem dX9_bitsOf_40 : decode cX9_bitsOf 40 = .ok (.fload_n 1, 1) := by decide +kernel
theorem dX9_bitsOf_41 : decode cX9_bitsOf 41 = .ok (.fconst 1, 1) := by decide +kernel
theorem dX9_bitsOf_42 : decode cX9_bitsOf 42 = .ok (.fsub, 1) := by decide +kernel
theorem dX9_bitsOf_43 : decode cX9_bitsOf 43 = .ok (.ldc_w 465, 3) := by decide +kernel
theorem dX9_bitsOf_46 : decode cX9_bitsOf 46 = .ok (.fmul, 1) := by decide +kernel
theorem dX9_bitsOf_47 : decode cX9_bitsOf 47 = .ok (.f2i, 1) := by decide +kernel
theorem dX9_bitsOf_48 : decode cX9_bitsOf 48 = .ok (.istore_n 3, 1) := by decide +kernel
theorem dX9_bitsOf_49 : decode cX9_bitsOf 49 = .ok (.iload_n 2, 1) := by decide +kernel
theorem dX9_bitsOf_50 : decode cX9_bitsOf 50 = .ok (.bipush 23, 2) := by decide +kernel
theorem dX9_bitsOf_52 : decode cX9_bitsOf 52 = .ok (.ishl, 1) := by decide +kernel
theorem dX9_bitsOf_53 : decode cX9_bitsOf 53 = .ok (.iload_n 3, 1) := by decide +kernel
theorem dX9_bitsOf_54 : decode cX9_bitsOf 54 = .ok (.iadd, 1) := by decide +kernel
theorem dX9_bitsOf_55 : decode cX9_bitsOf 55 = .ok (.ireturn, 1) := by decide +kernel
theorem dX9_cleanPagesAreOnPlaces_0 : decode cX9_cleanPagesAreOnPlaces 0 = .ok (.iconst 0, 1) := by decide +kernel
theorem dX9_cleanPagesAreOnPlaces_1 : decode cX9_cleanPagesAreOnPlaces 1 = .ok (.istore_n 1, 1) := by decide +kernel
theorem dX9_cleanPagesAreOnPlaces_2 : decode cX9_cleanPagesAreOnPlaces 2 = .ok (.iload_n 1, 1) := by decide +kernel
theorem dX9_cleanPagesAreOnPlaces_3 : decode cX9_cleanPagesAreOnPlaces 3 = .ok (.aload_n 0, 1) := by decide +kernel
theorem dX9_cleanPagesAreOnPlaces_4 : decode cX9_cleanPagesAreOnPlaces 4 = .ok (.getfield 28, 3) := by decide +kernel
theorem dX9_cleanPagesAreOnPlaces_7 : decode cX9_cleanPagesAreOnPlaces 7 = .ok (.getfield 115, 3) := by decide +kernel
theorem dX9_cleanPagesAreOnPlaces_10 : decode cX9_cleanPagesAreOnPlaces 10 = .ok (.if_icmp .ge 61, 3) := by decide +kernel
theorem dX9_cleanPagesAreOnPlaces_13 : decode cX9_cleanPagesAreOnPlaces 13 = .ok (.aload_n 0, 1) := by decide +kernel
theorem dX9_cleanPagesAreOnPlaces_14 : decode cX9_cleanPagesAreOnPlaces 14 = .ok (.getfield 28, 3) := by decide +kernel
theorem dX9_cleanPagesAreOnPlaces_17 : decode cX9_cleanPagesAreOnPlaces 17 = .ok (.getfield 118, 3) := by decide +kernel
theorem dX9_cleanPagesAreOnPlaces_20 : decode cX9_cleanPagesAreOnPlaces 20 = .ok (.iload_n 1, 1) := by decide +kernel
theorem dX9_cleanPagesAreOnPlaces_21 : decode cX9_cleanPagesAreOnPlaces 21 = .ok (.aaload, 1) := by decide +kernel
theorem dX9_cleanPagesAreOnPlaces_22 : decode cX9_cleanPagesAreOnPlaces 22 = .ok (.astore_n 2, 1) := by decide +kernel
theorem dX9_cleanPagesAreOnPlaces_23 : decode cX9_cleanPagesAreOnPlaces 23 = .ok (.aload_n 2, 1) := by decide +kernel
theorem dX9_cleanPagesAreOnPlaces_24 : decode cX9_cleanPagesAreOnPlaces 24 = .ok (.invokevirtual 376, 3) := by decide +kernel
theorem dX9_cleanPagesAreOnPlaces_27 : decode cX9_cleanPagesAreOnPlaces 27 = .ok (.ifCond .ne 38, 3) := by decide +kernel
theorem dX9_cleanPagesAreOnPlaces_30 : decode cX9_cleanPagesAreOnPlaces 30 = .ok (.aload_n 2, 1) := by decide +kernel
theorem dX9_cleanPagesAreOnPlaces_31 : decode cX9_cleanPagesAreOnPlaces 31 = .ok (.getfield 210, 3) := by decide +kernel
theorem dX9_cleanPagesAreOnPlaces_34 : decode cX9_cleanPagesAreOnPlaces 34 = .ok (.ifCond .ne 31, 3) := by decide +kernel
theorem dX9_cleanPagesAreOnPlaces_37 : decode cX9_cleanPagesAreOnPlaces 37 = .ok (.aload_n 0, 1) := by decide +kernel
theorem dX9_cleanPagesAreOnPlaces_38 : decode cX9_cleanPagesAreOnPlaces 38 = .ok (.aload_n 2, 1) := by decide +kernel
theorem dX9_cleanPagesAreOnPlaces_39 : decode cX9_cleanPagesAreOnPlaces 39 = .ok (.getfield 243, 3) := by decide +kernel
theorem dX9_cleanPagesAreOnPlaces_42 : decode cX9_cleanPagesAreOnPlaces 42 = .ok (.invokevirtual 155, 3) := by decide +kernel
theorem dX9_cleanPagesAreOnPlaces_45 : decode cX9_cleanPagesAreOnPlaces 45 = .ok (.ifCond .ne 20, 3) := by decide +kernel
theorem dX9_cleanPagesAreOnPlaces_48 : decode cX9_cleanPagesAreOnPlaces 48 = .ok (.aload_n 2, 1) := by decide +kernel
theorem dX9_cleanPagesAreOnPlaces_49 : decode cX9_cleanPagesAreOnPlaces 49 = .ok (.getfield 170, 3) := by decide +kernel
theorem dX9_cleanPagesAreOnPlaces_52 : decode cX9_cleanPagesAreOnPlaces 52 = .ok (.aload_n 0, 1) := by decide +kernel
theorem dX9_cleanPagesAreOnPlaces_53 : decode cX9_cleanPagesAreOnPlaces 53 = .ok (.aload_n 2, 1) := by decide +kernel
theorem dX9_cleanPagesAreOnPlaces_54 : decode cX9_cleanPagesAreOnPlaces 54 = .ok (.getfield 243, 3) := by decide +kernel
theorem dX9_cleanPagesAreOnPlaces_57 : decode cX9_cleanPagesAreOnPlaces 57 = .ok (.invokevirtual 213, 3) := by decide +kernel
theorem dX9_cleanPagesAreOnPlaces_60 : decode cX9_cleanPagesAreOnPlaces 60 = .ok (.if_icmp .eq 5, 3) := by decide +kernel
theorem dX9_cleanPagesAreOnPlaces_63 : decode cX9_cleanPagesAreOnPlaces 63 = .ok (.iconst 0, 1) := by decide +kernel
theorem dX9_cleanPagesAreOnPlaces_64 : decode cX9_cleanPagesAreOnPlaces 64 = .ok (.ireturn, 1) := by decide +kernel
theorem dX9_cleanPagesAreOnPlaces_65 : decode cX9_cleanPagesAreOnPlaces 65 = .ok (.iinc 1 1, 3) := by decide +kernel
theorem dX9_cleanPagesAreOnPlaces_68 : decode cX9_cleanPagesAreOnPlaces 68 = .ok (.goto (-66), 3) := by decide +kernel
theorem dX9_cleanPagesAreOnPlaces_71 : decode cX9_cleanPagesAreOnPlaces 71 = .ok (.iconst 1, 1) := by decide +kernel
theorem dX9_cleanPagesAreOnPlaces_72 : decode cX9_cleanPagesAreOnPlaces 72 = .ok (.ireturn, 1) := by decide +kernel
theorem dX9_logIsOfDirtyPages_0 : decode cX9_logIsOfDirtyPages 0 = .ok (.iconst 0, 1) := by decide +kernel
theorem dX9_logIsOfDirtyPages_1 : decode cX9_logIsOfDirtyPages 1 = .ok (.istore_n 1, 1) := by decide +kernel
theorem dX9_logIsOfDirtyPages_2 : decode cX9_logIsOfDirtyPages 2 = .ok (.iload_n 1, 1) := by decide +kernel
theorem dX9_logIsOfDirtyPages_3 : decode cX9_logIsOfDirtyPages 3 = .ok (.aload_n 0, 1) := by decide +kernel
theorem dX9_logIsOfDirtyPages_4 : decode cX9_logIsOfDirtyPages 4 = .ok (.getfield 28, 3) := by decide +kernel
theorem dX9_logIsOfDirtyPages_7 : decode cX9_logIsOfDirtyPages 7 = .ok (.getfield 115, 3) := by decide +kernel
theorem dX9_logIsOfDirtyPages_10 : decode cX9_logIsOfDirtyPages 10 = .ok (.if_icmp .ge 50, 3) := by decide +kernel
theorem dX9_logIsOfDirtyPages_13 : decode cX9_logIsOfDirtyPages 13 = .ok (.aload_n 0, 1) := by decide +kernel
theorem dX9_logIsOfDirtyPages_14 : decode cX9_logIsOfDirtyPages 14 = .ok (.getfield 28, 3) := by decide +kernel
theorem dX9_logIsOfDirtyPages_17 : decode cX9_logIsOfDirtyPages 17 = .ok (.getfield 118, 3) := by decide +kernel
theorem dX9_logIsOfDirtyPages_20 : decode cX9_logIsOfDirtyPages 20 = .ok (.iload_n 1, 1) := by decide +kernel
theorem dX9_logIsOfDirtyPages_21 : decode cX9_logIsOfDirtyPages 21 = .ok (.aaload, 1) := by decide +kernel
theorem dX9_logIsOfDirtyPages_22 : decode cX9_logIsOfDirtyPages 22 = .ok (.astore_n 2, 1) := by decide +kernel
theorem dX9_logIsOfDirtyPages_23 : decode cX9_logIsOfDirtyPages 23 = .ok (.aload_n 2, 1) := by decide +kernel
theorem dX9_logIsOfDirtyPages_24 : decode cX9_logIsOfDirtyPages 24 = .ok (.invokevirtual 376, 3) := by decide +kernel
theorem dX9_logIsOfDirtyPages_27 : decode cX9_logIsOfDirtyPages 27 = .ok (.ifCond .ne 27, 3) := by decide +kernel
theorem dX9_logIsOfDirtyPages_30 : decode cX9_logIsOfDirtyPages 30 = .ok (.aload_n 2, 1) := by decide +kernel
theorem dX9_logIsOfDirtyPages_31 : decode cX9_logIsOfDirtyPages 31 = .ok (.getfield 210, 3) := by decide +kernel
theorem dX9_logIsOfDirtyPages_34 : decode cX9_logIsOfDirtyPages 34 = .ok (.ifCond .ne 20, 3) := by decide +kernel
theorem dX9_logIsOfDirtyPages_37 : decode cX9_logIsOfDirtyPages 37 = .ok (.aload_n 0, 1) := by decide +kernel
theorem dX9_logIsOfDirtyPages_38 : decode cX9_logIsOfDirtyPages 38 = .ok (.getfield 35, 3) := by decide +kernel
theorem dX9_logIsOfDirtyPages_41 : decode cX9_logIsOfDirtyPages 41 = .ok (.getfield 281, 3) := by decide +kernel
theorem dX9_logIsOfDirtyPages_44 : decode cX9_logIsOfDirtyPages 44 = .ok (.aload_n 2, 1) := by decide +kernel
theorem dX9_logIsOfDirtyPages_45 : decode cX9_logIsOfDirtyPages 45 = .ok (.getfield 243, 3) := by decide +kernel
theorem dX9_logIsOfDirtyPages_48 : decode cX9_logIsOfDirtyPages 48 = .ok (.baload, 1) := by decide +kernel
theorem dX9_logIsOfDirtyPages_49 : decode cX9_logIsOfDirtyPages 49 = .ok (.ifCond .eq 5, 3) := by decide +kernel
theorem dX9_logIsOfDirtyPages_52 : decode cX9_logIsOfDirtyPages 52 = .ok (.iconst 0, 1) := by decide +kernel
theorem dX9_logIsOfDirtyPages_53 : decode cX9_logIsOfDirtyPages 53 = .ok (.ireturn, 1) := by decide +kernel
theorem dX9_logIsOfDirtyPages_54 : decode cX9_logIsOfDirtyPages 54 = .ok (.iinc 1 1, 3) := by decide +kernel
theorem dX9_logIsOfDirtyPages_57 : decode cX9_logIsOfDirtyPages 57 = .ok (.goto (-55), 3) := by decide +kernel
theorem dX9_logIsOfDirtyPages_60 : decode cX9_logIsOfDirtyPages 60 = .ok (.iconst 1, 1) := by decide +kernel
theorem dX9_logIsOfDirtyPages_61 : decode cX9_logIsOfDirtyPages 61 = .ok (.ireturn, 1) := by decide +kernel
theorem dX9_bestIsBest_0 : decode cX9_bestIsBest 0 = .ok (.aload_n 0, 1) := by decide +kernel
theorem dX9_bestIsBest_1 : decode cX9_bestIsBest 1 = .ok (.getfield 49, 3) := by decide +kernel
theorem dX9_bestIsBest_4 : decode cX9_bestIsBest 4 = .ok (.bipush 98, 2) := by decide +kernel
theorem dX9_bestIsBest_6 : decode cX9_bestIsBest 6 = .ok (.aload_n 0, 1) := by decide +kernel
theorem dX9_bestIsBest_7 : decode cX9_bestIsBest 7 = .ok (.getfield 28, 3) := by decide +kernel
theorem dX9_bestIsBest_10 : decode cX9_bestIsBest 10 = .ok (.getfield 115, 3) := by decide +kernel
theorem dX9_bestIsBest_13 : decode cX9_bestIsBest 13 = .ok (.invokevirtual 355, 3) := by decide +kernel
theorem dX9_bestIsBest_16 : decode cX9_bestIsBest 16 = .ok (.istore_n 1, 1) := by decide +kernel
theorem dX9_bestIsBest_17 : decode cX9_bestIsBest 17 = .ok (.iload_n 1, 1) := by decide +kernel
theorem dX9_bestIsBest_18 : decode cX9_bestIsBest 18 = .ok (.aload_n 0, 1) := by decide +kernel
theorem dX9_bestIsBest_19 : decode cX9_bestIsBest 19 = .ok (.getfield 49, 3) := by decide +kernel
theorem dX9_bestIsBest_22 : decode cX9_bestIsBest 22 = .ok (.bipush 108, 2) := by decide +kernel
theorem dX9_bestIsBest_24 : decode cX9_bestIsBest 24 = .ok (.aload_n 0, 1) := by decide +kernel
theorem dX9_bestIsBest_25 : decode cX9_bestIsBest 25 = .ok (.getfield 28, 3) := by decide +kernel
theorem dX9_bestIsBest_28 : decode cX9_bestIsBest 28 = .ok (.getfield 115, 3) := by decide +kernel
theorem dX9_bestIsBest_31 : decode cX9_bestIsBest 31 = .ok (.invokevirtual 355, 3) := by decide +kernel
theorem dX9_bestIsBest_34 : decode cX9_bestIsBest 34 = .ok (.if_icmp .gt 47, 3) := by decide +kernel
theorem dX9_bestIsBest_37 : decode cX9_bestIsBest 37 = .ok (.iload_n 1, 1) := by decide +kernel
theorem dX9_bestIsBest_38 : decode cX9_bestIsBest 38 = .ok (.aload_n 0, 1) := by decide +kernel
theorem dX9_bestIsBest_39 : decode cX9_bestIsBest 39 = .ok (.getfield 49, 3) := by decide +kernel
theorem dX9_bestIsBest_42 : decode cX9_bestIsBest 42 = .ok (.bipush 102, 2) := by decide +kernel
theorem dX9_bestIsBest_44 : decode cX9_bestIsBest 44 = .ok (.aload_n 0, 1) := by decide +kernel
theorem dX9_bestIsBest_45 : decode cX9_bestIsBest 45 = .ok (.getfield 28, 3) := by decide +kernel
theorem dX9_bestIsBest_48 : decode cX9_bestIsBest 48 = .ok (.getfield 115, 3) := by decide +kernel
theorem dX9_bestIsBest_51 : decode cX9_bestIsBest 51 = .ok (.invokevirtual 355, 3) := by decide +kernel
theorem dX9_bestIsBest_54 : decode cX9_bestIsBest 54 = .ok (.if_icmp .gt 27, 3) := by decide +kernel
theorem dX9_bestIsBest_57 : decode cX9_bestIsBest 57 = .ok (.iload_n 1, 1) := by decide +kernel
theorem dX9_bestIsBest_58 : decode cX9_bestIsBest 58 = .ok (.aload_n 0, 1) := by decide +kernel
theorem dX9_bestIsBest_59 : decode cX9_bestIsBest 59 = .ok (.getfield 49, 3) := by decide +kernel
theorem dX9_bestIsBest_62 : decode cX9_bestIsBest 62 = .ok (.bipush 99, 2) := by decide +kernel
theorem dX9_bestIsBest_64 : decode cX9_bestIsBest 64 = .ok (.aload_n 0, 1) := by decide +kernel
theorem dX9_bestIsBest_65 : decode cX9_bestIsBest 65 = .ok (.getfield 28, 3) := by decide +kernel
theorem dX9_bestIsBest_68 : decode cX9_bestIsBest 68 = .ok (.getfield 115, 3) := by decide +kernel
theorem dX9_bestIsBest_71 : decode cX9_bestIsBest 71 = .ok (.invokevirtual 355, 3) := by decide +kernel
theorem dX9_bestIsBest_74 : decode cX9_bestIsBest 74 = .ok (.if_icmp .gt 7, 3) := by decide +kernel
theorem dX9_bestIsBest_77 : decode cX9_bestIsBest 77 = .ok (.iconst 1, 1) := by decide +kernel
theorem dX9_bestIsBest_78 : decode cX9_bestIsBest 78 = .ok (.goto 4, 3) := by decide +kernel
theorem dX9_bestIsBest_81 : decode cX9_bestIsBest 81 = .ok (.iconst 0, 1) := by decide +kernel
theorem dX9_bestIsBest_82 : decode cX9_bestIsBest 82 = .ok (.ireturn, 1) := by decide +kernel
theorem dX10_init_0 : decode cX10_init 0 = .ok (.aload_n 0, 1) := by decide +kernel
theorem dX10_init_1 : decode cX10_init 1 = .ok (.invokespecial 3, 3) := by decide +kernel
theorem dX10_init_4 : decode cX10_init 4 = .ok (.aload_n 0, 1) := by decide +kernel
theorem dX10_init_5 : decode cX10_init 5 = .ok (.bipush 64, 2) := by decide +kernel
theorem dX10_init_7 : decode cX10_init 7 = .ok (.newarray .int, 2) := by decide +kernel
theorem dX10_init_9 : decode cX10_init 9 = .ok (.putfield 9, 3) := by decide +kernel
theorem dX10_init_12 : decode cX10_init 12 = .ok (.aload_n 0, 1) := by decide +kernel
theorem dX10_init_13 : decode cX10_init 13 = .ok (.bipush 64, 2) := by decide +kernel
theorem dX10_init_15 : decode cX10_init 15 = .ok (.newarray .int, 2) := by decide +kernel
theorem dX10_init_17 : decode cX10_init 17 = .ok (.putfield 15, 3) := by decide +kernel
theorem dX10_init_20 : decode cX10_init 20 = .ok (.aload_n 0, 1) := by decide +kernel
theorem dX10_init_21 : decode cX10_init 21 = .ok (.iload_n 1, 1) := by decide +kernel
theorem dX10_init_22 : decode cX10_init 22 = .ok (.putfield 18, 3) := by decide +kernel
theorem dX10_init_25 : decode cX10_init 25 = .ok (.return_, 1) := by decide +kernel
theorem dX11_init_0 : decode cX11_init 0 = .ok (.aload_n 0, 1) := by decide +kernel
theorem dX11_init_1 : decode cX11_init 1 = .ok (.invokespecial 3, 3) := by decide +kernel
theorem dX11_init_4 : decode cX11_init 4 = .ok (.aload_n 0, 1) := by decide +kernel
theorem dX11_init_5 : decode cX11_init 5 = .ok (.ldc2_w 9, 3) := by decide +kernel
theorem dX11_init_8 : decode cX11_init 8 = .ok (.putfield 11, 3) := by decide +kernel
theorem dX11_init_11 : decode cX11_init 11 = .ok (.aload_n 0, 1) := by decide +kernel
theorem dX11_init_12 : decode cX11_init 12 = .ok (.iconst 1, 1) := by decide +kernel
theorem dX11_init_13 : decode cX11_init 13 = .ok (.putfield 17, 3) := by decide +kernel
theorem dX11_init_16 : decode cX11_init 16 = .ok (.aload_n 0, 1) := by decide +kernel
theorem dX11_init_17 : decode cX11_init 17 = .ok (.iload_n 1, 1) := by decide +kernel
theorem dX11_init_18 : decode cX11_init 18 = .ok (.putfield 21, 3) := by decide +kernel
theorem dX11_init_21 : decode cX11_init 21 = .ok (.return_, 1) := by decide +kernel
theorem dX11_isDirty_0 : decode cX11_isDirty 0 = .ok (.aload_n 0, 1) := by decide +kernel
theorem dX11_isDirty_1 : decode cX11_isDirty 1 = .ok (.getfield 11, 3) := by decide +kernel
theorem dX11_isDirty_4 : decode cX11_isDirty 4 = .ok (.ldc2_w 9, 3) := by decide +kernel
theorem dX11_isDirty_7 : decode cX11_isDirty 7 = .ok (.lcmp, 1) := by decide +kernel
theorem dX11_isDirty_8 : decode cX11_isDirty 8 = .ok (.ifCond .eq 7, 3) := by decide +kernel
theorem dX11_isDirty_11 : decode cX11_isDirty 11 = .ok (.iconst 1, 1) := by decide +kernel
theorem dX11_isDirty_12 : decode cX11_isDirty 12 = .ok (.goto 4, 3) := by decide +kernel
theorem dX11_isDirty_15 : decode cX11_isDirty 15 = .ok (.iconst 0, 1) := by decide +kernel
theorem dX11_isDirty_16 : decode cX11_isDirty 16 = .ok (.ireturn, 1) := by decide +kernel
theorem dX11_canGo_0 : decode cX11_canGo 0 = .ok (.aload_n 0, 1) := by decide +kernel
theorem dX11_canGo_1 : decode cX11_canGo 1 = .ok (.getfield 25, 3) := by decide +kernel
theorem dX11_canGo_4 : decode cX11_canGo 4 = .ok (.ifCond .ne 14, 3) := by decide +kernel
theorem dX11_canGo_7 : decode cX11_canGo 7 = .ok (.aload_n 0, 1) := by decide +kernel
theorem dX11_canGo_8 : decode cX11_canGo 8 = .ok (.getfield 28, 3) := by decide +kernel
theorem dX11_canGo_11 : decode cX11_canGo 11 = .ok (.ifCond .ne 7, 3) := by decide +kernel
theorem dX11_canGo_14 : decode cX11_canGo 14 = .ok (.iconst 1, 1) := by decide +kernel
theorem dX11_canGo_15 : decode cX11_canGo 15 = .ok (.goto 4, 3) := by decide +kernel
theorem dX11_canGo_18 : decode cX11_canGo 18 = .ok (.iconst 0, 1) := by decide +kernel
theorem dX11_canGo_19 : decode cX11_canGo 19 = .ok (.ireturn, 1) := by decide +kernel
theorem dX12_in_0 : decode cX12_in 0 = .ok (.lload_n 0, 1) := by decide +kernel
theorem dX12_in_1 : decode cX12_in 1 = .ok (.lload_n 2, 1) := by decide +kernel
theorem dX12_in_2 : decode cX12_in 2 = .ok (.lcmp, 1) := by decide +kernel
theorem dX12_in_3 : decode cX12_in 3 = .ok (.ifCond .lt 14, 3) := by decide +kernel
theorem dX12_in_6 : decode cX12_in 6 = .ok (.lload_n 0, 1) := by decide +kernel
theorem dX12_in_7 : decode cX12_in 7 = .ok (.lload 4, 2) := by decide +kernel
theorem dX12_in_9 : decode cX12_in 9 = .ok (.lcmp, 1) := by decide +kernel
theorem dX12_in_10 : decode cX12_in 10 = .ok (.ifCond .gt 7, 3) := by decide +kernel
theorem dX12_in_13 : decode cX12_in 13 = .ok (.iconst 1, 1) := by decide +kernel
theorem dX12_in_14 : decode cX12_in 14 = .ok (.goto 4, 3) := by decide +kernel
theorem dX12_in_17 : decode cX12_in 17 = .ok (.iconst 0, 1) := by decide +kernel
theorem dX12_in_18 : decode cX12_in 18 = .ok (.ireturn, 1) := by decide +kernel
theorem dX12_init_0 : decode cX12_init 0 = .ok (.aload_n 0, 1) := by decide +kernel
theorem dX12_init_1 : decode cX12_init 1 = .ok (.invokespecial 1, 3) := by decide +kernel
theorem dX12_init_4 : decode cX12_init 4 = .ok (.aload_n 0, 1) := by decide +kernel
theorem dX12_init_5 : decode cX12_init 5 = .ok (.sipush 128, 3) := by decide +kernel
theorem dX12_init_8 : decode cX12_init 8 = .ok (.newarray .int, 2) := by decide +kernel
theorem dX12_init_10 : decode cX12_init 10 = .ok (.putfield 9, 3) := by decide +kernel
theorem dX12_init_13 : decode cX12_init 13 = .ok (.aload_n 0, 1) := by decide +kernel
theorem dX12_init_14 : decode cX12_init 14 = .ok (.sipush 128, 3) := by decide +kernel
theorem dX12_init_17 : decode cX12_init 17 = .ok (.newarray .int, 2) := by decide +kernel
theorem dX12_init_19 : decode cX12_init 19 = .ok (.putfield 13, 3) := by decide +kernel
theorem dX12_init_22 : decode cX12_init 22 = .ok (.aload_n 0, 1) := by decide +kernel
theorem dX12_init_23 : decode cX12_init 23 = .ok (.bipush 64, 2) := by decide +kernel
theorem dX12_init_25 : decode cX12_init 25 = .ok (.newarray .int, 2) := by decide +kernel
theorem dX12_init_27 : decode cX12_init 27 = .ok (.putfield 16, 3) := by decide +kernel
theorem dX12_init_30 : decode cX12_init 30 = .ok (.aload_n 0, 1) := by decide +kernel
theorem dX12_init_31 : decode cX12_init 31 = .ok (.new 19, 3) := by decide +kernel
theorem dX12_init_34 : decode cX12_init 34 = .ok (.dup, 1) := by decide +kernel
theorem dX12_init_35 : decode cX12_init 35 = .ok (.invokespecial 21, 3) := by decide +kernel
theorem dX12_init_38 : decode cX12_init 38 = .ok (.putfield 22, 3) := by decide +kernel
theorem dX12_init_41 : decode cX12_init 41 = .ok (.aload_n 0, 1) := by decide +kernel
theorem dX12_init_42 : decode cX12_init 42 = .ok (.bipush 8, 2) := by decide +kernel
theorem dX12_init_44 : decode cX12_init 44 = .ok (.newarray .int, 2) := by decide +kernel
theorem dX12_init_46 : decode cX12_init 46 = .ok (.putfield 26, 3) := by decide +kernel
theorem dX12_init_49 : decode cX12_init 49 = .ok (.aload_n 0, 1) := by decide +kernel
theorem dX12_init_50 : decode cX12_init 50 = .ok (.iconst 2, 1) := by decide +kernel
theorem dX12_init_51 : decode cX12_init 51 = .ok (.newarray .int, 2) := by decide +kernel
theorem dX12_init_53 : decode cX12_init 53 = .ok (.putfield 29, 3) := by decide +kernel
theorem dX12_init_56 : decode cX12_init 56 = .ok (.aload_n 0, 1) := by decide +kernel
theorem dX12_init_57 : decode cX12_init 57 = .ok (.bipush 16, 2) := by decide +kernel
theorem dX12_init_59 : decode cX12_init 59 = .ok (.anewarray 32, 3) := by decide +kernel
theorem dX12_init_62 : decode cX12_init 62 = .ok (.putfield 34, 3) := by decide +kernel
theorem dX12_init_65 : decode cX12_init 65 = .ok (.aload_n 0, 1) := by decide +kernel
theorem dX12_init_66 : decode cX12_init 66 = .ok (.bipush 8, 2) := by decide +kernel
theorem dX12_init_68 : decode cX12_init 68 = .ok (.putfield 38, 3) := by decide +kernel
theorem dX12_init_71 : decode cX12_init 71 = .ok (.aload_n 0, 1) := by decide +kernel
theorem dX12_init_72 : decode cX12_init 72 = .ok (.bipush 108, 2) := by decide +kernel
theorem dX12_init_74 : decode cX12_init 74 = .ok (.putfield 42, 3) := by decide +kernel
theorem dX12_init_77 : decode cX12_init 77 = .ok (.aload_n 0, 1) := by decide +kernel
theorem dX12_init_78 : decode cX12_init 78 = .ok (.iconst 4, 1) := by decide +kernel
theorem dX12_init_79 : decode cX12_init 79 = .ok (.putfield 46, 3) := by decide +kernel
theorem dX12_init_82 : decode cX12_init 82 = .ok (.aload_n 0, 1) := by decide +kernel
theorem dX12_init_83 : decode cX12_init 83 = .ok (.iconst 3, 1) := by decide +kernel
theorem dX12_init_84 : decode cX12_init 84 = .ok (.newarray .long, 2) := by decide +kernel
theorem dX12_init_86 : decode cX12_init 86 = .ok (.putfield 49, 3) := by decide +kernel
theorem dX12_init_89 : decode cX12_init 89 = .ok (.aload_n 0, 1) := by decide +kernel
theorem dX12_init_90 : decode cX12_init 90 = .ok (.sipush 128, 3) := by decide +kernel
theorem dX12_init_93 : decode cX12_init 93 = .ok (.newarray .int, 2) := by decide +kernel
theorem dX12_init_95 : decode cX12_init 95 = .ok (.putfield 53, 3) := by decide +kernel
theorem dX12_init_98 : decode cX12_init 98 = .ok (.aload_n 0, 1) := by decide +kernel
theorem dX12_init_99 : decode cX12_init 99 = .ok (.iconst 1, 1) := by decide +kernel
theorem dX12_init_100 : decode cX12_init 100 = .ok (.putfield 56, 3) := by decide +kernel
theorem dX12_init_103 : decode cX12_init 103 = .ok (.aload_n 0, 1) := by decide +kernel
theorem dX12_init_104 : decode cX12_init 104 = .ok (.new 19, 3) := by decide +kernel
theorem dX12_init_107 : decode cX12_init 107 = .ok (.dup, 1) := by decide +kernel
theorem dX12_init_108 : decode cX12_init 108 = .ok (.invokespecial 21, 3) := by decide +kernel
theorem dX12_init_111 : decode cX12_init 111 = .ok (.putfield 60, 3) := by decide +kernel
theorem dX12_init_114 : decode cX12_init 114 = .ok (.aload_n 0, 1) := by decide +kernel
theorem dX12_init_115 : decode cX12_init 115 = .ok (.new 19, 3) := by decide +kernel
theorem dX12_init_118 : decode cX12_init 118 = .ok (.dup, 1) := by decide +kernel
theorem dX12_init_119 : decode cX12_init 119 = .ok (.invokespecial 21, 3) := by decide +kernel
theorem dX12_init_122 : decode cX12_init 122 = .ok (.putfield 63, 3) := by decide +kernel
theorem dX12_init_125 : decode cX12_init 125 = .ok (.iconst 0, 1) := by decide +kernel
theorem dX12_init_126 : decode cX12_init 126 = .ok (.istore_n 1, 1) := by decide +kernel
theorem dX12_init_127 : decode cX12_init 127 = .ok (.iload_n 1, 1) := by decide +kernel
theorem dX12_init_128 : decode cX12_init 128 = .ok (.sipush 128, 3) := by decide +kernel
theorem dX12_init_131 : decode cX12_init 131 = .ok (.if_icmp .ge 16, 3) := by decide +kernel
theorem dX12_init_134 : decode cX12_init 134 = .ok (.aload_n 0, 1) := by decide +kernel
theorem dX12_init_135 : decode cX12_init 135 = .ok (.getfield 53, 3) := by decide +kernel
theorem dX12_init_138 : decode cX12_init 138 = .ok (.iload_n 1, 1) := by decide +kernel
theorem dX12_init_139 : decode cX12_init 139 = .ok (.iconst (-1), 1) := by decide +kernel
theorem dX12_init_140 : decode cX12_init 140 = .ok (.iastore, 1) := by decide +kernel
theorem dX12_init_141 : decode cX12_init 141 = .ok (.iinc 1 1, 3) := by decide +kernel
theorem dX12_init_144 : decode cX12_init 144 = .ok (.goto (-17), 3) := by decide +kernel
theorem dX12_init_147 : decode cX12_init 147 = .ok (.return_, 1) := by decide +kernel
theorem dX12_thrown_0 : decode cX12_thrown 0 = .ok (.aload_n 0, 1) := by decide +kernel
theorem dX12_thrown_1 : decode cX12_thrown 1 = .ok (.getfield 66, 3) := by decide +kernel
theorem dX12_thrown_4 : decode cX12_thrown 4 = .ok (.ireturn, 1) := by decide +kernel
theorem dX12_addFile_0 : decode cX12_addFile 0 = .ok (.aload_n 0, 1) := by decide +kernel
theorem dX12_addFile_1 : decode cX12_addFile 1 = .ok (.iload_n 1, 1) := by decide +kernel
theorem dX12_addFile_2 : decode cX12_addFile 2 = .ok (.i2l, 1) := by decide +kernel
theorem dX12_addFile_3 : decode cX12_addFile 3 = .ok (.lconst 0, 1) := by decide +kernel
theorem dX12_addFile_4 : decode cX12_addFile 4 = .ok (.lconst 1, 1) := by decide +kernel
theorem dX12_addFile_5 : decode cX12_addFile 5 = .ok (.invokestatic 69, 3) := by decide +kernel
theorem dX12_addFile_8 : decode cX12_addFile 8 = .ok (.ifCond .ne 7, 3) := by decide +kernel
theorem dX12_addFile_11 : decode cX12_addFile 11 = .ok (.iconst 1, 1) := by decide +kernel
theorem dX12_addFile_12 : decode cX12_addFile 12 = .ok (.goto 18, 3) := by decide +kernel
theorem dX12_addFile_15 : decode cX12_addFile 15 = .ok (.aload_n 0, 1) := by decide +kernel
theorem dX12_addFile_16 : decode cX12_addFile 16 = .ok (.getfield 29, 3) := by decide +kernel
theorem dX12_addFile_19 : decode cX12_addFile 19 = .ok (.iload_n 1, 1) := by decide +kernel
theorem dX12_addFile_20 : decode cX12_addFile 20 = .ok (.iaload, 1) := by decide +kernel
theorem dX12_addFile_21 : decode cX12_addFile 21 = .ok (.iconst 4, 1) := by decide +kernel
theorem dX12_addFile_22 : decode cX12_addFile 22 = .ok (.if_icmp .ne 7, 3) := by decide +kernel
theorem dX12_addFile_25 : decode cX12_addFile 25 = .ok (.iconst 2, 1) := by decide +kernel
theorem dX12_addFile_26 : decode cX12_addFile 26 = .ok (.goto 4, 3) := by decide +kernel
theorem dX12_addFile_29 : decode cX12_addFile 29 = .ok (.iconst 0, 1) := by decide +kernel
theorem dX12_addFile_30 : decode cX12_addFile 30 = .ok (.putfield 66, 3) := by decide +kernel
theorem dX12_addFile_33 : decode cX12_addFile 33 = .ok (.aload_n 0, 1) := by decide +kernel
theorem dX12_addFile_34 : decode cX12_addFile 34 = .ok (.getfield 66, 3) := by decide +kernel
theorem dX12_addFile_37 : decode cX12_addFile 37 = .ok (.ifCond .le 5, 3) := by decide +kernel
theorem dX12_addFile_40 : decode cX12_addFile 40 = .ok (.iconst 0, 1) := by decide +kernel
theorem dX12_addFile_41 : decode cX12_addFile 41 = .ok (.ireturn, 1) := by decide +kernel
theorem dX12_addFile_42 : decode cX12_addFile 42 = .ok (.aload_n 0, 1) := by decide +kernel
theorem dX12_addFile_43 : decode cX12_addFile 43 = .ok (.getfield 22, 3) := by decide +kernel
theorem dX12_addFile_46 : decode cX12_addFile 46 = .ok (.bipush 64, 2) := by decide +kernel
theorem dX12_addFile_48 : decode cX12_addFile 48 = .ok (.iload_n 1, 1) := by decide +kernel
theorem dX12_addFile_49 : decode cX12_addFile 49 = .ok (.imul, 1) := by decide +kernel
theorem dX12_addFile_50 : decode cX12_addFile 50 = .ok (.bipush 16, 2) := by decide +kernel
theorem dX12_addFile_52 : decode cX12_addFile 52 = .ok (.aload_n 0, 1) := by decide +kernel
theorem dX12_addFile_53 : decode cX12_addFile 53 = .ok (.getfield 29, 3) := by decide +kernel
theorem dX12_addFile_56 : decode cX12_addFile 56 = .ok (.iload_n 1, 1) := by decide +kernel
theorem dX12_addFile_57 : decode cX12_addFile 57 = .ok (.iaload, 1) := by decide +kernel
theorem dX12_addFile_58 : decode cX12_addFile 58 = .ok (.imul, 1) := by decide +kernel
theorem dX12_addFile_59 : decode cX12_addFile 59 = .ok (.iadd, 1) := by decide +kernel
theorem dX12_addFile_60 : decode cX12_addFile 60 = .ok (.invokestatic 73, 3) := by decide +kernel
theorem dX12_addFile_63 : decode cX12_addFile 63 = .ok (.invokevirtual 79, 3) := by decide +kernel
theorem dX12_addFile_66 : decode cX12_addFile 66 = .ok (.pop, 1) := by decide +kernel
theorem dX12_addFile_67 : decode cX12_addFile 67 = .ok (.aload_n 0, 1) := by decide +kernel
theorem dX12_addFile_68 : decode cX12_addFile 68 = .ok (.getfield 29, 3) := by decide +kernel
theorem dX12_addFile_71 : decode cX12_addFile 71 = .ok (.iload_n 1, 1) := by decide +kernel
theorem dX12_addFile_72 : decode cX12_addFile 72 = .ok (.dup2, 1) := by decide +kernel
theorem dX12_addFile_73 : decode cX12_addFile 73 = .ok (.iaload, 1) := by decide +kernel
theorem dX12_addFile_74 : decode cX12_addFile 74 = .ok (.iconst 1, 1) := by decide +kernel
theorem dX12_addFile_75 : decode cX12_addFile 75 = .ok (.iadd, 1) := by decide +kernel
theorem dX12_addFile_76 : decode cX12_addFile 76 = .ok (.iastore, 1) := by decide +kernel
theorem dX12_addFile_77 : decode cX12_addFile 77 = .ok (.aload_n 0, 1) := by decide +kernel
theorem dX12_addFile_78 : decode cX12_addFile 78 = .ok (.getfield 26, 3) := by decide +kernel
theorem dX12_addFile_81 : decode cX12_addFile 81 = .ok (.aload_n 0, 1) := by decide +kernel
theorem dX12_addFile_82 : decode cX12_addFile 82 = .ok (.getfield 22, 3) := by decide +kernel
theorem dX12_addFile_85 : decode cX12_addFile 85 = .ok (.invokevirtual 83, 3) := by decide +kernel
theorem dX12_addFile_88 : decode cX12_addFile 88 = .ok (.iconst 1, 1) := by decide +kernel
theorem dX12_addFile_89 : decode cX12_addFile 89 = .ok (.isub, 1) := by decide +kernel
theorem dX12_addFile_90 : decode cX12_addFile 90 = .ok (.bipush (-9), 2) := by decide +kernel
theorem dX12_addFile_92 : decode cX12_addFile 92 = .ok (.iastore, 1) := by decide +kernel
theorem dX12_addFile_93 : decode cX12_addFile 93 = .ok (.aload_n 0, 1) := by decide +kernel
theorem dX12_addFile_94 : decode cX12_addFile 94 = .ok (.getfield 22, 3) := by decide +kernel
theorem dX12_addFile_97 : decode cX12_addFile 97 = .ok (.invokevirtual 83, 3) := by decide +kernel
theorem dX12_addFile_100 : decode cX12_addFile 100 = .ok (.iconst 1, 1) := by decide +kernel
theorem dX12_addFile_101 : decode cX12_addFile 101 = .ok (.isub, 1) := by decide +kernel
theorem dX12_addFile_102 : decode cX12_addFile 102 = .ok (.ireturn, 1) := by decide +kernel
theorem dX12_setFrames_0 : decode cX12_setFrames 0 = .ok (.iconst 0, 1) := by decide +kernel
theorem dX12_setFrames_1 : decode cX12_setFrames 1 = .ok (.istore_n 2, 1) := by decide +kernel
theorem dX12_setFrames_2 : decode cX12_setFrames 2 = .ok (.iconst 0, 1) := by decide +kernel
theorem dX12_setFrames_3 : decode cX12_setFrames 3 = .ok (.iload_n 1, 1) := by decide +kernel
theorem dX12_setFrames_4 : decode cX12_setFrames 4 = .ok (.invokestatic 87, 3) := by decide +kernel
theorem dX12_setFrames_7 : decode cX12_setFrames 7 = .ok (.istore_n 3, 1) := by decide +kernel
theorem dX12_setFrames_8 : decode cX12_setFrames 8 = .ok (.iload_n 3, 1) := by decide +kernel
theorem dX12_setFrames_9 : decode cX12_setFrames 9 = .ok (.bipush 16, 2) := by decide +kernel
theorem dX12_setFrames_11 : decode cX12_setFrames 11 = .ok (.if_icmp .ge 40, 3) := by decide +kernel
theorem dX12_setFrames_14 : decode cX12_setFrames 14 = .ok (.iload_n 2, 1) := by decide +kernel
theorem dX12_setFrames_15 : decode cX12_setFrames 15 = .ok (.ifCond .ne 24, 3) := by decide +kernel
theorem dX12_setFrames_18 : decode cX12_setFrames 18 = .ok (.aload_n 0, 1) := by decide +kernel
theorem dX12_setFrames_19 : decode cX12_setFrames 19 = .ok (.getfield 34, 3) := by decide +kernel
theorem dX12_setFrames_22 : decode cX12_setFrames 22 = .ok (.iload_n 3, 1) := by decide +kernel
theorem dX12_setFrames_23 : decode cX12_setFrames 23 = .ok (.aaload, 1) := by decide +kernel
theorem dX12_setFrames_24 : decode cX12_setFrames 24 = .ok (.ifnull 19, 3) := by decide +kernel
theorem dX12_setFrames_27 : decode cX12_setFrames 27 = .ok (.aload_n 0, 1) := by decide +kernel
theorem dX12_setFrames_28 : decode cX12_setFrames 28 = .ok (.getfield 34, 3) := by decide +kernel
theorem dX12_setFrames_31 : decode cX12_setFrames 31 = .ok (.iload_n 3, 1) := by decide +kernel
theorem dX12_setFrames_32 : decode cX12_setFrames 32 = .ok (.aaload, 1) := by decide +kernel
theorem dX12_setFrames_33 : decode cX12_setFrames 33 = .ok (.invokevirtual 93, 3) := by decide +kernel
theorem dX12_setFrames_36 : decode cX12_setFrames 36 = .ok (.ifCond .ne 7, 3) := by decide +kernel
theorem dX12_setFrames_39 : decode cX12_setFrames 39 = .ok (.iconst 1, 1) := by decide +kernel
theorem dX12_setFrames_40 : decode cX12_setFrames 40 = .ok (.goto 4, 3) := by decide +kernel
theorem dX12_setFrames_43 : decode cX12_setFrames 43 = .ok (.iconst 0, 1) := by decide +kernel
theorem dX12_setFrames_44 : decode cX12_setFrames 44 = .ok (.istore_n 2, 1) := by decide +kernel
theorem dX12_setFrames_45 : decode cX12_setFrames 45 = .ok (.iinc 3 1, 3) := by decide +kernel
theorem dX12_setFrames_48 : decode cX12_setFrames 48 = .ok (.goto (-40), 3) := by decide +kernel
theorem dX12_setFrames_51 : decode cX12_setFrames 51 = .ok (.aload_n 0, 1) := by decide +kernel
theorem dX12_setFrames_52 : decode cX12_setFrames 52 = .ok (.iload_n 1, 1) := by decide +kernel
theorem dX12_setFrames_53 : decode cX12_setFrames 53 = .ok (.i2l, 1) := by decide +kernel
theorem dX12_setFrames_54 : decode cX12_setFrames 54 = .ok (.lconst 1, 1) := by decide +kernel
theorem dX12_setFrames_55 : decode cX12_setFrames 55 = .ok (.ldc2_w 97, 3) := by decide +kernel
theorem dX12_setFrames_58 : decode cX12_setFrames 58 = .ok (.invokestatic 69, 3) := by decide +kernel
theorem dX12_setFrames_61 : decode cX12_setFrames 61 = .ok (.ifCond .ne 7, 3) := by decide +kernel
theorem dX12_setFrames_64 : decode cX12_setFrames 64 = .ok (.iconst 1, 1) := by decide +kernel
theorem dX12_setFrames_65 : decode cX12_setFrames 65 = .ok (.goto 23, 3) := by decide +kernel
theorem dX12_setFrames_68 : decode cX12_setFrames 68 = .ok (.aload_n 0, 1) := by decide +kernel
theorem dX12_setFrames_69 : decode cX12_setFrames 69 = .ok (.getfield 56, 3) := by decide +kernel
theorem dX12_setFrames_72 : decode cX12_setFrames 72 = .ok (.ifCond .ne 7, 3) := by decide +kernel
theorem dX12_setFrames_75 : decode cX12_setFrames 75 = .ok (.iconst 2, 1) := by decide +kernel
theorem dX12_setFrames_76 : decode cX12_setFrames 76 = .ok (.goto 12, 3) := by decide +kernel
theorem dX12_setFrames_79 : decode cX12_setFrames 79 = .ok (.iload_n 2, 1) := by decide +kernel
theorem dX12_setFrames_80 : decode cX12_setFrames 80 = .ok (.ifCond .eq 7, 3) := by decide +kernel
theorem dX12_setFrames_83 : decode cX12_setFrames 83 = .ok (.iconst 3, 1) := by decide +kernel
theorem dX12_setFrames_84 : decode cX12_setFrames 84 = .ok (.goto 4, 3) := by decide +kernel
theorem dX12_setFrames_87 : decode cX12_setFrames 87 = .ok (.iconst 0, 1) := by decide +kernel
theorem dX12_setFrames_88 : decode cX12_setFrames 88 = .ok (.putfield 66, 3) := by decide +kernel
theorem dX12_setFrames_91 : decode cX12_setFrames 91 = .ok (.aload_n 0, 1) := by decide +kernel
theorem dX12_setFrames_92 : decode cX12_setFrames 92 = .ok (.getfield 66, 3) := by decide +kernel
theorem dX12_setFrames_95 : decode cX12_setFrames 95 = .ok (.ifCond .le 5, 3) := by decide +kernel
theorem dX12_setFrames_98 : decode cX12_setFrames 98 = .ok (.iconst 0, 1) := by decide +kernel
theorem dX12_setFrames_99 : decode cX12_setFrames 99 = .ok (.ireturn, 1) := by decide +kernel
theorem dX12_setFrames_100 : decode cX12_setFrames 100 = .ok (.bipush 15, 2) := by decide +kernel
theorem dX12_setFrames_102 : decode cX12_setFrames 102 = .ok (.istore_n 3, 1) := by decide +kernel
theorem dX12_setFrames_103 : decode cX12_setFrames 103 = .ok (.iload_n 3, 1) := by decide +kernel
theorem dX12_setFrames_104 : decode cX12_setFrames 104 = .ok (.iload_n 1, 1) := by decide +kernel
theorem dX12_setFrames_105 : decode cX12_setFrames 105 = .ok (.if_icmp .lt 28, 3) := by decide +kernel
theorem dX12_setFrames_108 : decode cX12_setFrames 108 = .ok (.aload_n 0, 1) := by decide +kernel
theorem dX12_setFrames_109 : decode cX12_setFrames 109 = .ok (.getfield 34, 3) := by decide +kernel
theorem dX12_setFrames_112 : decode cX12_setFrames 112 = .ok (.iload_n 3, 1) := by decide +kernel
theorem dX12_setFrames_113 : decode cX12_setFrames 113 = .ok (.aaload, 1) := by decide +kernel
theorem dX12_setFrames_114 : decode cX12_setFrames 114 = .ok (.ifnull 13, 3) := by decide +kernel
theorem dX12_setFrames_117 : decode cX12_setFrames 117 = .ok (.aload_n 0, 1) := by decide +kernel
theorem dX12_setFrames_118 : decode cX12_setFrames 118 = .ok (.iload_n 3, 1) := by decide +kernel
theorem dX12_setFrames_119 : decode cX12_setFrames 119 = .ok (.invokevirtual 99, 3) := by decide +kernel
theorem dX12_setFrames_122 : decode cX12_setFrames 122 = .ok (.ifCond .ne 5, 3) := by decide +kernel
theorem dX12_setFrames_125 : decode cX12_setFrames 125 = .ok (.iconst (-1), 1) := by decide +kernel
theorem dX12_setFrames_126 : decode cX12_setFrames 126 = .ok (.ireturn, 1) := by decide +kernel
theorem dX12_setFrames_127 : decode cX12_setFrames 127 = .ok (.iinc 3 (-1), 3) := by decide +kernel
theorem dX12_setFrames_130 : decode cX12_setFrames 130 = .ok (.goto (-27), 3) := by decide +kernel
theorem dX12_setFrames_133 : decode cX12_setFrames 133 = .ok (.aload_n 0, 1) := by decide +kernel
theorem dX12_setFrames_134 : decode cX12_setFrames 134 = .ok (.getfield 38, 3) := by decide +kernel
theorem dX12_setFrames_137 : decode cX12_setFrames 137 = .ok (.istore_n 3, 1) := by decide +kernel
theorem dX12_setFrames_138 : decode cX12_setFrames 138 = .ok (.aload_n 0, 1) := by decide +kernel
theorem dX12_setFrames_139 : decode cX12_setFrames 139 = .ok (.iload_n 1, 1) := by decide +kernel
theorem dX12_setFrames_140 : decode cX12_setFrames 140 = .ok (.putfield 38, 3) := by decide +kernel
theorem dX12_setFrames_143 : decode cX12_setFrames 143 = .ok (.aload_n 0, 1) := by decide +kernel
theorem dX12_setFrames_144 : decode cX12_setFrames 144 = .ok (.aload_n 0, 1) := by decide +kernel
theorem dX12_setFrames_145 : decode cX12_setFrames 145 = .ok (.getfield 103, 3) := by decide +kernel
theorem dX12_setFrames_148 : decode cX12_setFrames 148 = .ok (.iload_n 1, 1) := by decide +kernel
theorem dX12_setFrames_149 : decode cX12_setFrames 149 = .ok (.if_icmp .lt 7, 3) := by decide +kernel
theorem dX12_setFrames_152 : decode cX12_setFrames 152 = .ok (.iconst 0, 1) := by decide +kernel
theorem dX12_setFrames_153 : decode cX12_setFrames 153 = .ok (.goto 7, 3) := by decide +kernel
theorem dX12_setFrames_156 : decode cX12_setFrames 156 = .ok (.aload_n 0, 1) := by decide +kernel
theorem dX12_setFrames_157 : decode cX12_setFrames 157 = .ok (.getfield 103, 3) := by decide +kernel
theorem dX12_setFrames_160 : decode cX12_setFrames 160 = .ok (.putfield 103, 3) := by decide +kernel
theorem dX12_setFrames_163 : decode cX12_setFrames 163 = .ok (.iload_n 3, 1) := by decide +kernel
theorem dX12_setFrames_164 : decode cX12_setFrames 164 = .ok (.ireturn, 1) := by decide +kernel
theorem dX12_setPolicy_0 : decode cX12_setPolicy 0 = .ok (.aload_n 0, 1) := by decide +kernel
theorem dX12_setPolicy_1 : decode cX12_setPolicy 1 = .ok (.iload_n 1, 1) := by decide +kernel
theorem dX12_setPolicy_2 : decode cX12_setPolicy 2 = .ok (.bipush 108, 2) := by decide +kernel
theorem dX12_setPolicy_4 : decode cX12_setPolicy 4 = .ok (.if_icmp .eq 15, 3) := by decide +kernel
theorem dX12_setPolicy_7 : decode cX12_setPolicy 7 = .ok (.iload_n 1, 1) := by decide +kernel
theorem dX12_setPolicy_8 : decode cX12_setPolicy 8 = .ok (.bipush 102, 2) := by decide +kernel
theorem dX12_setPolicy_10 : decode cX12_setPolicy 10 = .ok (.if_icmp .eq 9, 3) := by decide +kernel
theorem dX12_setPolicy_13 : decode cX12_setPolicy 13 = .ok (.iload_n 1, 1) := by decide +kernel
theorem dX12_setPolicy_14 : decode cX12_setPolicy 14 = .ok (.bipush 99, 2) := by decide +kernel
theorem dX12_setPolicy_16 : decode cX12_setPolicy 16 = .ok (.if_icmp .ne 7, 3) := by decide +kernel
theorem dX12_setPolicy_19 : decode cX12_setPolicy 19 = .ok (.iconst 0, 1) := by decide +kernel
theorem dX12_setPolicy_20 : decode cX12_setPolicy 20 = .ok (.goto 4, 3) := by decide +kernel
theorem dX12_setPolicy_23 : decode cX12_setPolicy 23 = .ok (.iconst 1, 1) := by decide +kernel
theorem dX12_setPolicy_24 : decode cX12_setPolicy 24 = .ok (.putfield 66, 3) := by decide +kernel
theorem dX12_setPolicy_27 : decode cX12_setPolicy 27 = .ok (.aload_n 0, 1) := by decide +kernel
theorem dX12_setPolicy_28 : decode cX12_setPolicy 28 = .ok (.getfield 66, 3) := by decide +kernel
theorem dX12_setPolicy_31 : decode cX12_setPolicy 31 = .ok (.ifCond .le 6, 3) := by decide +kernel
theorem dX12_setPolicy_34 : decode cX12_setPolicy 34 = .ok (.bipush 32, 2) := by decide +kernel
theorem dX12_setPolicy_36 : decode cX12_setPolicy 36 = .ok (.ireturn, 1) := by decide +kernel
theorem dX12_setPolicy_37 : decode cX12_setPolicy 37 = .ok (.aload_n 0, 1) := by decide +kernel
theorem dX12_setPolicy_38 : decode cX12_setPolicy 38 = .ok (.getfield 42, 3) := by decide +kernel
theorem dX12_setPolicy_41 : decode cX12_setPolicy 41 = .ok (.istore_n 2, 1) := by decide +kernel
theorem dX12_setPolicy_42 : decode cX12_setPolicy 42 = .ok (.aload_n 0, 1) := by decide +kernel
theorem dX12_setPolicy_43 : decode cX12_setPolicy 43 = .ok (.iload_n 1, 1) := by decide +kernel
theorem dX12_setPolicy_44 : decode cX12_setPolicy 44 = .ok (.putfield 42, 3) := by decide +kernel
theorem dX12_setPolicy_47 : decode cX12_setPolicy 47 = .ok (.iload_n 2, 1) := by decide +kernel
theorem dX12_setPolicy_48 : decode cX12_setPolicy 48 = .ok (.ireturn, 1) := by decide +kernel
theorem dX12_setLimit_0 : decode cX12_setLimit 0 = .ok (.aload_n 0, 1) := by decide +kernel
theorem dX12_setLimit_1 : decode cX12_setLimit 1 = .ok (.iload_n 1, 1) := by decide +kernel
theorem dX12_setLimit_2 : decode cX12_setLimit 2 = .ok (.i2l, 1) := by decide +kernel
theorem dX12_setLimit_3 : decode cX12_setLimit 3 = .ok (.lconst 1, 1) := by decide +kernel
theorem dX12_setLimit_4 : decode cX12_setLimit 4 = .ok (.ldc2_w 97, 3) := by decide +kernel
theorem dX12_setLimit_7 : decode cX12_setLimit 7 = .ok (.invokestatic 69, 3) := by decide +kernel
theorem dX12_setLimit_10 : decode cX12_setLimit 10 = .ok (.ifCond .eq 7, 3) := by decide +kernel
theorem dX12_setLimit_13 : decode cX12_setLimit 13 = .ok (.iconst 0, 1) := by decide +kernel
theorem dX12_setLimit_14 : decode cX12_setLimit 14 = .ok (.goto 4, 3) := by decide +kernel
theorem dX12_setLimit_17 : decode cX12_setLimit 17 = .ok (.iconst 1, 1) := by decide +kernel
theorem dX12_setLimit_18 : decode cX12_setLimit 18 = .ok (.putfield 66, 3) := by decide +kernel
theorem dX12_setLimit_21 : decode cX12_setLimit 21 = .ok (.aload_n 0, 1) := by decide +kernel
theorem dX12_setLimit_22 : decode cX12_setLimit 22 = .ok (.getfield 66, 3) := by decide +kernel
theorem dX12_setLimit_25 : decode cX12_setLimit 25 = .ok (.ifCond .le 5, 3) := by decide +kernel
theorem dX12_setLimit_28 : decode cX12_setLimit 28 = .ok (.iconst 0, 1) := by decide +kernel
theorem dX12_setLimit_29 : decode cX12_setLimit 29 = .ok (.ireturn, 1) := by decide +kernel
theorem dX12_setLimit_30 : decode cX12_setLimit 30 = .ok (.aload_n 0, 1) := by decide +kernel
theorem dX12_setLimit_31 : decode cX12_setLimit 31 = .ok (.getfield 46, 3) := by decide +kernel
theorem dX12_setLimit_34 : decode cX12_setLimit 34 = .ok (.istore_n 2, 1) := by decide +kernel
theorem dX12_setLimit_35 : decode cX12_setLimit 35 = .ok (.aload_n 0, 1) := by decide +kernel
theorem dX12_setLimit_36 : decode cX12_setLimit 36 = .ok (.iload_n 1, 1) := by decide +kernel
theorem dX12_setLimit_37 : decode cX12_setLimit 37 = .ok (.putfield 46, 3) := by decide +kernel
theorem dX12_setLimit_40 : decode cX12_setLimit 40 = .ok (.iload_n 2, 1) := by decide +kernel
theorem dX12_setLimit_41 : decode cX12_setLimit 41 = .ok (.ireturn, 1) := by decide +kernel
theorem dX12_setWindow_0 : decode cX12_setWindow 0 = .ok (.aload_n 0, 1) := by decide +kernel
theorem dX12_setWindow_1 : decode cX12_setWindow 1 = .ok (.iload_n 1, 1) := by decide +kernel
theorem dX12_setWindow_2 : decode cX12_setWindow 2 = .ok (.i2l, 1) := by decide +kernel
theorem dX12_setWindow_3 : decode cX12_setWindow 3 = .ok (.lconst 0, 1) := by decide +kernel
theorem dX12_setWindow_4 : decode cX12_setWindow 4 = .ok (.ldc2_w 106, 3) := by decide +kernel
theorem dX12_setWindow_7 : decode cX12_setWindow 7 = .ok (.invokestatic 69, 3) := by decide +kernel
theorem dX12_setWindow_10 : decode cX12_setWindow 10 = .ok (.ifCond .eq 7, 3) := by decide +kernel
theorem dX12_setWindow_13 : decode cX12_setWindow 13 = .ok (.iconst 0, 1) := by decide +kernel
theorem dX12_setWindow_14 : decode cX12_setWindow 14 = .ok (.goto 4, 3) := by decide +kernel
theorem dX12_setWindow_17 : decode cX12_setWindow 17 = .ok (.iconst 1, 1) := by decide +kernel
theorem dX12_setWindow_18 : decode cX12_setWindow 18 = .ok (.putfield 66, 3) := by decide +kernel
theorem dX12_setWindow_21 : decode cX12_setWindow 21 = .ok (.aload_n 0, 1) := by decide +kernel
theorem dX12_setWindow_22 : decode cX12_setWindow 22 = .ok (.getfield 66, 3) := by decide +kernel
theorem dX12_setWindow_25 : decode cX12_setWindow 25 = .ok (.ifCond .le 5, 3) := by decide +kernel
theorem dX12_setWindow_28 : decode cX12_setWindow 28 = .ok (.iconst 0, 1) := by decide +kernel
theorem dX12_setWindow_29 : decode cX12_setWindow 29 = .ok (.ireturn, 1) := by decide +kernel
theorem dX12_setWindow_30 : decode cX12_setWindow 30 = .ok (.aload_n 0, 1) := by decide +kernel
theorem dX12_setWindow_31 : decode cX12_setWindow 31 = .ok (.getfield 108, 3) := by decide +kernel
theorem dX12_setWindow_34 : decode cX12_setWindow 34 = .ok (.istore_n 2, 1) := by decide +kernel
theorem dX12_setWindow_35 : decode cX12_setWindow 35 = .ok (.aload_n 0, 1) := by decide +kernel
theorem dX12_setWindow_36 : decode cX12_setWindow 36 = .ok (.iload_n 1, 1) := by decide +kernel
theorem dX12_setWindow_37 : decode cX12_setWindow 37 = .ok (.putfield 108, 3) := by decide +kernel
theorem dX12_setWindow_40 : decode cX12_setWindow 40 = .ok (.iload_n 2, 1) := by decide +kernel
theorem dX12_setWindow_41 : decode cX12_setWindow 41 = .ok (.ireturn, 1) := by decide +kernel
theorem dX12_setTenant_0 : decode cX12_setTenant 0 = .ok (.aload_n 0, 1) := by decide +kernel
theorem dX12_setTenant_1 : decode cX12_setTenant 1 = .ok (.iload_n 1, 1) := by decide +kernel
theorem dX12_setTenant_2 : decode cX12_setTenant 2 = .ok (.i2l, 1) := by decide +kernel
theorem dX12_setTenant_3 : decode cX12_setTenant 3 = .ok (.lconst 0, 1) := by decide +kernel
theorem dX12_setTenant_4 : decode cX12_setTenant 4 = .ok (.ldc2_w 111, 3) := by decide +kernel
theorem dX12_setTenant_7 : decode cX12_setTenant 7 = .ok (.invokestatic 69, 3) := by decide +kernel
theorem dX12_setTenant_10 : decode cX12_setTenant 10 = .ok (.ifCond .eq 7, 3) := by decide +kernel
theorem dX12_setTenant_13 : decode cX12_setTenant 13 = .ok (.iconst 0, 1) := by decide +kernel
theorem dX12_setTenant_14 : decode cX12_setTenant 14 = .ok (.goto 4, 3) := by decide +kernel
theorem dX12_setTenant_17 : decode cX12_setTenant 17 = .ok (.iconst 1, 1) := by decide +kernel
theorem dX12_setTenant_18 : decode cX12_setTenant 18 = .ok (.putfield 66, 3) := by decide +kernel
theorem dX12_setTenant_21 : decode cX12_setTenant 21 = .ok (.aload_n 0, 1) := by decide +kernel
theorem dX12_setTenant_22 : decode cX12_setTenant 22 = .ok (.getfield 66, 3) := by decide +kernel
theorem dX12_setTenant_25 : decode cX12_setTenant 25 = .ok (.ifCond .le 5, 3) := by decide +kernel
theorem dX12_setTenant_28 : decode cX12_setTenant 28 = .ok (.iconst 0, 1) := by decide +kernel
theorem dX12_setTenant_29 : decode cX12_setTenant 29 = .ok (.ireturn, 1) := by decide +kernel
theorem dX12_setTenant_30 : decode cX12_setTenant 30 = .ok (.aload_n 0, 1) := by decide +kernel
theorem dX12_setTenant_31 : decode cX12_setTenant 31 = .ok (.getfield 113, 3) := by decide +kernel
theorem dX12_setTenant_34 : decode cX12_setTenant 34 = .ok (.istore_n 2, 1) := by decide +kernel
theorem dX12_setTenant_35 : decode cX12_setTenant 35 = .ok (.aload_n 0, 1) := by decide +kernel
theorem dX12_setTenant_36 : decode cX12_setTenant 36 = .ok (.iload_n 1, 1) := by decide +kernel
theorem dX12_setTenant_37 : decode cX12_setTenant 37 = .ok (.putfield 113, 3) := by decide +kernel
theorem dX12_setTenant_40 : decode cX12_setTenant 40 = .ok (.iload_n 2, 1) := by decide +kernel
theorem dX12_setTenant_41 : decode cX12_setTenant 41 = .ok (.ireturn, 1) := by decide +kernel
theorem dX12_costs_0 : decode cX12_costs 0 = .ok (.iload_n 1, 1) := by decide +kernel
theorem dX12_costs_1 : decode cX12_costs 1 = .ok (.bipush 64, 2) := by decide +kernel
theorem dX12_costs_3 : decode cX12_costs 3 = .ok (.if_icmp .ge 35, 3) := by decide +kernel
theorem dX12_costs_6 : decode cX12_costs 6 = .ok (.aload_n 0, 1) := by decide +kernel
theorem dX12_costs_7 : decode cX12_costs 7 = .ok (.getfield 49, 3) := by decide +kernel
theorem dX12_costs_10 : decode cX12_costs 10 = .ok (.aload_n 0, 1) := by decide +kernel
theorem dX12_costs_11 : decode cX12_costs 11 = .ok (.getfield 113, 3) := by decide +kernel
theorem dX12_costs_14 : decode cX12_costs 14 = .ok (.dup2, 1) := by decide +kernel
theorem dX12_costs_15 : decode cX12_costs 15 = .ok (.laload, 1) := by decide +kernel
theorem dX12_costs_16 : decode cX12_costs 16 = .ok (.iconst 1, 1) := by decide +kernel
theorem dX12_costs_17 : decode cX12_costs 17 = .ok (.iload_n 1, 1) := by decide +kernel
theorem dX12_costs_18 : decode cX12_costs 18 = .ok (.aload_n 0, 1) := by decide +kernel
theorem dX12_costs_19 : decode cX12_costs 19 = .ok (.getfield 116, 3) := by decide +kernel
theorem dX12_costs_22 : decode cX12_costs 22 = .ok (.isub, 1) := by decide +kernel
theorem dX12_costs_23 : decode cX12_costs 23 = .ok (.invokestatic 119, 3) := by decide +kernel
theorem dX12_costs_26 : decode cX12_costs 26 = .ok (.iadd, 1) := by decide +kernel
theorem dX12_costs_27 : decode cX12_costs 27 = .ok (.i2l, 1) := by decide +kernel
theorem dX12_costs_28 : decode cX12_costs 28 = .ok (.ladd, 1) := by decide +kernel
theorem dX12_costs_29 : decode cX12_costs 29 = .ok (.lastore, 1) := by decide +kernel
theorem dX12_costs_30 : decode cX12_costs 30 = .ok (.aload_n 0, 1) := by decide +kernel
theorem dX12_costs_31 : decode cX12_costs 31 = .ok (.iload_n 1, 1) := by decide +kernel
theorem dX12_costs_32 : decode cX12_costs 32 = .ok (.putfield 116, 3) := by decide +kernel
theorem dX12_costs_35 : decode cX12_costs 35 = .ok (.goto 16, 3) := by decide +kernel
theorem dX12_costs_38 : decode cX12_costs 38 = .ok (.aload_n 0, 1) := by decide +kernel
theorem dX12_costs_39 : decode cX12_costs 39 = .ok (.getfield 49, 3) := by decide +kernel
theorem dX12_costs_42 : decode cX12_costs 42 = .ok (.aload_n 0, 1) := by decide +kernel
theorem dX12_costs_43 : decode cX12_costs 43 = .ok (.getfield 113, 3) := by decide +kernel
theorem dX12_costs_46 : decode cX12_costs 46 = .ok (.dup2, 1) := by decide +kernel
theorem dX12_costs_47 : decode cX12_costs 47 = .ok (.laload, 1) := by decide +kernel
theorem dX12_costs_48 : decode cX12_costs 48 = .ok (.lconst 1, 1) := by decide +kernel
theorem dX12_costs_49 : decode cX12_costs 49 = .ok (.ladd, 1) := by decide +kernel
theorem dX12_costs_50 : decode cX12_costs 50 = .ok (.lastore, 1) := by decide +kernel
theorem dX12_costs_51 : decode cX12_costs 51 = .ok (.return_, 1) := by decide +kernel
theorem dX12_falls_0 : decode cX12_falls 0 = .ok (.aload_n 0, 1) := by decide +kernel
theorem dX12_falls_1 : decode cX12_falls 1 = .ok (.iconst 0, 1) := by decide +kernel
theorem dX12_falls_2 : decode cX12_falls 2 = .ok (.putfield 56, 3) := by decide +kernel
theorem dX12_falls_5 : decode cX12_falls 5 = .ok (.aload_n 0, 1) := by decide +kernel
theorem dX12_falls_6 : decode cX12_falls 6 = .ok (.iconst 0, 1) := by decide +kernel
theorem dX12_falls_7 : decode cX12_falls 7 = .ok (.putfield 123, 3) := by decide +kernel
theorem dX12_falls_10 : decode cX12_falls 10 = .ok (.aload_n 0, 1) := by decide +kernel
theorem dX12_falls_11 : decode cX12_falls 11 = .ok (.iconst 0, 1) := by decide +kernel
theorem dX12_falls_12 : decode cX12_falls 12 = .ok (.putfield 126, 3) := by decide +kernel
theorem dX12_falls_15 : decode cX12_falls 15 = .ok (.iconst 0, 1) := by decide +kernel
theorem dX12_falls_16 : decode cX12_falls 16 = .ok (.istore_n 1, 1) := by decide +kernel
theorem dX12_falls_17 : decode cX12_falls 17 = .ok (.iload_n 1, 1) := by decide +kernel
theorem dX12_falls_18 : decode cX12_falls 18 = .ok (.bipush 16, 2) := by decide +kernel
theorem dX12_falls_20 : decode cX12_falls 20 = .ok (.if_icmp .ge 16, 3) := by decide +kernel
theorem dX12_falls_23 : decode cX12_falls 23 = .ok (.aload_n 0, 1) := by decide +kernel
theorem dX12_falls_24 : decode cX12_falls 24 = .ok (.getfield 34, 3) := by decide +kernel
theorem dX12_falls_27 : decode cX12_falls 27 = .ok (.iload_n 1, 1) := by decide +kernel
theorem dX12_falls_28 : decode cX12_falls 28 = .ok (.aconst_null, 1) := by decide +kernel
theorem dX12_falls_29 : decode cX12_falls 29 = .ok (.aastore, 1) := by decide +kernel
theorem dX12_falls_30 : decode cX12_falls 30 = .ok (.iinc 1 1, 3) := by decide +kernel
theorem dX12_falls_33 : decode cX12_falls 33 = .ok (.goto (-16), 3) := by decide +kernel
theorem dX12_falls_36 : decode cX12_falls 36 = .ok (.return_, 1) := by decide +kernel
theorem dX12_fails_0 : decode cX12_fails 0 = .ok (.aload_n 0, 1) := by decide +kernel
theorem dX12_fails_1 : decode cX12_fails 1 = .ok (.getfield 123, 3) := by decide +kernel
theorem dX12_fails_4 : decode cX12_fails 4 = .ok (.ifCond .ne 5, 3) := by decide +kernel
theorem dX12_fails_7 : decode cX12_fails 7 = .ok (.iconst 0, 1) := by decide +kernel
theorem dX12_fails_8 : decode cX12_fails 8 = .ok (.ireturn, 1) := by decide +kernel
theorem dX12_fails_9 : decode cX12_fails 9 = .ok (.aload_n 0, 1) := by decide +kernel
theorem dX12_fails_10 : decode cX12_fails 10 = .ok (.dup, 1) := by decide +kernel
theorem dX12_fails_11 : decode cX12_fails 11 = .ok (.getfield 123, 3) := by decide +kernel
theorem dX12_fails_14 : decode cX12_fails 14 = .ok (.iconst 1, 1) := by decide +kernel
theorem dX12_fails_15 : decode cX12_fails 15 = .ok (.isub, 1) := by decide +kernel
theorem dX12_fails_16 : decode cX12_fails 16 = .ok (.putfield 123, 3) := by decide +kernel
theorem dX12_fails_19 : decode cX12_fails 19 = .ok (.aload_n 0, 1) := by decide +kernel
theorem dX12_fails_20 : decode cX12_fails 20 = .ok (.getfield 123, 3) := by decide +kernel
theorem dX12_fails_23 : decode cX12_fails 23 = .ok (.ifCond .ne 7, 3) := by decide +kernel
theorem dX12_fails_26 : decode cX12_fails 26 = .ok (.aload_n 0, 1) := by decide +kernel
theorem dX12_fails_27 : decode cX12_fails 27 = .ok (.invokevirtual 129, 3) := by decide +kernel
theorem dX12_fails_30 : decode cX12_fails 30 = .ok (.aload_n 0, 1) := by decide +kernel
theorem dX12_fails_31 : decode cX12_fails 31 = .ok (.getfield 56, 3) := by decide +kernel
theorem dX12_fails_34 : decode cX12_fails 34 = .ok (.ifCond .ne 7, 3) := by decide +kernel
theorem dX12_fails_37 : decode cX12_fails 37 = .ok (.iconst 1, 1) := by decide +kernel
theorem dX12_fails_38 : decode cX12_fails 38 = .ok (.goto 4, 3) := by decide +kernel
theorem dX12_fails_41 : decode cX12_fails 41 = .ok (.iconst 0, 1) := by decide +kernel
theorem dX12_fails_42 : decode cX12_fails 42 = .ok (.ireturn, 1) := by decide +kernel
theorem dX12_puts_0 : decode cX12_puts 0 = .ok (.aload_n 0, 1) := by decide +kernel
theorem dX12_puts_1 : decode cX12_puts 1 = .ok (.iload_n 1, 1) := by decide +kernel
theorem dX12_puts_2 : decode cX12_puts 2 = .ok (.invokevirtual 132, 3) := by decide +kernel
theorem dX12_puts_5 : decode cX12_puts 5 = .ok (.aload_n 0, 1) := by decide +kernel
theorem dX12_puts_6 : decode cX12_puts 6 = .ok (.getfield 9, 3) := by decide +kernel
theorem dX12_puts_9 : decode cX12_puts 9 = .ok (.iload_n 1, 1) := by decide +kernel
theorem dX12_puts_10 : decode cX12_puts 10 = .ok (.iload_n 2, 1) := by decide +kernel
theorem dX12_puts_11 : decode cX12_puts 11 = .ok (.iastore, 1) := by decide +kernel
theorem dX12_puts_12 : decode cX12_puts 12 = .ok (.aload_n 0, 1) := by decide +kernel
theorem dX12_puts_13 : decode cX12_puts 13 = .ok (.getfield 13, 3) := by decide +kernel
theorem dX12_puts_16 : decode cX12_puts 16 = .ok (.iload_n 1, 1) := by decide +kernel
theorem dX12_puts_17 : decode cX12_puts 17 = .ok (.iload_n 2, 1) := by decide +kernel
theorem dX12_puts_18 : decode cX12_puts 18 = .ok (.iastore, 1) := by decide +kernel
theorem dX12_puts_19 : decode cX12_puts 19 = .ok (.iload_n 1, 1) := by decide +kernel
theorem dX12_puts_20 : decode cX12_puts 20 = .ok (.bipush 64, 2) := by decide +kernel
theorem dX12_puts_22 : decode cX12_puts 22 = .ok (.if_icmp .lt 16, 3) := by decide +kernel
theorem dX12_puts_25 : decode cX12_puts 25 = .ok (.aload_n 0, 1) := by decide +kernel
theorem dX12_puts_26 : decode cX12_puts 26 = .ok (.getfield 16, 3) := by decide +kernel
theorem dX12_puts_29 : decode cX12_puts 29 = .ok (.iload_n 1, 1) := by decide +kernel
theorem dX12_puts_30 : decode cX12_puts 30 = .ok (.bipush 64, 2) := by decide +kernel
theorem dX12_puts_32 : decode cX12_puts 32 = .ok (.isub, 1) := by decide +kernel
theorem dX12_puts_33 : decode cX12_puts 33 = .ok (.dup2, 1) := by decide +kernel
theorem dX12_puts_34 : decode cX12_puts 34 = .ok (.iaload, 1) := by decide +kernel
theorem dX12_puts_35 : decode cX12_puts 35 = .ok (.iconst 1, 1) := by decide +kernel
theorem dX12_puts_36 : decode cX12_puts 36 = .ok (.iadd, 1) := by decide +kernel
theorem dX12_puts_37 : decode cX12_puts 37 = .ok (.iastore, 1) := by decide +kernel
theorem dX12_puts_38 : decode cX12_puts 38 = .ok (.aload_n 0, 1) := by decide +kernel
theorem dX12_puts_39 : decode cX12_puts 39 = .ok (.getfield 53, 3) := by decide +kernel
theorem dX12_puts_42 : decode cX12_puts 42 = .ok (.iload_n 1, 1) := by decide +kernel
theorem dX12_puts_43 : decode cX12_puts 43 = .ok (.iconst (-1), 1) := by decide +kernel
theorem dX12_puts_44 : decode cX12_puts 44 = .ok (.iastore, 1) := by decide +kernel
theorem dX12_puts_45 : decode cX12_puts 45 = .ok (.return_, 1) := by decide +kernel
theorem dX12_flushes_0 : decode cX12_flushes 0 = .ok (.aload_n 0, 1) := by decide +kernel
theorem dX12_flushes_1 : decode cX12_flushes 1 = .ok (.invokevirtual 136, 3) := by decide +kernel
theorem dX12_flushes_4 : decode cX12_flushes 4 = .ok (.ifCond .eq 5, 3) := by decide +kernel
theorem dX12_flushes_7 : decode cX12_flushes 7 = .ok (.iconst 0, 1) := by decide +kernel
theorem dX12_flushes_8 : decode cX12_flushes 8 = .ok (.ireturn, 1) := by decide +kernel
theorem dX12_flushes_9 : decode cX12_flushes 9 = .ok (.aload_n 0, 1) := by decide +kernel
theorem dX12_flushes_10 : decode cX12_flushes 10 = .ok (.aload_n 1, 1) := by decide +kernel
theorem dX12_flushes_11 : decode cX12_flushes 11 = .ok (.getfield 139, 3) := by decide +kernel
theorem dX12_flushes_14 : decode cX12_flushes 14 = .ok (.aload_n 1, 1) := by decide +kernel
theorem dX12_flushes_15 : decode cX12_flushes 15 = .ok (.getfield 142, 3) := by decide +kernel
theorem dX12_flushes_18 : decode cX12_flushes 18 = .ok (.invokevirtual 145, 3) := by decide +kernel
theorem dX12_flushes_21 : decode cX12_flushes 21 = .ok (.aload_n 1, 1) := by decide +kernel
theorem dX12_flushes_22 : decode cX12_flushes 22 = .ok (.ldc2_w 149, 3) := by decide +kernel
theorem dX12_flushes_25 : decode cX12_flushes 25 = .ok (.putfield 151, 3) := by decide +kernel
theorem dX12_flushes_28 : decode cX12_flushes 28 = .ok (.iconst 1, 1) := by decide +kernel
theorem dX12_flushes_29 : decode cX12_flushes 29 = .ok (.ireturn, 1) := by decide +kernel
theorem dX12_leaves_0 : decode cX12_leaves 0 = .ok (.aload_n 0, 1) := by decide +kernel
theorem dX12_leaves_1 : decode cX12_leaves 1 = .ok (.getfield 34, 3) := by decide +kernel
theorem dX12_leaves_4 : decode cX12_leaves 4 = .ok (.iload_n 1, 1) := by decide +kernel
theorem dX12_leaves_5 : decode cX12_leaves 5 = .ok (.aaload, 1) := by decide +kernel
theorem dX12_leaves_6 : decode cX12_leaves 6 = .ok (.astore_n 2, 1) := by decide +kernel
theorem dX12_leaves_7 : decode cX12_leaves 7 = .ok (.aload_n 2, 1) := by decide +kernel
theorem dX12_leaves_8 : decode cX12_leaves 8 = .ok (.invokevirtual 155, 3) := by decide +kernel
theorem dX12_leaves_11 : decode cX12_leaves 11 = .ok (.ifCond .eq 13, 3) := by decide +kernel
theorem dX12_leaves_14 : decode cX12_leaves 14 = .ok (.aload_n 0, 1) := by decide +kernel
theorem dX12_leaves_15 : decode cX12_leaves 15 = .ok (.aload_n 2, 1) := by decide +kernel
theorem dX12_leaves_16 : decode cX12_leaves 16 = .ok (.invokevirtual 158, 3) := by decide +kernel
theorem dX12_leaves_19 : decode cX12_leaves 19 = .ok (.ifCond .ne 5, 3) := by decide +kernel
theorem dX12_leaves_22 : decode cX12_leaves 22 = .ok (.iconst 0, 1) := by decide +kernel
theorem dX12_leaves_23 : decode cX12_leaves 23 = .ok (.ireturn, 1) := by decide +kernel
theorem dX12_leaves_24 : decode cX12_leaves 24 = .ok (.aload_n 0, 1) := by decide +kernel
theorem dX12_leaves_25 : decode cX12_leaves 25 = .ok (.getfield 34, 3) := by decide +kernel
theorem dX12_leaves_28 : decode cX12_leaves 28 = .ok (.iload_n 1, 1) := by decide +kernel
theorem dX12_leaves_29 : decode cX12_leaves 29 = .ok (.aconst_null, 1) := by decide +kernel
theorem dX12_leaves_30 : decode cX12_leaves 30 = .ok (.aastore, 1) := by decide +kernel
theorem dX12_leaves_31 : decode cX12_leaves 31 = .ok (.iconst 1, 1) := by decide +kernel
theorem dX12_leaves_32 : decode cX12_leaves 32 = .ok (.ireturn, 1) := by decide +kernel
theorem dX12_placeOf_0 : decode cX12_placeOf 0 = .ok (.aload_n 0, 1) := by decide +kernel
theorem dX12_placeOf_1 : decode cX12_placeOf 1 = .ok (.getfield 22, 3) := by decide +kernel
theorem dX12_placeOf_4 : decode cX12_placeOf 4 = .ok (.iload_n 1, 1) := by decide +kernel
theorem dX12_placeOf_5 : decode cX12_placeOf 5 = .ok (.invokevirtual 162, 3) := by decide +kernel
theorem dX12_placeOf_8 : decode cX12_placeOf 8 = .ok (.checkcast 74, 3) := by decide +kernel
theorem dX12_placeOf_11 : decode cX12_placeOf 11 = .ok (.invokevirtual 166, 3) := by decide +kernel
theorem dX12_placeOf_14 : decode cX12_placeOf 14 = .ok (.iload_n 2, 1) := by decide +kernel
theorem dX12_placeOf_15 : decode cX12_placeOf 15 = .ok (.iadd, 1) := by decide +kernel
theorem dX12_placeOf_16 : decode cX12_placeOf 16 = .ok (.ireturn, 1) := by decide +kernel
theorem dX12_frameWith_0 : decode cX12_frameWith 0 = .ok (.iconst (-1), 1) := by decide +kernel
theorem dX12_frameWith_1 : decode cX12_frameWith 1 = .ok (.istore_n 2, 1) := by decide +kernel
theorem dX12_frameWith_2 : decode cX12_frameWith 2 = .ok (.iconst 0, 1) := by decide +kernel
theorem dX12_frameWith_3 : decode cX12_frameWith 3 = .ok (.istore_n 3, 1) := by decide +kernel
theorem dX12_frameWith_4 : decode cX12_frameWith 4 = .ok (.iload_n 3, 1) := by decide +kernel
theorem dX12_frameWith_5 : decode cX12_frameWith 5 = .ok (.bipush 16, 2) := by decide +kernel
theorem dX12_frameWith_7 : decode cX12_frameWith 7 = .ok (.if_icmp .ge 37, 3) := by decide +kernel
theorem dX12_frameWith_10 : decode cX12_frameWith 10 = .ok (.aload_n 0, 1) := by decide +kernel
theorem dX12_frameWith_11 : decode cX12_frameWith 11 = .ok (.getfield 34, 3) := by decide +kernel
theorem dX12_frameWith_14 : decode cX12_frameWith 14 = .ok (.iload_n 3, 1) := by decide +kernel
theorem dX12_frameWith_15 : decode cX12_frameWith 15 = .ok (.aaload, 1) := by decide +kernel
theorem dX12_frameWith_16 : decode cX12_frameWith 16 = .ok (.ifnull 20, 3) := by decide +kernel
theorem dX12_frameWith_19 : decode cX12_frameWith 19 = .ok (.aload_n 0, 1) := by decide +kernel
theorem dX12_frameWith_20 : decode cX12_frameWith 20 = .ok (.getfield 34, 3) := by decide +kernel
theorem dX12_frameWith_23 : decode cX12_frameWith 23 = .ok (.iload_n 3, 1) := by decide +kernel
theorem dX12_frameWith_24 : decode cX12_frameWith 24 = .ok (.aaload, 1) := by decide +kernel
theorem dX12_frameWith_25 : decode cX12_frameWith 25 = .ok (.getfield 139, 3) := by decide +kernel
theorem dX12_frameWith_28 : decode cX12_frameWith 28 = .ok (.iload_n 1, 1) := by decide +kernel
theorem dX12_frameWith_29 : decode cX12_frameWith 29 = .ok (.if_icmp .ne 7, 3) := by decide +kernel
theorem dX12_frameWith_32 : decode cX12_frameWith 32 = .ok (.iload_n 3, 1) := by decide +kernel
theorem dX12_frameWith_33 : decode cX12_frameWith 33 = .ok (.goto 4, 3) := by decide +kernel
theorem dX12_frameWith_36 : decode cX12_frameWith 36 = .ok (.iload_n 2, 1) := by decide +kernel
theorem dX12_frameWith_37 : decode cX12_frameWith 37 = .ok (.istore_n 2, 1) := by decide +kernel
theorem dX12_frameWith_38 : decode cX12_frameWith 38 = .ok (.iinc 3 1, 3) := by decide +kernel
theorem dX12_frameWith_41 : decode cX12_frameWith 41 = .ok (.goto (-37), 3) := by decide +kernel
theorem dX12_frameWith_44 : decode cX12_frameWith 44 = .ok (.iload_n 2, 1) := by decide +kernel
theorem dX12_frameWith_45 : decode cX12_frameWith 45 = .ok (.ireturn, 1) := by decide +kernel
theorem dX12_free_0 : decode cX12_free 0 = .ok (.iconst 0, 1) := by decide +kernel
theorem dX12_free_1 : decode cX12_free 1 = .ok (.istore_n 1, 1) := by decide +kernel
theorem dX12_free_2 : decode cX12_free 2 = .ok (.iload_n 1, 1) := by decide +kernel
theorem dX12_free_3 : decode cX12_free 3 = .ok (.aload_n 0, 1) := by decide +kernel
theorem dX12_free_4 : decode cX12_free 4 = .ok (.getfield 38, 3) := by decide +kernel
theorem dX12_free_7 : decode cX12_free 7 = .ok (.if_icmp .ge 20, 3) := by decide +kernel
theorem dX12_free_10 : decode cX12_free 10 = .ok (.aload_n 0, 1) := by decide +kernel
theorem dX12_free_11 : decode cX12_free 11 = .ok (.getfield 34, 3) := by decide +kernel
theorem dX12_free_14 : decode cX12_free 14 = .ok (.iload_n 1, 1) := by decide +kernel
theorem dX12_free_15 : decode cX12_free 15 = .ok (.aaload, 1) := by decide +kernel
theorem dX12_free_16 : decode cX12_free 16 = .ok (.ifnonnull 5, 3) := by decide +kernel
theorem dX12_free_19 : decode cX12_free 19 = .ok (.iload_n 1, 1) := by decide +kernel
theorem dX12_free_20 : decode cX12_free 20 = .ok (.ireturn, 1) := by decide +kernel
theorem dX12_free_21 : decode cX12_free 21 = .ok (.iinc 1 1, 3) := by decide +kernel
theorem dX12_free_24 : decode cX12_free 24 = .ok (.goto (-22), 3) := by decide +kernel
theorem dX12_free_27 : decode cX12_free 27 = .ok (.iconst (-1), 1) := by decide +kernel
theorem dX12_free_28 : decode cX12_free 28 = .ok (.ireturn, 1) := by decide +kernel
theorem dX12_canGo_0 : decode cX12_canGo 0 = .ok (.aload_n 0, 1) := by decide +kernel
theorem dX12_canGo_1 : decode cX12_canGo 1 = .ok (.getfield 34, 3) := by decide +kernel
theorem dX12_canGo_4 : decode cX12_canGo 4 = .ok (.iload_n 1, 1) := by decide +kernel
theorem dX12_canGo_5 : decode cX12_canGo 5 = .ok (.aaload, 1) := by decide +kernel
theorem dX12_canGo_6 : decode cX12_canGo 6 = .ok (.astore 4, 2) := by decide +kernel
theorem dX12_canGo_8 : decode cX12_canGo 8 = .ok (.aload 4, 2) := by decide +kernel
theorem dX12_canGo_10 : decode cX12_canGo 10 = .ok (.ifnull 36, 3) := by decide +kernel
theorem dX12_canGo_13 : decode cX12_canGo 13 = .ok (.aload 4, 2) := by decide +kernel
theorem dX12_canGo_15 : decode cX12_canGo 15 = .ok (.invokevirtual 93, 3) := by decide +kernel
theorem dX12_canGo_18 : decode cX12_canGo 18 = .ok (.ifCond .eq 28, 3) := by decide +kernel
theorem dX12_canGo_21 : decode cX12_canGo 21 = .ok (.iload_n 2, 1) := by decide +kernel
theorem dX12_canGo_22 : decode cX12_canGo 22 = .ok (.ifCond .eq 20, 3) := by decide +kernel
theorem dX12_canGo_25 : decode cX12_canGo 25 = .ok (.aload 4, 2) := by decide +kernel
theorem dX12_canGo_27 : decode cX12_canGo 27 = .ok (.invokevirtual 155, 3) := by decide +kernel
theorem dX12_canGo_30 : decode cX12_canGo 30 = .ok (.ifCond .ne 16, 3) := by decide +kernel
theorem dX12_canGo_33 : decode cX12_canGo 33 = .ok (.aload 4, 2) := by decide +kernel
theorem dX12_canGo_35 : decode cX12_canGo 35 = .ok (.getfield 139, 3) := by decide +kernel
theorem dX12_canGo_38 : decode cX12_canGo 38 = .ok (.iload_n 3, 1) := by decide +kernel
theorem dX12_canGo_39 : decode cX12_canGo 39 = .ok (.if_icmp .eq 7, 3) := by decide +kernel
theorem dX12_canGo_42 : decode cX12_canGo 42 = .ok (.iconst 1, 1) := by decide +kernel
theorem dX12_canGo_43 : decode cX12_canGo 43 = .ok (.goto 4, 3) := by decide +kernel
theorem dX12_canGo_46 : decode cX12_canGo 46 = .ok (.iconst 0, 1) := by decide +kernel
theorem dX12_canGo_47 : decode cX12_canGo 47 = .ok (.ireturn, 1) := by decide +kernel
theorem dX12_someCanGo_0 : decode cX12_someCanGo 0 = .ok (.iconst 0, 1) := by decide +kernel
theorem dX12_someCanGo_1 : decode cX12_someCanGo 1 = .ok (.istore_n 3, 1) := by decide +kernel
theorem dX12_someCanGo_2 : decode cX12_someCanGo 2 = .ok (.iconst 0, 1) := by decide +kernel
theorem dX12_someCanGo_3 : decode cX12_someCanGo 3 = .ok (.istore 4, 2) := by decide +kernel
theorem dX12_someCanGo_5 : decode cX12_someCanGo 5 = .ok (.iload 4, 2) := by decide +kernel
theorem dX12_someCanGo_7 : decode cX12_someCanGo 7 = .ok (.aload_n 0, 1) := by decide +kernel
theorem dX12_someCanGo_8 : decode cX12_someCanGo 8 = .ok (.getfield 38, 3) := by decide +kernel
theorem dX12_someCanGo_11 : decode cX12_someCanGo 11 = .ok (.if_icmp .ge 30, 3) := by decide +kernel
theorem dX12_someCanGo_14 : decode cX12_someCanGo 14 = .ok (.iload_n 3, 1) := by decide +kernel
theorem dX12_someCanGo_15 : decode cX12_someCanGo 15 = .ok (.ifCond .ne 14, 3) := by decide +kernel
theorem dX12_someCanGo_18 : decode cX12_someCanGo 18 = .ok (.aload_n 0, 1) := by decide +kernel
theorem dX12_someCanGo_19 : decode cX12_someCanGo 19 = .ok (.iload 4, 2) := by decide +kernel
theorem dX12_someCanGo_21 : decode cX12_someCanGo 21 = .ok (.iload_n 1, 1) := by decide +kernel
theorem dX12_someCanGo_22 : decode cX12_someCanGo 22 = .ok (.iload_n 2, 1) := by decide +kernel
theorem dX12_someCanGo_23 : decode cX12_someCanGo 23 = .ok (.invokevirtual 169, 3) := by decide +kernel
theorem dX12_someCanGo_26 : decode cX12_someCanGo 26 = .ok (.ifCond .eq 7, 3) := by decide +kernel
theorem dX12_someCanGo_29 : decode cX12_someCanGo 29 = .ok (.iconst 1, 1) := by decide +kernel
theorem dX12_someCanGo_30 : decode cX12_someCanGo 30 = .ok (.goto 4, 3) := by decide +kernel
theorem dX12_someCanGo_33 : decode cX12_someCanGo 33 = .ok (.iconst 0, 1) := by decide +kernel
theorem dX12_someCanGo_34 : decode cX12_someCanGo 34 = .ok (.istore_n 3, 1) := by decide +kernel
theorem dX12_someCanGo_35 : decode cX12_someCanGo 35 = .ok (.iinc 4 1, 3) := by decide +kernel
theorem dX12_someCanGo_38 : decode cX12_someCanGo 38 = .ok (.goto (-33), 3) := by decide +kernel
theorem dX12_someCanGo_41 : decode cX12_someCanGo 41 = .ok (.iload_n 3, 1) := by decide +kernel
theorem dX12_someCanGo_42 : decode cX12_someCanGo 42 = .ok (.ireturn, 1) := by decide +kernel
theorem dX12_chosen_0 : decode cX12_chosen 0 = .ok (.aload_n 0, 1) := by decide +kernel
theorem dX12_chosen_1 : decode cX12_chosen 1 = .ok (.getfield 42, 3) := by decide +kernel
theorem dX12_chosen_4 : decode cX12_chosen 4 = .ok (.bipush 99, 2) := by decide +kernel
theorem dX12_chosen_6 : decode cX12_chosen 6 = .ok (.if_icmp .ne 97, 3) := by decide +kernel
theorem dX12_chosen_9 : decode cX12_chosen 9 = .ok (.aload_n 0, 1) := by decide +kernel
theorem dX12_chosen_10 : decode cX12_chosen 10 = .ok (.aload_n 0, 1) := by decide +kernel
theorem dX12_chosen_11 : decode cX12_chosen 11 = .ok (.getfield 103, 3) := by decide +kernel
theorem dX12_chosen_14 : decode cX12_chosen 14 = .ok (.iload_n 1, 1) := by decide +kernel
theorem dX12_chosen_15 : decode cX12_chosen 15 = .ok (.iload_n 2, 1) := by decide +kernel
theorem dX12_chosen_16 : decode cX12_chosen 16 = .ok (.invokevirtual 169, 3) := by decide +kernel
theorem dX12_chosen_19 : decode cX12_chosen 19 = .ok (.ifCond .eq 18, 3) := by decide +kernel
theorem dX12_chosen_22 : decode cX12_chosen 22 = .ok (.aload_n 0, 1) := by decide +kernel
theorem dX12_chosen_23 : decode cX12_chosen 23 = .ok (.getfield 34, 3) := by decide +kernel
theorem dX12_chosen_26 : decode cX12_chosen 26 = .ok (.aload_n 0, 1) := by decide +kernel
theorem dX12_chosen_27 : decode cX12_chosen 27 = .ok (.getfield 103, 3) := by decide +kernel
theorem dX12_chosen_30 : decode cX12_chosen 30 = .ok (.aaload, 1) := by decide +kernel
theorem dX12_chosen_31 : decode cX12_chosen 31 = .ok (.getfield 172, 3) := by decide +kernel
theorem dX12_chosen_34 : decode cX12_chosen 34 = .ok (.ifCond .eq 47, 3) := by decide +kernel
theorem dX12_chosen_37 : decode cX12_chosen 37 = .ok (.aload_n 0, 1) := by decide +kernel
theorem dX12_chosen_38 : decode cX12_chosen 38 = .ok (.aload_n 0, 1) := by decide +kernel
theorem dX12_chosen_39 : decode cX12_chosen 39 = .ok (.getfield 103, 3) := by decide +kernel
theorem dX12_chosen_42 : decode cX12_chosen 42 = .ok (.iload_n 1, 1) := by decide +kernel
theorem dX12_chosen_43 : decode cX12_chosen 43 = .ok (.iload_n 2, 1) := by decide +kernel
theorem dX12_chosen_44 : decode cX12_chosen 44 = .ok (.invokevirtual 169, 3) := by decide +kernel
theorem dX12_chosen_47 : decode cX12_chosen 47 = .ok (.ifCond .eq 16, 3) := by decide +kernel
theorem dX12_chosen_50 : decode cX12_chosen 50 = .ok (.aload_n 0, 1) := by decide +kernel
theorem dX12_chosen_51 : decode cX12_chosen 51 = .ok (.getfield 34, 3) := by decide +kernel
theorem dX12_chosen_54 : decode cX12_chosen 54 = .ok (.aload_n 0, 1) := by decide +kernel
theorem dX12_chosen_55 : decode cX12_chosen 55 = .ok (.getfield 103, 3) := by decide +kernel
theorem dX12_chosen_58 : decode cX12_chosen 58 = .ok (.aaload, 1) := by decide +kernel
theorem dX12_chosen_59 : decode cX12_chosen 59 = .ok (.iconst 0, 1) := by decide +kernel
theorem dX12_chosen_60 : decode cX12_chosen 60 = .ok (.putfield 172, 3) := by decide +kernel
theorem dX12_chosen_63 : decode cX12_chosen 63 = .ok (.aload_n 0, 1) := by decide +kernel
theorem dX12_chosen_64 : decode cX12_chosen 64 = .ok (.aload_n 0, 1) := by decide +kernel
theorem dX12_chosen_65 : decode cX12_chosen 65 = .ok (.getfield 103, 3) := by decide +kernel
theorem dX12_chosen_68 : decode cX12_chosen 68 = .ok (.iconst 1, 1) := by decide +kernel
theorem dX12_chosen_69 : decode cX12_chosen 69 = .ok (.iadd, 1) := by decide +kernel
theorem dX12_chosen_70 : decode cX12_chosen 70 = .ok (.aload_n 0, 1) := by decide +kernel
theorem dX12_chosen_71 : decode cX12_chosen 71 = .ok (.getfield 38, 3) := by decide +kernel
theorem dX12_chosen_74 : decode cX12_chosen 74 = .ok (.irem, 1) := by decide +kernel
theorem dX12_chosen_75 : decode cX12_chosen 75 = .ok (.putfield 103, 3) := by decide +kernel
theorem dX12_chosen_78 : decode cX12_chosen 78 = .ok (.goto (-69), 3) := by decide +kernel
theorem dX12_chosen_81 : decode cX12_chosen 81 = .ok (.aload_n 0, 1) := by decide +kernel
theorem dX12_chosen_82 : decode cX12_chosen 82 = .ok (.getfield 103, 3) := by decide +kernel
theorem dX12_chosen_85 : decode cX12_chosen 85 = .ok (.istore_n 3, 1) := by decide +kernel
theorem dX12_chosen_86 : decode cX12_chosen 86 = .ok (.aload_n 0, 1) := by decide +kernel
theorem dX12_chosen_87 : decode cX12_chosen 87 = .ok (.aload_n 0, 1) := by decide +kernel
theorem dX12_chosen_88 : decode cX12_chosen 88 = .ok (.getfield 103, 3) := by decide +kernel
theorem dX12_chosen_91 : decode cX12_chosen 91 = .ok (.iconst 1, 1) := by decide +kernel
theorem dX12_chosen_92 : decode cX12_chosen 92 = .ok (.iadd, 1) := by decide +kernel
theorem dX12_chosen_93 : decode cX12_chosen 93 = .ok (.aload_n 0, 1) := by decide +kernel
theorem dX12_chosen_94 : decode cX12_chosen 94 = .ok (.getfield 38, 3) := by decide +kernel
theorem dX12_chosen_97 : decode cX12_chosen 97 = .ok (.irem, 1) := by decide +kernel
theorem dX12_chosen_98 : decode cX12_chosen 98 = .ok (.putfield 103, 3) := by decide +kernel
theorem dX12_chosen_101 : decode cX12_chosen 101 = .ok (.iload_n 3, 1) := by decide +kernel
theorem dX12_chosen_102 : decode cX12_chosen 102 = .ok (.ireturn, 1) := by decide +kernel
theorem dX12_chosen_103 : decode cX12_chosen 103 = .ok (.iconst (-1), 1) := by decide +kernel
theorem dX12_chosen_104 : decode cX12_chosen 104 = .ok (.istore_n 3, 1) := by decide +kernel
theorem dX12_chosen_105 : decode cX12_chosen 105 = .ok (.iconst 0, 1) := by decide +kernel
theorem dX12_chosen_106 : decode cX12_chosen 106 = .ok (.istore 4, 2) := by decide +kernel
theorem dX12_chosen_108 : decode cX12_chosen 108 = .ok (.iload 4, 2) := by decide +kernel
theorem dX12_chosen_110 : decode cX12_chosen 110 = .ok (.aload_n 0, 1) := by decide +kernel
theorem dX12_chosen_111 : decode cX12_chosen 111 = .ok (.getfield 38, 3) := by decide +kernel
theorem dX12_chosen_114 : decode cX12_chosen 114 = .ok (.if_icmp .ge 51, 3) := by decide +kernel
theorem dX12_chosen_117 : decode cX12_chosen 117 = .ok (.aload_n 0, 1) := by decide +kernel
theorem dX12_chosen_118 : decode cX12_chosen 118 = .ok (.iload 4, 2) := by decide +kernel
theorem dX12_chosen_120 : decode cX12_chosen 120 = .ok (.iload_n 1, 1) := by decide +kernel
theorem dX12_chosen_121 : decode cX12_chosen 121 = .ok (.iload_n 2, 1) := by decide +kernel
theorem dX12_chosen_122 : decode cX12_chosen 122 = .ok (.invokevirtual 169, 3) := by decide +kernel
theorem dX12_chosen_125 : decode cX12_chosen 125 = .ok (.istore 5, 2) := by decide +kernel
theorem dX12_chosen_127 : decode cX12_chosen 127 = .ok (.iload 5, 2) := by decide +kernel
theorem dX12_chosen_129 : decode cX12_chosen 129 = .ok (.ifCond .eq 28, 3) := by decide +kernel
theorem dX12_chosen_132 : decode cX12_chosen 132 = .ok (.iload_n 3, 1) := by decide +kernel
theorem dX12_chosen_133 : decode cX12_chosen 133 = .ok (.iconst (-1), 1) := by decide +kernel
theorem dX12_chosen_134 : decode cX12_chosen 134 = .ok (.if_icmp .eq 18, 3) := by decide +kernel
theorem dX12_chosen_137 : decode cX12_chosen 137 = .ok (.aload_n 0, 1) := by decide +kernel
theorem dX12_chosen_138 : decode cX12_chosen 138 = .ok (.iload 4, 2) := by decide +kernel
theorem dX12_chosen_140 : decode cX12_chosen 140 = .ok (.invokevirtual 175, 3) := by decide +kernel
theorem dX12_chosen_143 : decode cX12_chosen 143 = .ok (.aload_n 0, 1) := by decide +kernel
theorem dX12_chosen_144 : decode cX12_chosen 144 = .ok (.iload_n 3, 1) := by decide +kernel
theorem dX12_chosen_145 : decode cX12_chosen 145 = .ok (.invokevirtual 175, 3) := by decide +kernel
theorem dX12_chosen_148 : decode cX12_chosen 148 = .ok (.lcmp, 1) := by decide +kernel
theorem dX12_chosen_149 : decode cX12_chosen 149 = .ok (.ifCond .ge 8, 3) := by decide +kernel
theorem dX12_chosen_152 : decode cX12_chosen 152 = .ok (.iload 4, 2) := by decide +kernel
theorem dX12_chosen_154 : decode cX12_chosen 154 = .ok (.goto 4, 3) := by decide +kernel
theorem dX12_chosen_157 : decode cX12_chosen 157 = .ok (.iload_n 3, 1) := by decide +kernel
theorem dX12_chosen_158 : decode cX12_chosen 158 = .ok (.istore_n 3, 1) := by decide +kernel
theorem dX12_chosen_159 : decode cX12_chosen 159 = .ok (.iinc 4 1, 3) := by decide +kernel
theorem dX12_chosen_162 : decode cX12_chosen 162 = .ok (.goto (-54), 3) := by decide +kernel
theorem dX12_chosen_165 : decode cX12_chosen 165 = .ok (.iload_n 3, 1) := by decide +kernel
theorem dX12_chosen_166 : decode cX12_chosen 166 = .ok (.ireturn, 1) := by decide +kernel
theorem dX12_key_0 : decode cX12_key 0 = .ok (.aload_n 0, 1) := by decide +kernel
theorem dX12_key_1 : decode cX12_key 1 = .ok (.getfield 42, 3) := by decide +kernel
theorem dX12_key_4 : decode cX12_key 4 = .ok (.bipush 108, 2) := by decide +kernel
theorem dX12_key_6 : decode cX12_key 6 = .ok (.if_icmp .ne 15, 3) := by decide +kernel
theorem dX12_key_9 : decode cX12_key 9 = .ok (.aload_n 0, 1) := by decide +kernel
theorem dX12_key_10 : decode cX12_key 10 = .ok (.getfield 34, 3) := by decide +kernel
theorem dX12_key_13 : decode cX12_key 13 = .ok (.iload_n 1, 1) := by decide +kernel
theorem dX12_key_14 : decode cX12_key 14 = .ok (.aaload, 1) := by decide +kernel
theorem dX12_key_15 : decode cX12_key 15 = .ok (.getfield 179, 3) := by decide +kernel
theorem dX12_key_18 : decode cX12_key 18 = .ok (.goto 12, 3) := by decide +kernel
theorem dX12_key_21 : decode cX12_key 21 = .ok (.aload_n 0, 1) := by decide +kernel
theorem dX12_key_22 : decode cX12_key 22 = .ok (.getfield 34, 3) := by decide +kernel
theorem dX12_key_25 : decode cX12_key 25 = .ok (.iload_n 1, 1) := by decide +kernel
theorem dX12_key_26 : decode cX12_key 26 = .ok (.aaload, 1) := by decide +kernel
theorem dX12_key_27 : decode cX12_key 27 = .ok (.getfield 182, 3) := by decide +kernel
theorem dX12_key_30 : decode cX12_key 30 = .ok (.lreturn, 1) := by decide +kernel
theorem dX12_takes_0 : decode cX12_takes 0 = .ok (.aload_n 0, 1) := by decide +kernel
theorem dX12_takes_1 : decode cX12_takes 1 = .ok (.invokevirtual 185, 3) := by decide +kernel
theorem dX12_takes_4 : decode cX12_takes 4 = .ok (.istore_n 1, 1) := by decide +kernel
theorem dX12_takes_5 : decode cX12_takes 5 = .ok (.iload_n 1, 1) := by decide +kernel
theorem dX12_takes_6 : decode cX12_takes 6 = .ok (.iconst (-1), 1) := by decide +kernel
theorem dX12_takes_7 : decode cX12_takes 7 = .ok (.if_icmp .ne 20, 3) := by decide +kernel
theorem dX12_takes_10 : decode cX12_takes 10 = .ok (.aload_n 0, 1) := by decide +kernel
theorem dX12_takes_11 : decode cX12_takes 11 = .ok (.iconst 0, 1) := by decide +kernel
theorem dX12_takes_12 : decode cX12_takes 12 = .ok (.iconst (-1), 1) := by decide +kernel
theorem dX12_takes_13 : decode cX12_takes 13 = .ok (.invokevirtual 188, 3) := by decide +kernel
theorem dX12_takes_16 : decode cX12_takes 16 = .ok (.istore_n 1, 1) := by decide +kernel
theorem dX12_takes_17 : decode cX12_takes 17 = .ok (.aload_n 0, 1) := by decide +kernel
theorem dX12_takes_18 : decode cX12_takes 18 = .ok (.iload_n 1, 1) := by decide +kernel
theorem dX12_takes_19 : decode cX12_takes 19 = .ok (.invokevirtual 99, 3) := by decide +kernel
theorem dX12_takes_22 : decode cX12_takes 22 = .ok (.ifCond .ne 5, 3) := by decide +kernel
theorem dX12_takes_25 : decode cX12_takes 25 = .ok (.iconst (-1), 1) := by decide +kernel
theorem dX12_takes_26 : decode cX12_takes 26 = .ok (.ireturn, 1) := by decide +kernel
theorem dX12_takes_27 : decode cX12_takes 27 = .ok (.iload_n 1, 1) := by decide +kernel
theorem dX12_takes_28 : decode cX12_takes 28 = .ok (.ireturn, 1) := by decide +kernel
theorem dX12_comes_0 : decode cX12_comes 0 = .ok (.aload_n 0, 1) := by decide +kernel
theorem dX12_comes_1 : decode cX12_comes 1 = .ok (.dup, 1) := by decide +kernel
theorem dX12_comes_2 : decode cX12_comes 2 = .ok (.getfield 192, 3) := by decide +kernel
theorem dX12_comes_5 : decode cX12_comes 5 = .ok (.lconst 1, 1) := by decide +kernel
theorem dX12_comes_6 : decode cX12_comes 6 = .ok (.ladd, 1) := by decide +kernel
theorem dX12_comes_7 : decode cX12_comes 7 = .ok (.putfield 192, 3) := by decide +kernel
theorem dX12_comes_10 : decode cX12_comes 10 = .ok (.new 32, 3) := by decide +kernel
theorem dX12_comes_13 : decode cX12_comes 13 = .ok (.dup, 1) := by decide +kernel
theorem dX12_comes_14 : decode cX12_comes 14 = .ok (.iload_n 2, 1) := by decide +kernel
theorem dX12_comes_15 : decode cX12_comes 15 = .ok (.invokespecial 195, 3) := by decide +kernel
theorem dX12_comes_18 : decode cX12_comes 18 = .ok (.astore_n 3, 1) := by decide +kernel
theorem dX12_comes_19 : decode cX12_comes 19 = .ok (.aload_n 3, 1) := by decide +kernel
theorem dX12_comes_20 : decode cX12_comes 20 = .ok (.aload_n 0, 1) := by decide +kernel
theorem dX12_comes_21 : decode cX12_comes 21 = .ok (.getfield 192, 3) := by decide +kernel
theorem dX12_comes_24 : decode cX12_comes 24 = .ok (.putfield 179, 3) := by decide +kernel
theorem dX12_comes_27 : decode cX12_comes 27 = .ok (.aload_n 3, 1) := by decide +kernel
theorem dX12_comes_28 : decode cX12_comes 28 = .ok (.aload_n 0, 1) := by decide +kernel
theorem dX12_comes_29 : decode cX12_comes 29 = .ok (.getfield 192, 3) := by decide +kernel
theorem dX12_comes_32 : decode cX12_comes 32 = .ok (.putfield 182, 3) := by decide +kernel
theorem dX12_comes_35 : decode cX12_comes 35 = .ok (.aload_n 0, 1) := by decide +kernel
theorem dX12_comes_36 : decode cX12_comes 36 = .ok (.getfield 34, 3) := by decide +kernel
theorem dX12_comes_39 : decode cX12_comes 39 = .ok (.iload_n 1, 1) := by decide +kernel
theorem dX12_comes_40 : decode cX12_comes 40 = .ok (.aload_n 3, 1) := by decide +kernel
theorem dX12_comes_41 : decode cX12_comes 41 = .ok (.aastore, 1) := by decide +kernel
theorem dX12_comes_42 : decode cX12_comes 42 = .ok (.aload_n 3, 1) := by decide +kernel
theorem dX12_comes_43 : decode cX12_comes 43 = .ok (.areturn, 1) := by decide +kernel
theorem dX12_uses_0 : decode cX12_uses 0 = .ok (.aload_n 0, 1) := by decide +kernel
theorem dX12_uses_1 : decode cX12_uses 1 = .ok (.dup, 1) := by decide +kernel
theorem dX12_uses_2 : decode cX12_uses 2 = .ok (.getfield 192, 3) := by decide +kernel
theorem dX12_uses_5 : decode cX12_uses 5 = .ok (.lconst 1, 1) := by decide +kernel
theorem dX12_uses_6 : decode cX12_uses 6 = .ok (.ladd, 1) := by decide +kernel
theorem dX12_uses_7 : decode cX12_uses 7 = .ok (.putfield 192, 3) := by decide +kernel
theorem dX12_uses_10 : decode cX12_uses 10 = .ok (.aload_n 1, 1) := by decide +kernel
theorem dX12_uses_11 : decode cX12_uses 11 = .ok (.aload_n 0, 1) := by decide +kernel
theorem dX12_uses_12 : decode cX12_uses 12 = .ok (.getfield 192, 3) := by decide +kernel
theorem dX12_uses_15 : decode cX12_uses 15 = .ok (.putfield 179, 3) := by decide +kernel
theorem dX12_uses_18 : decode cX12_uses 18 = .ok (.aload_n 1, 1) := by decide +kernel
theorem dX12_uses_19 : decode cX12_uses 19 = .ok (.iconst 1, 1) := by decide +kernel
theorem dX12_uses_20 : decode cX12_uses 20 = .ok (.putfield 172, 3) := by decide +kernel
theorem dX12_uses_23 : decode cX12_uses 23 = .ok (.aload_n 0, 1) := by decide +kernel
theorem dX12_uses_24 : decode cX12_uses 24 = .ok (.dup, 1) := by decide +kernel
theorem dX12_uses_25 : decode cX12_uses 25 = .ok (.getfield 197, 3) := by decide +kernel
theorem dX12_uses_28 : decode cX12_uses 28 = .ok (.aload_n 1, 1) := by decide +kernel
theorem dX12_uses_29 : decode cX12_uses 29 = .ok (.getfield 200, 3) := by decide +kernel
theorem dX12_uses_32 : decode cX12_uses 32 = .ok (.ifCond .eq 7, 3) := by decide +kernel
theorem dX12_uses_35 : decode cX12_uses 35 = .ok (.iconst 1, 1) := by decide +kernel
theorem dX12_uses_36 : decode cX12_uses 36 = .ok (.goto 4, 3) := by decide +kernel
theorem dX12_uses_39 : decode cX12_uses 39 = .ok (.iconst 0, 1) := by decide +kernel
theorem dX12_uses_40 : decode cX12_uses 40 = .ok (.iadd, 1) := by decide +kernel
theorem dX12_uses_41 : decode cX12_uses 41 = .ok (.putfield 197, 3) := by decide +kernel
theorem dX12_uses_44 : decode cX12_uses 44 = .ok (.aload_n 1, 1) := by decide +kernel
theorem dX12_uses_45 : decode cX12_uses 45 = .ok (.iconst 0, 1) := by decide +kernel
theorem dX12_uses_46 : decode cX12_uses 46 = .ok (.putfield 200, 3) := by decide +kernel
theorem dX12_uses_49 : decode cX12_uses 49 = .ok (.return_, 1) := by decide +kernel
theorem dX12_noBlock_0 : decode cX12_noBlock 0 = .ok (.aload_n 0, 1) := by decide +kernel
theorem dX12_noBlock_1 : decode cX12_noBlock 1 = .ok (.iload_n 1, 1) := by decide +kernel
theorem dX12_noBlock_2 : decode cX12_noBlock 2 = .ok (.i2l, 1) := by decide +kernel
theorem dX12_noBlock_3 : decode cX12_noBlock 3 = .ok (.lconst 0, 1) := by decide +kernel
theorem dX12_noBlock_4 : decode cX12_noBlock 4 = .ok (.aload_n 0, 1) := by decide +kernel
theorem dX12_noBlock_5 : decode cX12_noBlock 5 = .ok (.getfield 22, 3) := by decide +kernel
theorem dX12_noBlock_8 : decode cX12_noBlock 8 = .ok (.invokevirtual 83, 3) := by decide +kernel
theorem dX12_noBlock_11 : decode cX12_noBlock 11 = .ok (.iconst 1, 1) := by decide +kernel
theorem dX12_noBlock_12 : decode cX12_noBlock 12 = .ok (.isub, 1) := by decide +kernel
theorem dX12_noBlock_13 : decode cX12_noBlock 13 = .ok (.i2l, 1) := by decide +kernel
theorem dX12_noBlock_14 : decode cX12_noBlock 14 = .ok (.invokestatic 69, 3) := by decide +kernel
theorem dX12_noBlock_17 : decode cX12_noBlock 17 = .ok (.ifCond .eq 19, 3) := by decide +kernel
theorem dX12_noBlock_20 : decode cX12_noBlock 20 = .ok (.iload_n 2, 1) := by decide +kernel
theorem dX12_noBlock_21 : decode cX12_noBlock 21 = .ok (.i2l, 1) := by decide +kernel
theorem dX12_noBlock_22 : decode cX12_noBlock 22 = .ok (.lconst 0, 1) := by decide +kernel
theorem dX12_noBlock_23 : decode cX12_noBlock 23 = .ok (.ldc2_w 203, 3) := by decide +kernel
theorem dX12_noBlock_26 : decode cX12_noBlock 26 = .ok (.invokestatic 69, 3) := by decide +kernel
theorem dX12_noBlock_29 : decode cX12_noBlock 29 = .ok (.ifCond .eq 7, 3) := by decide +kernel
theorem dX12_noBlock_32 : decode cX12_noBlock 32 = .ok (.iconst 0, 1) := by decide +kernel
theorem dX12_noBlock_33 : decode cX12_noBlock 33 = .ok (.goto 4, 3) := by decide +kernel
theorem dX12_noBlock_36 : decode cX12_noBlock 36 = .ok (.iconst 1, 1) := by decide +kernel
theorem dX12_noBlock_37 : decode cX12_noBlock 37 = .ok (.putfield 66, 3) := by decide +kernel
theorem dX12_noBlock_40 : decode cX12_noBlock 40 = .ok (.aload_n 0, 1) := by decide +kernel
theorem dX12_noBlock_41 : decode cX12_noBlock 41 = .ok (.getfield 66, 3) := by decide +kernel
theorem dX12_noBlock_44 : decode cX12_noBlock 44 = .ok (.ifCond .le 7, 3) := by decide +kernel
theorem dX12_noBlock_47 : decode cX12_noBlock 47 = .ok (.iconst 1, 1) := by decide +kernel
theorem dX12_noBlock_48 : decode cX12_noBlock 48 = .ok (.goto 4, 3) := by decide +kernel
theorem dX12_noBlock_51 : decode cX12_noBlock 51 = .ok (.iconst 0, 1) := by decide +kernel
theorem dX12_noBlock_52 : decode cX12_noBlock 52 = .ok (.ireturn, 1) := by decide +kernel
theorem dX12_counts_0 : decode cX12_counts 0 = .ok (.aload_n 0, 1) := by decide +kernel
theorem dX12_counts_1 : decode cX12_counts 1 = .ok (.dup, 1) := by decide +kernel
theorem dX12_counts_2 : decode cX12_counts 2 = .ok (.getfield 205, 3) := by decide +kernel
theorem dX12_counts_5 : decode cX12_counts 5 = .ok (.iload_n 3, 1) := by decide +kernel
theorem dX12_counts_6 : decode cX12_counts 6 = .ok (.ifCond .eq 7, 3) := by decide +kernel
theorem dX12_counts_9 : decode cX12_counts 9 = .ok (.iconst 1, 1) := by decide +kernel
theorem dX12_counts_10 : decode cX12_counts 10 = .ok (.goto 4, 3) := by decide +kernel
theorem dX12_counts_13 : decode cX12_counts 13 = .ok (.iconst 0, 1) := by decide +kernel
theorem dX12_counts_14 : decode cX12_counts 14 = .ok (.iadd, 1) := by decide +kernel
theorem dX12_counts_15 : decode cX12_counts 15 = .ok (.putfield 205, 3) := by decide +kernel
theorem dX12_counts_18 : decode cX12_counts 18 = .ok (.aload_n 0, 1) := by decide +kernel
theorem dX12_counts_19 : decode cX12_counts 19 = .ok (.dup, 1) := by decide +kernel
theorem dX12_counts_20 : decode cX12_counts 20 = .ok (.getfield 208, 3) := by decide +kernel
theorem dX12_counts_23 : decode cX12_counts 23 = .ok (.iload_n 3, 1) := by decide +kernel
theorem dX12_counts_24 : decode cX12_counts 24 = .ok (.ifCond .eq 7, 3) := by decide +kernel
theorem dX12_counts_27 : decode cX12_counts 27 = .ok (.iconst 0, 1) := by decide +kernel
theorem dX12_counts_28 : decode cX12_counts 28 = .ok (.goto 4, 3) := by decide +kernel
theorem dX12_counts_31 : decode cX12_counts 31 = .ok (.iconst 1, 1) := by decide +kernel
theorem dX12_counts_32 : decode cX12_counts 32 = .ok (.iadd, 1) := by decide +kernel
theorem dX12_counts_33 : decode cX12_counts 33 = .ok (.putfield 208, 3) := by decide +kernel
theorem dX12_counts_36 : decode cX12_counts 36 = .ok (.aload_n 0, 1) := by decide +kernel
theorem dX12_counts_37 : decode cX12_counts 37 = .ok (.getfield 63, 3) := by decide +kernel
theorem dX12_counts_40 : decode cX12_counts 40 = .ok (.bipush 16, 2) := by decide +kernel
theorem dX12_counts_42 : decode cX12_counts 42 = .ok (.iload_n 1, 1) := by decide +kernel
theorem dX12_counts_43 : decode cX12_counts 43 = .ok (.imul, 1) := by decide +kernel
theorem dX12_counts_44 : decode cX12_counts 44 = .ok (.iload_n 2, 1) := by decide +kernel
theorem dX12_counts_45 : decode cX12_counts 45 = .ok (.iadd, 1) := by decide +kernel
theorem dX12_counts_46 : decode cX12_counts 46 = .ok (.invokestatic 73, 3) := by decide +kernel
theorem dX12_counts_49 : decode cX12_counts 49 = .ok (.invokevirtual 79, 3) := by decide +kernel
theorem dX12_counts_52 : decode cX12_counts 52 = .ok (.pop, 1) := by decide +kernel
theorem dX12_counts_53 : decode cX12_counts 53 = .ok (.aload_n 0, 1) := by decide +kernel
theorem dX12_counts_54 : decode cX12_counts 54 = .ok (.getfield 63, 3) := by decide +kernel
theorem dX12_counts_57 : decode cX12_counts 57 = .ok (.invokevirtual 83, 3) := by decide +kernel
theorem dX12_counts_60 : decode cX12_counts 60 = .ok (.bipush 100, 2) := by decide +kernel
theorem dX12_counts_62 : decode cX12_counts 62 = .ok (.if_icmp .le 19, 3) := by decide +kernel
theorem dX12_counts_65 : decode cX12_counts 65 = .ok (.aload_n 0, 1) := by decide +kernel
theorem dX12_counts_66 : decode cX12_counts 66 = .ok (.getfield 63, 3) := by decide +kernel
theorem dX12_counts_69 : decode cX12_counts 69 = .ok (.iconst 0, 1) := by decide +kernel
theorem dX12_counts_70 : decode cX12_counts 70 = .ok (.invokevirtual 211, 3) := by decide +kernel
theorem dX12_counts_73 : decode cX12_counts 73 = .ok (.checkcast 74, 3) := by decide +kernel
theorem dX12_counts_76 : decode cX12_counts 76 = .ok (.invokevirtual 166, 3) := by decide +kernel
theorem dX12_counts_79 : decode cX12_counts 79 = .ok (.istore 4, 2) := by decide +kernel
theorem dX12_counts_81 : decode cX12_counts 81 = .ok (.return_, 1) := by decide +kernel
theorem dX12_isDamaged_0 : decode cX12_isDamaged 0 = .ok (.aload_n 0, 1) := by decide +kernel
theorem dX12_isDamaged_1 : decode cX12_isDamaged 1 = .ok (.getfield 9, 3) := by decide +kernel
theorem dX12_isDamaged_4 : decode cX12_isDamaged 4 = .ok (.iload_n 1, 1) := by decide +kernel
theorem dX12_isDamaged_5 : decode cX12_isDamaged 5 = .ok (.iaload, 1) := by decide +kernel
theorem dX12_isDamaged_6 : decode cX12_isDamaged 6 = .ok (.aload_n 0, 1) := by decide +kernel
theorem dX12_isDamaged_7 : decode cX12_isDamaged 7 = .ok (.getfield 13, 3) := by decide +kernel
theorem dX12_isDamaged_10 : decode cX12_isDamaged 10 = .ok (.iload_n 1, 1) := by decide +kernel
theorem dX12_isDamaged_11 : decode cX12_isDamaged 11 = .ok (.iaload, 1) := by decide +kernel
theorem dX12_isDamaged_12 : decode cX12_isDamaged 12 = .ok (.if_icmp .eq 7, 3) := by decide +kernel
theorem dX12_isDamaged_15 : decode cX12_isDamaged 15 = .ok (.iconst 1, 1) := by decide +kernel
theorem dX12_isDamaged_16 : decode cX12_isDamaged 16 = .ok (.goto 4, 3) := by decide +kernel
theorem dX12_isDamaged_19 : decode cX12_isDamaged 19 = .ok (.iconst 0, 1) := by decide +kernel
theorem dX12_isDamaged_20 : decode cX12_isDamaged 20 = .ok (.ireturn, 1) := by decide +kernel
theorem dX12_read_0 : decode cX12_read 0 = .ok (.aload_n 0, 1) := by decide +kernel
theorem dX12_read_1 : decode cX12_read 1 = .ok (.iload_n 1, 1) := by decide +kernel
theorem dX12_read_2 : decode cX12_read 2 = .ok (.iload_n 2, 1) := by decide +kernel
theorem dX12_read_3 : decode cX12_read 3 = .ok (.invokevirtual 214, 3) := by decide +kernel
theorem dX12_read_6 : decode cX12_read 6 = .ok (.ifCond .eq 5, 3) := by decide +kernel
theorem dX12_read_9 : decode cX12_read 9 = .ok (.iconst 0, 1) := by decide +kernel
theorem dX12_read_10 : decode cX12_read 10 = .ok (.ireturn, 1) := by decide +kernel
theorem dX12_read_11 : decode cX12_read 11 = .ok (.aload_n 0, 1) := by decide +kernel
theorem dX12_read_12 : decode cX12_read 12 = .ok (.iload_n 1, 1) := by decide +kernel
theorem dX12_read_13 : decode cX12_read 13 = .ok (.iload_n 2, 1) := by decide +kernel
theorem dX12_read_14 : decode cX12_read 14 = .ok (.invokevirtual 218, 3) := by decide +kernel
theorem dX12_read_17 : decode cX12_read 17 = .ok (.istore_n 3, 1) := by decide +kernel
theorem dX12_read_18 : decode cX12_read 18 = .ok (.aload_n 0, 1) := by decide +kernel
theorem dX12_read_19 : decode cX12_read 19 = .ok (.iload_n 3, 1) := by decide +kernel
theorem dX12_read_20 : decode cX12_read 20 = .ok (.invokevirtual 221, 3) := by decide +kernel
theorem dX12_read_23 : decode cX12_read 23 = .ok (.istore 4, 2) := by decide +kernel
theorem dX12_read_25 : decode cX12_read 25 = .ok (.iload 4, 2) := by decide +kernel
theorem dX12_read_27 : decode cX12_read 27 = .ok (.iconst (-1), 1) := by decide +kernel
theorem dX12_read_28 : decode cX12_read 28 = .ok (.if_icmp .eq 7, 3) := by decide +kernel
theorem dX12_read_31 : decode cX12_read 31 = .ok (.iconst 1, 1) := by decide +kernel
theorem dX12_read_32 : decode cX12_read 32 = .ok (.goto 4, 3) := by decide +kernel
theorem dX12_read_35 : decode cX12_read 35 = .ok (.iconst 0, 1) := by decide +kernel
theorem dX12_read_36 : decode cX12_read 36 = .ok (.istore 5, 2) := by decide +kernel
theorem dX12_read_38 : decode cX12_read 38 = .ok (.iload 5, 2) := by decide +kernel
theorem dX12_read_40 : decode cX12_read 40 = .ok (.ifCond .ne 32, 3) := by decide +kernel
theorem dX12_read_43 : decode cX12_read 43 = .ok (.aload_n 0, 1) := by decide +kernel
theorem dX12_read_44 : decode cX12_read 44 = .ok (.iload_n 3, 1) := by decide +kernel
theorem dX12_read_45 : decode cX12_read 45 = .ok (.invokevirtual 224, 3) := by decide +kernel
theorem dX12_read_48 : decode cX12_read 48 = .ok (.ifCond .ne 20, 3) := by decide +kernel
theorem dX12_read_51 : decode cX12_read 51 = .ok (.aload_n 0, 1) := by decide +kernel
theorem dX12_read_52 : decode cX12_read 52 = .ok (.invokevirtual 185, 3) := by decide +kernel
theorem dX12_read_55 : decode cX12_read 55 = .ok (.iconst (-1), 1) := by decide +kernel
theorem dX12_read_56 : decode cX12_read 56 = .ok (.if_icmp .ne 16, 3) := by decide +kernel
theorem dX12_read_59 : decode cX12_read 59 = .ok (.aload_n 0, 1) := by decide +kernel
theorem dX12_read_60 : decode cX12_read 60 = .ok (.iconst 0, 1) := by decide +kernel
theorem dX12_read_61 : decode cX12_read 61 = .ok (.iconst (-1), 1) := by decide +kernel
theorem dX12_read_62 : decode cX12_read 62 = .ok (.invokevirtual 227, 3) := by decide +kernel
theorem dX12_read_65 : decode cX12_read 65 = .ok (.ifCond .ne 7, 3) := by decide +kernel
theorem dX12_read_68 : decode cX12_read 68 = .ok (.iconst 1, 1) := by decide +kernel
theorem dX12_read_69 : decode cX12_read 69 = .ok (.goto 4, 3) := by decide +kernel
theorem dX12_read_72 : decode cX12_read 72 = .ok (.iconst 0, 1) := by decide +kernel
theorem dX12_read_73 : decode cX12_read 73 = .ok (.istore 6, 2) := by decide +kernel
theorem dX12_read_75 : decode cX12_read 75 = .ok (.aload_n 0, 1) := by decide +kernel
theorem dX12_read_76 : decode cX12_read 76 = .ok (.aload_n 0, 1) := by decide +kernel
theorem dX12_read_77 : decode cX12_read 77 = .ok (.getfield 56, 3) := by decide +kernel
theorem dX12_read_80 : decode cX12_read 80 = .ok (.ifCond .ne 7, 3) := by decide +kernel
theorem dX12_read_83 : decode cX12_read 83 = .ok (.iconst 2, 1) := by decide +kernel
theorem dX12_read_84 : decode cX12_read 84 = .ok (.goto 13, 3) := by decide +kernel
theorem dX12_read_87 : decode cX12_read 87 = .ok (.iload 6, 2) := by decide +kernel
theorem dX12_read_89 : decode cX12_read 89 = .ok (.ifCond .eq 7, 3) := by decide +kernel
theorem dX12_read_92 : decode cX12_read 92 = .ok (.iconst 3, 1) := by decide +kernel
theorem dX12_read_93 : decode cX12_read 93 = .ok (.goto 4, 3) := by decide +kernel
theorem dX12_read_96 : decode cX12_read 96 = .ok (.iconst 0, 1) := by decide +kernel
theorem dX12_read_97 : decode cX12_read 97 = .ok (.putfield 66, 3) := by decide +kernel
theorem dX12_read_100 : decode cX12_read 100 = .ok (.aload_n 0, 1) := by decide +kernel
theorem dX12_read_101 : decode cX12_read 101 = .ok (.getfield 66, 3) := by decide +kernel
theorem dX12_read_104 : decode cX12_read 104 = .ok (.ifCond .le 5, 3) := by decide +kernel
theorem dX12_read_107 : decode cX12_read 107 = .ok (.iconst 0, 1) := by decide +kernel
theorem dX12_read_108 : decode cX12_read 108 = .ok (.ireturn, 1) := by decide +kernel
theorem dX12_read_109 : decode cX12_read 109 = .ok (.aload_n 0, 1) := by decide +kernel
theorem dX12_read_110 : decode cX12_read 110 = .ok (.iload_n 1, 1) := by decide +kernel
theorem dX12_read_111 : decode cX12_read 111 = .ok (.iload_n 2, 1) := by decide +kernel
theorem dX12_read_112 : decode cX12_read 112 = .ok (.iload 5, 2) := by decide +kernel
theorem dX12_read_114 : decode cX12_read 114 = .ok (.invokevirtual 231, 3) := by decide +kernel
theorem dX12_read_117 : decode cX12_read 117 = .ok (.iload_n 2, 1) := by decide +kernel
theorem dX12_read_118 : decode cX12_read 118 = .ok (.aload_n 0, 1) := by decide +kernel
theorem dX12_read_119 : decode cX12_read 119 = .ok (.getfield 26, 3) := by decide +kernel
theorem dX12_read_122 : decode cX12_read 122 = .ok (.iload_n 1, 1) := by decide +kernel
theorem dX12_read_123 : decode cX12_read 123 = .ok (.iaload, 1) := by decide +kernel
theorem dX12_read_124 : decode cX12_read 124 = .ok (.iconst 1, 1) := by decide +kernel
theorem dX12_read_125 : decode cX12_read 125 = .ok (.iadd, 1) := by decide +kernel
theorem dX12_read_126 : decode cX12_read 126 = .ok (.if_icmp .ne 7, 3) := by decide +kernel
theorem dX12_read_129 : decode cX12_read 129 = .ok (.iconst 1, 1) := by decide +kernel
theorem dX12_read_130 : decode cX12_read 130 = .ok (.goto 4, 3) := by decide +kernel
theorem dX12_read_133 : decode cX12_read 133 = .ok (.iconst 0, 1) := by decide +kernel
theorem dX12_read_134 : decode cX12_read 134 = .ok (.istore 7, 2) := by decide +kernel
theorem dX12_read_136 : decode cX12_read 136 = .ok (.aload_n 0, 1) := by decide +kernel
theorem dX12_read_137 : decode cX12_read 137 = .ok (.getfield 26, 3) := by decide +kernel
theorem dX12_read_140 : decode cX12_read 140 = .ok (.iload_n 1, 1) := by decide +kernel
theorem dX12_read_141 : decode cX12_read 141 = .ok (.iload_n 2, 1) := by decide +kernel
theorem dX12_read_142 : decode cX12_read 142 = .ok (.iastore, 1) := by decide +kernel
theorem dX12_read_143 : decode cX12_read 143 = .ok (.iload 5, 2) := by decide +kernel
theorem dX12_read_145 : decode cX12_read 145 = .ok (.ifCond .eq 25, 3) := by decide +kernel
theorem dX12_read_148 : decode cX12_read 148 = .ok (.aload_n 0, 1) := by decide +kernel
theorem dX12_read_149 : decode cX12_read 149 = .ok (.aload_n 0, 1) := by decide +kernel
theorem dX12_read_150 : decode cX12_read 150 = .ok (.getfield 34, 3) := by decide +kernel
theorem dX12_read_153 : decode cX12_read 153 = .ok (.iload 4, 2) := by decide +kernel
theorem dX12_read_155 : decode cX12_read 155 = .ok (.aaload, 1) := by decide +kernel
theorem dX12_read_156 : decode cX12_read 156 = .ok (.invokevirtual 235, 3) := by decide +kernel
theorem dX12_read_159 : decode cX12_read 159 = .ok (.aload_n 0, 1) := by decide +kernel
theorem dX12_read_160 : decode cX12_read 160 = .ok (.getfield 34, 3) := by decide +kernel
theorem dX12_read_163 : decode cX12_read 163 = .ok (.iload 4, 2) := by decide +kernel
theorem dX12_read_165 : decode cX12_read 165 = .ok (.aaload, 1) := by decide +kernel
theorem dX12_read_166 : decode cX12_read 166 = .ok (.getfield 142, 3) := by decide +kernel
theorem dX12_read_169 : decode cX12_read 169 = .ok (.ireturn, 1) := by decide +kernel
theorem dX12_read_170 : decode cX12_read 170 = .ok (.aload_n 0, 1) := by decide +kernel
theorem dX12_read_171 : decode cX12_read 171 = .ok (.invokevirtual 239, 3) := by decide +kernel
theorem dX12_read_174 : decode cX12_read 174 = .ok (.istore 4, 2) := by decide +kernel
theorem dX12_read_176 : decode cX12_read 176 = .ok (.iload 4, 2) := by decide +kernel
theorem dX12_read_178 : decode cX12_read 178 = .ok (.iconst (-1), 1) := by decide +kernel
theorem dX12_read_179 : decode cX12_read 179 = .ok (.if_icmp .ne 5, 3) := by decide +kernel
theorem dX12_read_182 : decode cX12_read 182 = .ok (.iconst (-1), 1) := by decide +kernel
theorem dX12_read_183 : decode cX12_read 183 = .ok (.ireturn, 1) := by decide +kernel
theorem dX12_read_184 : decode cX12_read 184 = .ok (.aload_n 0, 1) := by decide +kernel
theorem dX12_read_185 : decode cX12_read 185 = .ok (.iload_n 3, 1) := by decide +kernel
theorem dX12_read_186 : decode cX12_read 186 = .ok (.invokevirtual 132, 3) := by decide +kernel
theorem dX12_read_189 : decode cX12_read 189 = .ok (.aload_n 0, 1) := by decide +kernel
theorem dX12_read_190 : decode cX12_read 190 = .ok (.iload 4, 2) := by decide +kernel
theorem dX12_read_192 : decode cX12_read 192 = .ok (.iload_n 3, 1) := by decide +kernel
theorem dX12_read_193 : decode cX12_read 193 = .ok (.invokevirtual 242, 3) := by decide +kernel
theorem dX12_read_196 : decode cX12_read 196 = .ok (.astore 8, 2) := by decide +kernel
theorem dX12_read_198 : decode cX12_read 198 = .ok (.aload 8, 2) := by decide +kernel
theorem dX12_read_200 : decode cX12_read 200 = .ok (.aload_n 0, 1) := by decide +kernel
theorem dX12_read_201 : decode cX12_read 201 = .ok (.getfield 9, 3) := by decide +kernel
theorem dX12_read_204 : decode cX12_read 204 = .ok (.iload_n 3, 1) := by decide +kernel
theorem dX12_read_205 : decode cX12_read 205 = .ok (.iaload, 1) := by decide +kernel
theorem dX12_read_206 : decode cX12_read 206 = .ok (.putfield 142, 3) := by decide +kernel
theorem dX12_read_209 : decode cX12_read 209 = .ok (.iload 7, 2) := by decide +kernel
theorem dX12_read_211 : decode cX12_read 211 = .ok (.ifCond .eq 9, 3) := by decide +kernel
theorem dX12_read_214 : decode cX12_read 214 = .ok (.aload_n 0, 1) := by decide +kernel
theorem dX12_read_215 : decode cX12_read 215 = .ok (.iload_n 1, 1) := by decide +kernel
theorem dX12_read_216 : decode cX12_read 216 = .ok (.iload_n 2, 1) := by decide +kernel
theorem dX12_read_217 : decode cX12_read 217 = .ok (.invokevirtual 246, 3) := by decide +kernel
theorem dX12_read_220 : decode cX12_read 220 = .ok (.aload 8, 2) := by decide +kernel
theorem dX12_read_222 : decode cX12_read 222 = .ok (.getfield 142, 3) := by decide +kernel
theorem dX12_read_225 : decode cX12_read 225 = .ok (.ireturn, 1) := by decide +kernel
theorem dX12_readsAhead_0 : decode cX12_readsAhead 0 = .ok (.aload_n 0, 1) := by decide +kernel
theorem dX12_readsAhead_1 : decode cX12_readsAhead 1 = .ok (.iload_n 1, 1) := by decide +kernel
theorem dX12_readsAhead_2 : decode cX12_readsAhead 2 = .ok (.iload_n 2, 1) := by decide +kernel
theorem dX12_readsAhead_3 : decode cX12_readsAhead 3 = .ok (.invokevirtual 218, 3) := by decide +kernel
theorem dX12_readsAhead_6 : decode cX12_readsAhead 6 = .ok (.istore_n 3, 1) := by decide +kernel
theorem dX12_readsAhead_7 : decode cX12_readsAhead 7 = .ok (.iload_n 2, 1) := by decide +kernel
theorem dX12_readsAhead_8 : decode cX12_readsAhead 8 = .ok (.iconst 1, 1) := by decide +kernel
theorem dX12_readsAhead_9 : decode cX12_readsAhead 9 = .ok (.iadd, 1) := by decide +kernel
theorem dX12_readsAhead_10 : decode cX12_readsAhead 10 = .ok (.istore 4, 2) := by decide +kernel
theorem dX12_readsAhead_12 : decode cX12_readsAhead 12 = .ok (.iload 4, 2) := by decide +kernel
theorem dX12_readsAhead_14 : decode cX12_readsAhead 14 = .ok (.iload_n 2, 1) := by decide +kernel
theorem dX12_readsAhead_15 : decode cX12_readsAhead 15 = .ok (.aload_n 0, 1) := by decide +kernel
theorem dX12_readsAhead_16 : decode cX12_readsAhead 16 = .ok (.getfield 108, 3) := by decide +kernel
theorem dX12_readsAhead_19 : decode cX12_readsAhead 19 = .ok (.iadd, 1) := by decide +kernel
theorem dX12_readsAhead_20 : decode cX12_readsAhead 20 = .ok (.if_icmp .gt 132, 3) := by decide +kernel
theorem dX12_readsAhead_23 : decode cX12_readsAhead 23 = .ok (.iload 4, 2) := by decide +kernel
theorem dX12_readsAhead_25 : decode cX12_readsAhead 25 = .ok (.bipush 16, 2) := by decide +kernel
theorem dX12_readsAhead_27 : decode cX12_readsAhead 27 = .ok (.if_icmp .ge 125, 3) := by decide +kernel
theorem dX12_readsAhead_30 : decode cX12_readsAhead 30 = .ok (.aload_n 0, 1) := by decide +kernel
theorem dX12_readsAhead_31 : decode cX12_readsAhead 31 = .ok (.iload_n 1, 1) := by decide +kernel
theorem dX12_readsAhead_32 : decode cX12_readsAhead 32 = .ok (.iload 4, 2) := by decide +kernel
theorem dX12_readsAhead_34 : decode cX12_readsAhead 34 = .ok (.invokevirtual 218, 3) := by decide +kernel
theorem dX12_readsAhead_37 : decode cX12_readsAhead 37 = .ok (.istore 5, 2) := by decide +kernel
theorem dX12_readsAhead_39 : decode cX12_readsAhead 39 = .ok (.aload_n 0, 1) := by decide +kernel
theorem dX12_readsAhead_40 : decode cX12_readsAhead 40 = .ok (.iload 5, 2) := by decide +kernel
theorem dX12_readsAhead_42 : decode cX12_readsAhead 42 = .ok (.invokevirtual 221, 3) := by decide +kernel
theorem dX12_readsAhead_45 : decode cX12_readsAhead 45 = .ok (.iconst (-1), 1) := by decide +kernel
theorem dX12_readsAhead_46 : decode cX12_readsAhead 46 = .ok (.if_icmp .eq 6, 3) := by decide +kernel
theorem dX12_readsAhead_49 : decode cX12_readsAhead 49 = .ok (.goto 97, 3) := by decide +kernel
theorem dX12_readsAhead_52 : decode cX12_readsAhead 52 = .ok (.aload_n 0, 1) := by decide +kernel
theorem dX12_readsAhead_53 : decode cX12_readsAhead 53 = .ok (.invokevirtual 185, 3) := by decide +kernel
theorem dX12_readsAhead_56 : decode cX12_readsAhead 56 = .ok (.istore 6, 2) := by decide +kernel
theorem dX12_readsAhead_58 : decode cX12_readsAhead 58 = .ok (.aload_n 0, 1) := by decide +kernel
theorem dX12_readsAhead_59 : decode cX12_readsAhead 59 = .ok (.iload 5, 2) := by decide +kernel
theorem dX12_readsAhead_61 : decode cX12_readsAhead 61 = .ok (.invokevirtual 224, 3) := by decide +kernel
theorem dX12_readsAhead_64 : decode cX12_readsAhead 64 = .ok (.ifCond .ne 18, 3) := by decide +kernel
theorem dX12_readsAhead_67 : decode cX12_readsAhead 67 = .ok (.iload 6, 2) := by decide +kernel
theorem dX12_readsAhead_69 : decode cX12_readsAhead 69 = .ok (.iconst (-1), 1) := by decide +kernel
theorem dX12_readsAhead_70 : decode cX12_readsAhead 70 = .ok (.if_icmp .ne 13, 3) := by decide +kernel
theorem dX12_readsAhead_73 : decode cX12_readsAhead 73 = .ok (.aload_n 0, 1) := by decide +kernel
theorem dX12_readsAhead_74 : decode cX12_readsAhead 74 = .ok (.iconst 1, 1) := by decide +kernel
theorem dX12_readsAhead_75 : decode cX12_readsAhead 75 = .ok (.iload_n 3, 1) := by decide +kernel
theorem dX12_readsAhead_76 : decode cX12_readsAhead 76 = .ok (.invokevirtual 227, 3) := by decide +kernel
theorem dX12_readsAhead_79 : decode cX12_readsAhead 79 = .ok (.ifCond .ne 4, 3) := by decide +kernel
theorem dX12_readsAhead_82 : decode cX12_readsAhead 82 = .ok (.return_, 1) := by decide +kernel
theorem dX12_readsAhead_83 : decode cX12_readsAhead 83 = .ok (.iload 6, 2) := by decide +kernel
theorem dX12_readsAhead_85 : decode cX12_readsAhead 85 = .ok (.iconst (-1), 1) := by decide +kernel
theorem dX12_readsAhead_86 : decode cX12_readsAhead 86 = .ok (.if_icmp .ne 12, 3) := by decide +kernel
theorem dX12_readsAhead_89 : decode cX12_readsAhead 89 = .ok (.aload_n 0, 1) := by decide +kernel
theorem dX12_readsAhead_90 : decode cX12_readsAhead 90 = .ok (.iconst 1, 1) := by decide +kernel
theorem dX12_readsAhead_91 : decode cX12_readsAhead 91 = .ok (.iload_n 3, 1) := by decide +kernel
theorem dX12_readsAhead_92 : decode cX12_readsAhead 92 = .ok (.invokevirtual 188, 3) := by decide +kernel
theorem dX12_readsAhead_95 : decode cX12_readsAhead 95 = .ok (.goto 5, 3) := by decide +kernel
theorem dX12_readsAhead_98 : decode cX12_readsAhead 98 = .ok (.iload 6, 2) := by decide +kernel
theorem dX12_readsAhead_100 : decode cX12_readsAhead 100 = .ok (.istore 6, 2) := by decide +kernel
theorem dX12_readsAhead_102 : decode cX12_readsAhead 102 = .ok (.aload_n 0, 1) := by decide +kernel
theorem dX12_readsAhead_103 : decode cX12_readsAhead 103 = .ok (.iload 5, 2) := by decide +kernel
theorem dX12_readsAhead_105 : decode cX12_readsAhead 105 = .ok (.invokevirtual 132, 3) := by decide +kernel
theorem dX12_readsAhead_108 : decode cX12_readsAhead 108 = .ok (.aload_n 0, 1) := by decide +kernel
theorem dX12_readsAhead_109 : decode cX12_readsAhead 109 = .ok (.iload 6, 2) := by decide +kernel
theorem dX12_readsAhead_111 : decode cX12_readsAhead 111 = .ok (.iload 5, 2) := by decide +kernel
theorem dX12_readsAhead_113 : decode cX12_readsAhead 113 = .ok (.invokevirtual 242, 3) := by decide +kernel
theorem dX12_readsAhead_116 : decode cX12_readsAhead 116 = .ok (.astore 7, 2) := by decide +kernel
theorem dX12_readsAhead_118 : decode cX12_readsAhead 118 = .ok (.aload 7, 2) := by decide +kernel
theorem dX12_readsAhead_120 : decode cX12_readsAhead 120 = .ok (.aload_n 0, 1) := by decide +kernel
theorem dX12_readsAhead_121 : decode cX12_readsAhead 121 = .ok (.getfield 9, 3) := by decide +kernel
theorem dX12_readsAhead_124 : decode cX12_readsAhead 124 = .ok (.iload 5, 2) := by decide +kernel
theorem dX12_readsAhead_126 : decode cX12_readsAhead 126 = .ok (.iaload, 1) := by decide +kernel
theorem dX12_readsAhead_127 : decode cX12_readsAhead 127 = .ok (.putfield 142, 3) := by decide +kernel
theorem dX12_readsAhead_130 : decode cX12_readsAhead 130 = .ok (.aload 7, 2) := by decide +kernel
theorem dX12_readsAhead_132 : decode cX12_readsAhead 132 = .ok (.iconst 1, 1) := by decide +kernel
theorem dX12_readsAhead_133 : decode cX12_readsAhead 133 = .ok (.putfield 200, 3) := by decide +kernel
theorem dX12_readsAhead_136 : decode cX12_readsAhead 136 = .ok (.aload_n 0, 1) := by decide +kernel
theorem dX12_readsAhead_137 : decode cX12_readsAhead 137 = .ok (.dup, 1) := by decide +kernel
theorem dX12_readsAhead_138 : decode cX12_readsAhead 138 = .ok (.getfield 249, 3) := by decide +kernel
theorem dX12_readsAhead_141 : decode cX12_readsAhead 141 = .ok (.iconst 1, 1) := by decide +kernel
theorem dX12_readsAhead_142 : decode cX12_readsAhead 142 = .ok (.iadd, 1) := by decide +kernel
theorem dX12_readsAhead_143 : decode cX12_readsAhead 143 = .ok (.putfield 249, 3) := by decide +kernel
theorem dX12_readsAhead_146 : decode cX12_readsAhead 146 = .ok (.iinc 4 1, 3) := by decide +kernel
theorem dX12_readsAhead_149 : decode cX12_readsAhead 149 = .ok (.goto (-137), 3) := by decide +kernel
theorem dX12_readsAhead_152 : decode cX12_readsAhead 152 = .ok (.return_, 1) := by decide +kernel
theorem dX12_written_0 : decode cX12_written 0 = .ok (.iconst 0, 1) := by decide +kernel
theorem dX12_written_1 : decode cX12_written 1 = .ok (.istore_n 1, 1) := by decide +kernel
theorem dX12_written_2 : decode cX12_written 2 = .ok (.aload_n 0, 1) := by decide +kernel
theorem dX12_written_3 : decode cX12_written 3 = .ok (.getfield 34, 3) := by decide +kernel
theorem dX12_written_6 : decode cX12_written 6 = .ok (.astore_n 2, 1) := by decide +kernel
theorem dX12_written_7 : decode cX12_written 7 = .ok (.aload_n 2, 1) := by decide +kernel
theorem dX12_written_8 : decode cX12_written 8 = .ok (.arraylength, 1) := by decide +kernel
theorem dX12_written_9 : decode cX12_written 9 = .ok (.istore_n 3, 1) := by decide +kernel
theorem dX12_written_10 : decode cX12_written 10 = .ok (.iconst 0, 1) := by decide +kernel
theorem dX12_written_11 : decode cX12_written 11 = .ok (.istore 4, 2) := by decide +kernel
theorem dX12_written_13 : decode cX12_written 13 = .ok (.iload 4, 2) := by decide +kernel
theorem dX12_written_15 : decode cX12_written 15 = .ok (.iload_n 3, 1) := by decide +kernel
theorem dX12_written_16 : decode cX12_written 16 = .ok (.if_icmp .ge 36, 3) := by decide +kernel
theorem dX12_written_19 : decode cX12_written 19 = .ok (.aload_n 2, 1) := by decide +kernel
theorem dX12_written_20 : decode cX12_written 20 = .ok (.iload 4, 2) := by decide +kernel
theorem dX12_written_22 : decode cX12_written 22 = .ok (.aaload, 1) := by decide +kernel
theorem dX12_written_23 : decode cX12_written 23 = .ok (.astore 5, 2) := by decide +kernel
theorem dX12_written_25 : decode cX12_written 25 = .ok (.iload_n 1, 1) := by decide +kernel
theorem dX12_written_26 : decode cX12_written 26 = .ok (.aload 5, 2) := by decide +kernel
theorem dX12_written_28 : decode cX12_written 28 = .ok (.ifnull 15, 3) := by decide +kernel
theorem dX12_written_31 : decode cX12_written 31 = .ok (.aload 5, 2) := by decide +kernel
theorem dX12_written_33 : decode cX12_written 33 = .ok (.getfield 252, 3) := by decide +kernel
theorem dX12_written_36 : decode cX12_written 36 = .ok (.ifCond .eq 7, 3) := by decide +kernel
theorem dX12_written_39 : decode cX12_written 39 = .ok (.iconst 1, 1) := by decide +kernel
theorem dX12_written_40 : decode cX12_written 40 = .ok (.goto 4, 3) := by decide +kernel
theorem dX12_written_43 : decode cX12_written 43 = .ok (.iconst 0, 1) := by decide +kernel
theorem dX12_written_44 : decode cX12_written 44 = .ok (.iadd, 1) := by decide +kernel
theorem dX12_written_45 : decode cX12_written 45 = .ok (.istore_n 1, 1) := by decide +kernel
theorem dX12_written_46 : decode cX12_written 46 = .ok (.iinc 4 1, 3) := by decide +kernel
theorem dX12_written_49 : decode cX12_written 49 = .ok (.goto (-36), 3) := by decide +kernel
theorem dX12_written_52 : decode cX12_written 52 = .ok (.iload_n 1, 1) := by decide +kernel
theorem dX12_written_53 : decode cX12_written 53 = .ok (.ireturn, 1) := by decide +kernel
theorem dX12_dirty_0 : decode cX12_dirty 0 = .ok (.iconst 0, 1) := by decide +kernel
theorem dX12_dirty_1 : decode cX12_dirty 1 = .ok (.istore_n 1, 1) := by decide +kernel
theorem dX12_dirty_2 : decode cX12_dirty 2 = .ok (.aload_n 0, 1) := by decide +kernel
theorem dX12_dirty_3 : decode cX12_dirty 3 = .ok (.getfield 34, 3) := by decide +kernel
theorem dX12_dirty_6 : decode cX12_dirty 6 = .ok (.astore_n 2, 1) := by decide +kernel
theorem dX12_dirty_7 : decode cX12_dirty 7 = .ok (.aload_n 2, 1) := by decide +kernel
theorem dX12_dirty_8 : decode cX12_dirty 8 = .ok (.arraylength, 1) := by decide +kernel
theorem dX12_dirty_9 : decode cX12_dirty 9 = .ok (.istore_n 3, 1) := by decide +kernel
theorem dX12_dirty_10 : decode cX12_dirty 10 = .ok (.iconst 0, 1) := by decide +kernel
theorem dX12_dirty_11 : decode cX12_dirty 11 = .ok (.istore 4, 2) := by decide +kernel
theorem dX12_dirty_13 : decode cX12_dirty 13 = .ok (.iload 4, 2) := by decide +kernel
theorem dX12_dirty_15 : decode cX12_dirty 15 = .ok (.iload_n 3, 1) := by decide +kernel
theorem dX12_dirty_16 : decode cX12_dirty 16 = .ok (.if_icmp .ge 44, 3) := by decide +kernel
theorem dX12_dirty_19 : decode cX12_dirty 19 = .ok (.aload_n 2, 1) := by decide +kernel
theorem dX12_dirty_20 : decode cX12_dirty 20 = .ok (.iload 4, 2) := by decide +kernel
theorem dX12_dirty_22 : decode cX12_dirty 22 = .ok (.aaload, 1) := by decide +kernel
theorem dX12_dirty_23 : decode cX12_dirty 23 = .ok (.astore 5, 2) := by decide +kernel
theorem dX12_dirty_25 : decode cX12_dirty 25 = .ok (.iload_n 1, 1) := by decide +kernel
theorem dX12_dirty_26 : decode cX12_dirty 26 = .ok (.aload 5, 2) := by decide +kernel
theorem dX12_dirty_28 : decode cX12_dirty 28 = .ok (.ifnull 23, 3) := by decide +kernel
theorem dX12_dirty_31 : decode cX12_dirty 31 = .ok (.aload 5, 2) := by decide +kernel
theorem dX12_dirty_33 : decode cX12_dirty 33 = .ok (.invokevirtual 155, 3) := by decide +kernel
theorem dX12_dirty_36 : decode cX12_dirty 36 = .ok (.ifCond .eq 15, 3) := by decide +kernel
theorem dX12_dirty_39 : decode cX12_dirty 39 = .ok (.aload 5, 2) := by decide +kernel
theorem dX12_dirty_41 : decode cX12_dirty 41 = .ok (.getfield 252, 3) := by decide +kernel
theorem dX12_dirty_44 : decode cX12_dirty 44 = .ok (.ifCond .ne 7, 3) := by decide +kernel
theorem dX12_dirty_47 : decode cX12_dirty 47 = .ok (.iconst 1, 1) := by decide +kernel
theorem dX12_dirty_48 : decode cX12_dirty 48 = .ok (.goto 4, 3) := by decide +kernel
theorem dX12_dirty_51 : decode cX12_dirty 51 = .ok (.iconst 0, 1) := by decide +kernel
theorem dX12_dirty_52 : decode cX12_dirty 52 = .ok (.iadd, 1) := by decide +kernel
theorem dX12_dirty_53 : decode cX12_dirty 53 = .ok (.istore_n 1, 1) := by decide +kernel
theorem dX12_dirty_54 : decode cX12_dirty 54 = .ok (.iinc 4 1, 3) := by decide +kernel
theorem dX12_dirty_57 : decode cX12_dirty 57 = .ok (.goto (-44), 3) := by decide +kernel
theorem dX12_dirty_60 : decode cX12_dirty 60 = .ok (.iload_n 1, 1) := by decide +kernel
theorem dX12_dirty_61 : decode cX12_dirty 61 = .ok (.ireturn, 1) := by decide +kernel
theorem dX12_write_0 : decode cX12_write 0 = .ok (.aload_n 0, 1) := by decide +kernel
theorem dX12_write_1 : decode cX12_write 1 = .ok (.iload_n 1, 1) := by decide +kernel
theorem dX12_write_2 : decode cX12_write 2 = .ok (.iload_n 2, 1) := by decide +kernel
theorem dX12_write_3 : decode cX12_write 3 = .ok (.invokevirtual 214, 3) := by decide +kernel
theorem dX12_write_6 : decode cX12_write 6 = .ok (.ifCond .eq 5, 3) := by decide +kernel
theorem dX12_write_9 : decode cX12_write 9 = .ok (.iconst 0, 1) := by decide +kernel
theorem dX12_write_10 : decode cX12_write 10 = .ok (.ireturn, 1) := by decide +kernel
theorem dX12_write_11 : decode cX12_write 11 = .ok (.aload_n 0, 1) := by decide +kernel
theorem dX12_write_12 : decode cX12_write 12 = .ok (.iload_n 1, 1) := by decide +kernel
theorem dX12_write_13 : decode cX12_write 13 = .ok (.iload_n 2, 1) := by decide +kernel
theorem dX12_write_14 : decode cX12_write 14 = .ok (.invokevirtual 218, 3) := by decide +kernel
theorem dX12_write_17 : decode cX12_write 17 = .ok (.istore 4, 2) := by decide +kernel
theorem dX12_write_19 : decode cX12_write 19 = .ok (.aload_n 0, 1) := by decide +kernel
theorem dX12_write_20 : decode cX12_write 20 = .ok (.iload 4, 2) := by decide +kernel
theorem dX12_write_22 : decode cX12_write 22 = .ok (.invokevirtual 221, 3) := by decide +kernel
theorem dX12_write_25 : decode cX12_write 25 = .ok (.istore 5, 2) := by decide +kernel
theorem dX12_write_27 : decode cX12_write 27 = .ok (.iload 5, 2) := by decide +kernel
theorem dX12_write_29 : decode cX12_write 29 = .ok (.iconst (-1), 1) := by decide +kernel
theorem dX12_write_30 : decode cX12_write 30 = .ok (.if_icmp .eq 7, 3) := by decide +kernel
theorem dX12_write_33 : decode cX12_write 33 = .ok (.iconst 1, 1) := by decide +kernel
theorem dX12_write_34 : decode cX12_write 34 = .ok (.goto 4, 3) := by decide +kernel
theorem dX12_write_37 : decode cX12_write 37 = .ok (.iconst 0, 1) := by decide +kernel
theorem dX12_write_38 : decode cX12_write 38 = .ok (.istore 6, 2) := by decide +kernel
theorem dX12_write_40 : decode cX12_write 40 = .ok (.iload 6, 2) := by decide +kernel
theorem dX12_write_42 : decode cX12_write 42 = .ok (.ifCond .ne 24, 3) := by decide +kernel
theorem dX12_write_45 : decode cX12_write 45 = .ok (.aload_n 0, 1) := by decide +kernel
theorem dX12_write_46 : decode cX12_write 46 = .ok (.invokevirtual 185, 3) := by decide +kernel
theorem dX12_write_49 : decode cX12_write 49 = .ok (.iconst (-1), 1) := by decide +kernel
theorem dX12_write_50 : decode cX12_write 50 = .ok (.if_icmp .ne 16, 3) := by decide +kernel
theorem dX12_write_53 : decode cX12_write 53 = .ok (.aload_n 0, 1) := by decide +kernel
theorem dX12_write_54 : decode cX12_write 54 = .ok (.iconst 0, 1) := by decide +kernel
theorem dX12_write_55 : decode cX12_write 55 = .ok (.iconst (-1), 1) := by decide +kernel
theorem dX12_write_56 : decode cX12_write 56 = .ok (.invokevirtual 227, 3) := by decide +kernel
theorem dX12_write_59 : decode cX12_write 59 = .ok (.ifCond .ne 7, 3) := by decide +kernel
theorem dX12_write_62 : decode cX12_write 62 = .ok (.iconst 1, 1) := by decide +kernel
theorem dX12_write_63 : decode cX12_write 63 = .ok (.goto 4, 3) := by decide +kernel
theorem dX12_write_66 : decode cX12_write 66 = .ok (.iconst 0, 1) := by decide +kernel
theorem dX12_write_67 : decode cX12_write 67 = .ok (.istore 7, 2) := by decide +kernel
theorem dX12_write_69 : decode cX12_write 69 = .ok (.aload_n 0, 1) := by decide +kernel
theorem dX12_write_70 : decode cX12_write 70 = .ok (.getfield 126, 3) := by decide +kernel
theorem dX12_write_73 : decode cX12_write 73 = .ok (.ifCond .eq 34, 3) := by decide +kernel
theorem dX12_write_76 : decode cX12_write 76 = .ok (.iload 6, 2) := by decide +kernel
theorem dX12_write_78 : decode cX12_write 78 = .ok (.ifCond .eq 16, 3) := by decide +kernel
theorem dX12_write_81 : decode cX12_write 81 = .ok (.aload_n 0, 1) := by decide +kernel
theorem dX12_write_82 : decode cX12_write 82 = .ok (.getfield 34, 3) := by decide +kernel
theorem dX12_write_85 : decode cX12_write 85 = .ok (.iload 5, 2) := by decide +kernel
theorem dX12_write_87 : decode cX12_write 87 = .ok (.aaload, 1) := by decide +kernel
theorem dX12_write_88 : decode cX12_write 88 = .ok (.getfield 252, 3) := by decide +kernel
theorem dX12_write_91 : decode cX12_write 91 = .ok (.ifCond .ne 16, 3) := by decide +kernel
theorem dX12_write_94 : decode cX12_write 94 = .ok (.aload_n 0, 1) := by decide +kernel
theorem dX12_write_95 : decode cX12_write 95 = .ok (.invokevirtual 255, 3) := by decide +kernel
theorem dX12_write_98 : decode cX12_write 98 = .ok (.bipush 6, 2) := by decide +kernel
theorem dX12_write_100 : decode cX12_write 100 = .ok (.if_icmp .ne 7, 3) := by decide +kernel
theorem dX12_write_103 : decode cX12_write 103 = .ok (.iconst 1, 1) := by decide +kernel
theorem dX12_write_104 : decode cX12_write 104 = .ok (.goto 4, 3) := by decide +kernel
theorem dX12_write_107 : decode cX12_write 107 = .ok (.iconst 0, 1) := by decide +kernel
theorem dX12_write_108 : decode cX12_write 108 = .ok (.istore 8, 2) := by decide +kernel
theorem dX12_write_110 : decode cX12_write 110 = .ok (.aload_n 0, 1) := by decide +kernel
theorem dX12_write_111 : decode cX12_write 111 = .ok (.iload_n 3, 1) := by decide +kernel
theorem dX12_write_112 : decode cX12_write 112 = .ok (.i2l, 1) := by decide +kernel
theorem dX12_write_113 : decode cX12_write 113 = .ok (.lconst 0, 1) := by decide +kernel
theorem dX12_write_114 : decode cX12_write 114 = .ok (.ldc2_w 258, 3) := by decide +kernel
theorem dX12_write_117 : decode cX12_write 117 = .ok (.invokestatic 69, 3) := by decide +kernel
theorem dX12_write_120 : decode cX12_write 120 = .ok (.ifCond .ne 7, 3) := by decide +kernel
theorem dX12_write_123 : decode cX12_write 123 = .ok (.iconst 2, 1) := by decide +kernel
theorem dX12_write_124 : decode cX12_write 124 = .ok (.goto 29, 3) := by decide +kernel
theorem dX12_write_127 : decode cX12_write 127 = .ok (.aload_n 0, 1) := by decide +kernel
theorem dX12_write_128 : decode cX12_write 128 = .ok (.getfield 56, 3) := by decide +kernel
theorem dX12_write_131 : decode cX12_write 131 = .ok (.ifCond .ne 7, 3) := by decide +kernel
theorem dX12_write_134 : decode cX12_write 134 = .ok (.iconst 3, 1) := by decide +kernel
theorem dX12_write_135 : decode cX12_write 135 = .ok (.goto 18, 3) := by decide +kernel
theorem dX12_write_138 : decode cX12_write 138 = .ok (.iload 7, 2) := by decide +kernel
theorem dX12_write_140 : decode cX12_write 140 = .ok (.ifCond .ne 8, 3) := by decide +kernel
theorem dX12_write_143 : decode cX12_write 143 = .ok (.iload 8, 2) := by decide +kernel
theorem dX12_write_145 : decode cX12_write 145 = .ok (.ifCond .eq 7, 3) := by decide +kernel
theorem dX12_write_148 : decode cX12_write 148 = .ok (.iconst 4, 1) := by decide +kernel
theorem dX12_write_149 : decode cX12_write 149 = .ok (.goto 4, 3) := by decide +kernel
theorem dX12_write_152 : decode cX12_write 152 = .ok (.iconst 0, 1) := by decide +kernel
theorem dX12_write_153 : decode cX12_write 153 = .ok (.putfield 66, 3) := by decide +kernel
theorem dX12_write_156 : decode cX12_write 156 = .ok (.aload_n 0, 1) := by decide +kernel
theorem dX12_write_157 : decode cX12_write 157 = .ok (.getfield 66, 3) := by decide +kernel
theorem dX12_write_160 : decode cX12_write 160 = .ok (.ifCond .le 5, 3) := by decide +kernel
theorem dX12_write_163 : decode cX12_write 163 = .ok (.iconst 0, 1) := by decide +kernel
theorem dX12_write_164 : decode cX12_write 164 = .ok (.ireturn, 1) := by decide +kernel
theorem dX12_write_165 : decode cX12_write 165 = .ok (.aload_n 0, 1) := by decide +kernel
theorem dX12_write_166 : decode cX12_write 166 = .ok (.iload_n 1, 1) := by decide +kernel
theorem dX12_write_167 : decode cX12_write 167 = .ok (.iload_n 2, 1) := by decide +kernel
theorem dX12_write_168 : decode cX12_write 168 = .ok (.iload 6, 2) := by decide +kernel
theorem dX12_write_170 : decode cX12_write 170 = .ok (.invokevirtual 231, 3) := by decide +kernel
theorem dX12_write_173 : decode cX12_write 173 = .ok (.iload 6, 2) := by decide +kernel
theorem dX12_write_175 : decode cX12_write 175 = .ok (.ifCond .eq 17, 3) := by decide +kernel
theorem dX12_write_178 : decode cX12_write 178 = .ok (.aload_n 0, 1) := by decide +kernel
theorem dX12_write_179 : decode cX12_write 179 = .ok (.aload_n 0, 1) := by decide +kernel
theorem dX12_write_180 : decode cX12_write 180 = .ok (.getfield 34, 3) := by decide +kernel
theorem dX12_write_183 : decode cX12_write 183 = .ok (.iload 5, 2) := by decide +kernel
theorem dX12_write_185 : decode cX12_write 185 = .ok (.aaload, 1) := by decide +kernel
theorem dX12_write_186 : decode cX12_write 186 = .ok (.invokevirtual 235, 3) := by decide +kernel
theorem dX12_write_189 : decode cX12_write 189 = .ok (.goto 27, 3) := by decide +kernel
theorem dX12_write_192 : decode cX12_write 192 = .ok (.aload_n 0, 1) := by decide +kernel
theorem dX12_write_193 : decode cX12_write 193 = .ok (.invokevirtual 239, 3) := by decide +kernel
theorem dX12_write_196 : decode cX12_write 196 = .ok (.istore 5, 2) := by decide +kernel
theorem dX12_write_198 : decode cX12_write 198 = .ok (.iload 5, 2) := by decide +kernel
theorem dX12_write_200 : decode cX12_write 200 = .ok (.iconst (-1), 1) := by decide +kernel
theorem dX12_write_201 : decode cX12_write 201 = .ok (.if_icmp .ne 5, 3) := by decide +kernel
theorem dX12_write_204 : decode cX12_write 204 = .ok (.iconst (-1), 1) := by decide +kernel
theorem dX12_write_205 : decode cX12_write 205 = .ok (.ireturn, 1) := by decide +kernel
theorem dX12_write_206 : decode cX12_write 206 = .ok (.aload_n 0, 1) := by decide +kernel
theorem dX12_write_207 : decode cX12_write 207 = .ok (.iload 5, 2) := by decide +kernel
theorem dX12_write_209 : decode cX12_write 209 = .ok (.iload 4, 2) := by decide +kernel
theorem dX12_write_211 : decode cX12_write 211 = .ok (.invokevirtual 242, 3) := by decide +kernel
theorem dX12_write_214 : decode cX12_write 214 = .ok (.astore 9, 2) := by decide +kernel
theorem dX12_write_216 : decode cX12_write 216 = .ok (.aload_n 0, 1) := by decide +kernel
theorem dX12_write_217 : decode cX12_write 217 = .ok (.getfield 34, 3) := by decide +kernel
theorem dX12_write_220 : decode cX12_write 220 = .ok (.iload 5, 2) := by decide +kernel
theorem dX12_write_222 : decode cX12_write 222 = .ok (.aaload, 1) := by decide +kernel
theorem dX12_write_223 : decode cX12_write 223 = .ok (.astore 9, 2) := by decide +kernel
theorem dX12_write_225 : decode cX12_write 225 = .ok (.aload_n 0, 1) := by decide +kernel
theorem dX12_write_226 : decode cX12_write 226 = .ok (.getfield 126, 3) := by decide +kernel
theorem dX12_write_229 : decode cX12_write 229 = .ok (.ifCond .eq 52, 3) := by decide +kernel
theorem dX12_write_232 : decode cX12_write 232 = .ok (.aload 9, 2) := by decide +kernel
theorem dX12_write_234 : decode cX12_write 234 = .ok (.getfield 252, 3) := by decide +kernel
theorem dX12_write_237 : decode cX12_write 237 = .ok (.ifCond .ne 44, 3) := by decide +kernel
theorem dX12_write_240 : decode cX12_write 240 = .ok (.aload 9, 2) := by decide +kernel
theorem dX12_write_242 : decode cX12_write 242 = .ok (.iconst 1, 1) := by decide +kernel
theorem dX12_write_243 : decode cX12_write 243 = .ok (.putfield 252, 3) := by decide +kernel
theorem dX12_write_246 : decode cX12_write 246 = .ok (.aload 9, 2) := by decide +kernel
theorem dX12_write_248 : decode cX12_write 248 = .ok (.iload 6, 2) := by decide +kernel
theorem dX12_write_250 : decode cX12_write 250 = .ok (.ifCond .ne 7, 3) := by decide +kernel
theorem dX12_write_253 : decode cX12_write 253 = .ok (.iconst 1, 1) := by decide +kernel
theorem dX12_write_254 : decode cX12_write 254 = .ok (.goto 4, 3) := by decide +kernel
theorem dX12_write_257 : decode cX12_write 257 = .ok (.iconst 0, 1) := by decide +kernel
theorem dX12_write_258 : decode cX12_write 258 = .ok (.putfield 260, 3) := by decide +kernel
theorem dX12_write_261 : decode cX12_write 261 = .ok (.aload 9, 2) := by decide +kernel
theorem dX12_write_263 : decode cX12_write 263 = .ok (.aload 9, 2) := by decide +kernel
theorem dX12_write_265 : decode cX12_write 265 = .ok (.getfield 142, 3) := by decide +kernel
theorem dX12_write_268 : decode cX12_write 268 = .ok (.putfield 263, 3) := by decide +kernel
theorem dX12_write_271 : decode cX12_write 271 = .ok (.aload 9, 2) := by decide +kernel
theorem dX12_write_273 : decode cX12_write 273 = .ok (.aload 9, 2) := by decide +kernel
theorem dX12_write_275 : decode cX12_write 275 = .ok (.getfield 151, 3) := by decide +kernel
theorem dX12_write_278 : decode cX12_write 278 = .ok (.putfield 266, 3) := by decide +kernel
theorem dX12_write_281 : decode cX12_write 281 = .ok (.aload 9, 2) := by decide +kernel
theorem dX12_write_283 : decode cX12_write 283 = .ok (.iload_n 3, 1) := by decide +kernel
theorem dX12_write_284 : decode cX12_write 284 = .ok (.putfield 142, 3) := by decide +kernel
theorem dX12_write_287 : decode cX12_write 287 = .ok (.aload 9, 2) := by decide +kernel
theorem dX12_write_289 : decode cX12_write 289 = .ok (.aload 9, 2) := by decide +kernel
theorem dX12_write_291 : decode cX12_write 291 = .ok (.invokevirtual 155, 3) := by decide +kernel
theorem dX12_write_294 : decode cX12_write 294 = .ok (.ifCond .eq 11, 3) := by decide +kernel
theorem dX12_write_297 : decode cX12_write 297 = .ok (.aload 9, 2) := by decide +kernel
theorem dX12_write_299 : decode cX12_write 299 = .ok (.getfield 151, 3) := by decide +kernel
theorem dX12_write_302 : decode cX12_write 302 = .ok (.goto 7, 3) := by decide +kernel
theorem dX12_write_305 : decode cX12_write 305 = .ok (.aload_n 0, 1) := by decide +kernel
theorem dX12_write_306 : decode cX12_write 306 = .ok (.getfield 192, 3) := by decide +kernel
theorem dX12_write_309 : decode cX12_write 309 = .ok (.putfield 151, 3) := by decide +kernel
theorem dX12_write_312 : decode cX12_write 312 = .ok (.iconst 0, 1) := by decide +kernel
theorem dX12_write_313 : decode cX12_write 313 = .ok (.istore 10, 2) := by decide +kernel
theorem dX12_write_315 : decode cX12_write 315 = .ok (.aload_n 0, 1) := by decide +kernel
theorem dX12_write_316 : decode cX12_write 316 = .ok (.invokevirtual 269, 3) := by decide +kernel
theorem dX12_write_319 : decode cX12_write 319 = .ok (.aload_n 0, 1) := by decide +kernel
theorem dX12_write_320 : decode cX12_write 320 = .ok (.getfield 46, 3) := by decide +kernel
theorem dX12_write_323 : decode cX12_write 323 = .ok (.if_icmp .le 32, 3) := by decide +kernel
theorem dX12_write_326 : decode cX12_write 326 = .ok (.aload_n 0, 1) := by decide +kernel
theorem dX12_write_327 : decode cX12_write 327 = .ok (.aload_n 0, 1) := by decide +kernel
theorem dX12_write_328 : decode cX12_write 328 = .ok (.invokevirtual 272, 3) := by decide +kernel
theorem dX12_write_331 : decode cX12_write 331 = .ok (.invokevirtual 158, 3) := by decide +kernel
theorem dX12_write_334 : decode cX12_write 334 = .ok (.ifCond .ne 5, 3) := by decide +kernel
theorem dX12_write_337 : decode cX12_write 337 = .ok (.iconst (-1), 1) := by decide +kernel
theorem dX12_write_338 : decode cX12_write 338 = .ok (.ireturn, 1) := by decide +kernel
theorem dX12_write_339 : decode cX12_write 339 = .ok (.iinc 10 1, 3) := by decide +kernel
theorem dX12_write_342 : decode cX12_write 342 = .ok (.aload_n 0, 1) := by decide +kernel
theorem dX12_write_343 : decode cX12_write 343 = .ok (.dup, 1) := by decide +kernel
theorem dX12_write_344 : decode cX12_write 344 = .ok (.getfield 276, 3) := by decide +kernel
theorem dX12_write_347 : decode cX12_write 347 = .ok (.iconst 1, 1) := by decide +kernel
theorem dX12_write_348 : decode cX12_write 348 = .ok (.iadd, 1) := by decide +kernel
theorem dX12_write_349 : decode cX12_write 349 = .ok (.putfield 276, 3) := by decide +kernel
theorem dX12_write_352 : decode cX12_write 352 = .ok (.goto (-37), 3) := by decide +kernel
theorem dX12_write_355 : decode cX12_write 355 = .ok (.iload 10, 2) := by decide +kernel
theorem dX12_write_357 : decode cX12_write 357 = .ok (.ireturn, 1) := by decide +kernel
theorem dX12_longest_0 : decode cX12_longest 0 = .ok (.aconst_null, 1) := by decide +kernel
theorem dX12_longest_1 : decode cX12_longest 1 = .ok (.astore_n 1, 1) := by decide +kernel
theorem dX12_longest_2 : decode cX12_longest 2 = .ok (.aload_n 0, 1) := by decide +kernel
theorem dX12_longest_3 : decode cX12_longest 3 = .ok (.getfield 34, 3) := by decide +kernel
theorem dX12_longest_6 : decode cX12_longest 6 = .ok (.astore_n 2, 1) := by decide +kernel
theorem dX12_longest_7 : decode cX12_longest 7 = .ok (.aload_n 2, 1) := by decide +kernel
theorem dX12_longest_8 : decode cX12_longest 8 = .ok (.arraylength, 1) := by decide +kernel
theorem dX12_longest_9 : decode cX12_longest 9 = .ok (.istore_n 3, 1) := by decide +kernel
theorem dX12_longest_10 : decode cX12_longest 10 = .ok (.iconst 0, 1) := by decide +kernel
theorem dX12_longest_11 : decode cX12_longest 11 = .ok (.istore 4, 2) := by decide +kernel
theorem dX12_longest_13 : decode cX12_longest 13 = .ok (.iload 4, 2) := by decide +kernel
theorem dX12_longest_15 : decode cX12_longest 15 = .ok (.iload_n 3, 1) := by decide +kernel
theorem dX12_longest_16 : decode cX12_longest 16 = .ok (.if_icmp .ge 72, 3) := by decide +kernel
theorem dX12_longest_19 : decode cX12_longest 19 = .ok (.aload_n 2, 1) := by decide +kernel
theorem dX12_longest_20 : decode cX12_longest 20 = .ok (.iload 4, 2) := by decide +kernel
theorem dX12_longest_22 : decode cX12_longest 22 = .ok (.aaload, 1) := by decide +kernel
theorem dX12_longest_23 : decode cX12_longest 23 = .ok (.astore 5, 2) := by decide +kernel
theorem dX12_longest_25 : decode cX12_longest 25 = .ok (.aload 5, 2) := by decide +kernel
theorem dX12_longest_27 : decode cX12_longest 27 = .ok (.ifnull 40, 3) := by decide +kernel
theorem dX12_longest_30 : decode cX12_longest 30 = .ok (.aload 5, 2) := by decide +kernel
theorem dX12_longest_32 : decode cX12_longest 32 = .ok (.invokevirtual 155, 3) := by decide +kernel
theorem dX12_longest_35 : decode cX12_longest 35 = .ok (.ifCond .eq 32, 3) := by decide +kernel
theorem dX12_longest_38 : decode cX12_longest 38 = .ok (.aload 5, 2) := by decide +kernel
theorem dX12_longest_40 : decode cX12_longest 40 = .ok (.getfield 252, 3) := by decide +kernel
theorem dX12_longest_43 : decode cX12_longest 43 = .ok (.ifCond .ne 24, 3) := by decide +kernel
theorem dX12_longest_46 : decode cX12_longest 46 = .ok (.aload_n 1, 1) := by decide +kernel
theorem dX12_longest_47 : decode cX12_longest 47 = .ok (.ifnull 16, 3) := by decide +kernel
theorem dX12_longest_50 : decode cX12_longest 50 = .ok (.aload 5, 2) := by decide +kernel
theorem dX12_longest_52 : decode cX12_longest 52 = .ok (.getfield 151, 3) := by decide +kernel
theorem dX12_longest_55 : decode cX12_longest 55 = .ok (.aload_n 1, 1) := by decide +kernel
theorem dX12_longest_56 : decode cX12_longest 56 = .ok (.getfield 151, 3) := by decide +kernel
theorem dX12_longest_59 : decode cX12_longest 59 = .ok (.lcmp, 1) := by decide +kernel
theorem dX12_longest_60 : decode cX12_longest 60 = .ok (.ifCond .ge 7, 3) := by decide +kernel
theorem dX12_longest_63 : decode cX12_longest 63 = .ok (.iconst 1, 1) := by decide +kernel
theorem dX12_longest_64 : decode cX12_longest 64 = .ok (.goto 4, 3) := by decide +kernel
theorem dX12_longest_67 : decode cX12_longest 67 = .ok (.iconst 0, 1) := by decide +kernel
theorem dX12_longest_68 : decode cX12_longest 68 = .ok (.istore 6, 2) := by decide +kernel
theorem dX12_longest_70 : decode cX12_longest 70 = .ok (.iload 6, 2) := by decide +kernel
theorem dX12_longest_72 : decode cX12_longest 72 = .ok (.ifCond .eq 8, 3) := by decide +kernel
theorem dX12_longest_75 : decode cX12_longest 75 = .ok (.aload 5, 2) := by decide +kernel
theorem dX12_longest_77 : decode cX12_longest 77 = .ok (.goto 4, 3) := by decide +kernel
theorem dX12_longest_80 : decode cX12_longest 80 = .ok (.aload_n 1, 1) := by decide +kernel
theorem dX12_longest_81 : decode cX12_longest 81 = .ok (.astore_n 1, 1) := by decide +kernel
theorem dX12_longest_82 : decode cX12_longest 82 = .ok (.iinc 4 1, 3) := by decide +kernel
theorem dX12_longest_85 : decode cX12_longest 85 = .ok (.goto (-72), 3) := by decide +kernel
theorem dX12_longest_88 : decode cX12_longest 88 = .ok (.aload_n 1, 1) := by decide +kernel
theorem dX12_longest_89 : decode cX12_longest 89 = .ok (.areturn, 1) := by decide +kernel
theorem dX12_paged_0 : decode cX12_paged 0 = .ok (.aload_n 0, 1) := by decide +kernel
theorem dX12_paged_1 : decode cX12_paged 1 = .ok (.iload_n 1, 1) := by decide +kernel
theorem dX12_paged_2 : decode cX12_paged 2 = .ok (.iload_n 2, 1) := by decide +kernel
theorem dX12_paged_3 : decode cX12_paged 3 = .ok (.invokevirtual 214, 3) := by decide +kernel
theorem dX12_paged_6 : decode cX12_paged 6 = .ok (.ifCond .eq 5, 3) := by decide +kernel
theorem dX12_paged_9 : decode cX12_paged 9 = .ok (.aconst_null, 1) := by decide +kernel
theorem dX12_paged_10 : decode cX12_paged 10 = .ok (.areturn, 1) := by decide +kernel
theorem dX12_paged_11 : decode cX12_paged 11 = .ok (.aload_n 0, 1) := by decide +kernel
theorem dX12_paged_12 : decode cX12_paged 12 = .ok (.aload_n 0, 1) := by decide +kernel
theorem dX12_paged_13 : decode cX12_paged 13 = .ok (.iload_n 1, 1) := by decide +kernel
theorem dX12_paged_14 : decode cX12_paged 14 = .ok (.iload_n 2, 1) := by decide +kernel
theorem dX12_paged_15 : decode cX12_paged 15 = .ok (.invokevirtual 218, 3) := by decide +kernel
theorem dX12_paged_18 : decode cX12_paged 18 = .ok (.invokevirtual 221, 3) := by decide +kernel
theorem dX12_paged_21 : decode cX12_paged 21 = .ok (.istore_n 3, 1) := by decide +kernel
theorem dX12_paged_22 : decode cX12_paged 22 = .ok (.aload_n 0, 1) := by decide +kernel
theorem dX12_paged_23 : decode cX12_paged 23 = .ok (.iload_n 3, 1) := by decide +kernel
theorem dX12_paged_24 : decode cX12_paged 24 = .ok (.iconst (-1), 1) := by decide +kernel
theorem dX12_paged_25 : decode cX12_paged 25 = .ok (.if_icmp .ne 7, 3) := by decide +kernel
theorem dX12_paged_28 : decode cX12_paged 28 = .ok (.iconst 2, 1) := by decide +kernel
theorem dX12_paged_29 : decode cX12_paged 29 = .ok (.goto 4, 3) := by decide +kernel
theorem dX12_paged_32 : decode cX12_paged 32 = .ok (.iconst 0, 1) := by decide +kernel
theorem dX12_paged_33 : decode cX12_paged 33 = .ok (.putfield 66, 3) := by decide +kernel
theorem dX12_paged_36 : decode cX12_paged 36 = .ok (.iload_n 3, 1) := by decide +kernel
theorem dX12_paged_37 : decode cX12_paged 37 = .ok (.iconst (-1), 1) := by decide +kernel
theorem dX12_paged_38 : decode cX12_paged 38 = .ok (.if_icmp .ne 7, 3) := by decide +kernel
theorem dX12_paged_41 : decode cX12_paged 41 = .ok (.aconst_null, 1) := by decide +kernel
theorem dX12_paged_42 : decode cX12_paged 42 = .ok (.goto 9, 3) := by decide +kernel
theorem dX12_paged_45 : decode cX12_paged 45 = .ok (.aload_n 0, 1) := by decide +kernel
theorem dX12_paged_46 : decode cX12_paged 46 = .ok (.getfield 34, 3) := by decide +kernel
theorem dX12_paged_49 : decode cX12_paged 49 = .ok (.iload_n 3, 1) := by decide +kernel
theorem dX12_paged_50 : decode cX12_paged 50 = .ok (.aaload, 1) := by decide +kernel
theorem dX12_paged_51 : decode cX12_paged 51 = .ok (.areturn, 1) := by decide +kernel
theorem dX12_pin_0 : decode cX12_pin 0 = .ok (.aload_n 0, 1) := by decide +kernel
theorem dX12_pin_1 : decode cX12_pin 1 = .ok (.iload_n 1, 1) := by decide +kernel
theorem dX12_pin_2 : decode cX12_pin 2 = .ok (.iload_n 2, 1) := by decide +kernel
theorem dX12_pin_3 : decode cX12_pin 3 = .ok (.invokevirtual 279, 3) := by decide +kernel
theorem dX12_pin_6 : decode cX12_pin 6 = .ok (.astore_n 3, 1) := by decide +kernel
theorem dX12_pin_7 : decode cX12_pin 7 = .ok (.aload_n 3, 1) := by decide +kernel
theorem dX12_pin_8 : decode cX12_pin 8 = .ok (.ifnonnull 5, 3) := by decide +kernel
theorem dX12_pin_11 : decode cX12_pin 11 = .ok (.iconst 0, 1) := by decide +kernel
theorem dX12_pin_12 : decode cX12_pin 12 = .ok (.ireturn, 1) := by decide +kernel
theorem dX12_pin_13 : decode cX12_pin 13 = .ok (.aload_n 3, 1) := by decide +kernel
theorem dX12_pin_14 : decode cX12_pin 14 = .ok (.dup, 1) := by decide +kernel
theorem dX12_pin_15 : decode cX12_pin 15 = .ok (.getfield 282, 3) := by decide +kernel
theorem dX12_pin_18 : decode cX12_pin 18 = .ok (.iconst 1, 1) := by decide +kernel
theorem dX12_pin_19 : decode cX12_pin 19 = .ok (.iadd, 1) := by decide +kernel
theorem dX12_pin_20 : decode cX12_pin 20 = .ok (.putfield 282, 3) := by decide +kernel
theorem dX12_pin_23 : decode cX12_pin 23 = .ok (.aload_n 3, 1) := by decide +kernel
theorem dX12_pin_24 : decode cX12_pin 24 = .ok (.getfield 282, 3) := by decide +kernel
theorem dX12_pin_27 : decode cX12_pin 27 = .ok (.ireturn, 1) := by decide +kernel
theorem dX12_unpin_0 : decode cX12_unpin 0 = .ok (.aload_n 0, 1) := by decide +kernel
theorem dX12_unpin_1 : decode cX12_unpin 1 = .ok (.iload_n 1, 1) := by decide +kernel
theorem dX12_unpin_2 : decode cX12_unpin 2 = .ok (.iload_n 2, 1) := by decide +kernel
theorem dX12_unpin_3 : decode cX12_unpin 3 = .ok (.invokevirtual 279, 3) := by decide +kernel
theorem dX12_unpin_6 : decode cX12_unpin 6 = .ok (.astore_n 3, 1) := by decide +kernel
theorem dX12_unpin_7 : decode cX12_unpin 7 = .ok (.aload_n 3, 1) := by decide +kernel
theorem dX12_unpin_8 : decode cX12_unpin 8 = .ok (.ifnonnull 5, 3) := by decide +kernel
theorem dX12_unpin_11 : decode cX12_unpin 11 = .ok (.iconst 0, 1) := by decide +kernel
theorem dX12_unpin_12 : decode cX12_unpin 12 = .ok (.ireturn, 1) := by decide +kernel
theorem dX12_unpin_13 : decode cX12_unpin 13 = .ok (.aload_n 0, 1) := by decide +kernel
theorem dX12_unpin_14 : decode cX12_unpin 14 = .ok (.aload_n 3, 1) := by decide +kernel
theorem dX12_unpin_15 : decode cX12_unpin 15 = .ok (.getfield 282, 3) := by decide +kernel
theorem dX12_unpin_18 : decode cX12_unpin 18 = .ok (.ifCond .ne 7, 3) := by decide +kernel
theorem dX12_unpin_21 : decode cX12_unpin 21 = .ok (.iconst 2, 1) := by decide +kernel
theorem dX12_unpin_22 : decode cX12_unpin 22 = .ok (.goto 4, 3) := by decide +kernel
theorem dX12_unpin_25 : decode cX12_unpin 25 = .ok (.iconst 0, 1) := by decide +kernel
theorem dX12_unpin_26 : decode cX12_unpin 26 = .ok (.putfield 66, 3) := by decide +kernel
theorem dX12_unpin_29 : decode cX12_unpin 29 = .ok (.aload_n 3, 1) := by decide +kernel
theorem dX12_unpin_30 : decode cX12_unpin 30 = .ok (.iconst 0, 1) := by decide +kernel
theorem dX12_unpin_31 : decode cX12_unpin 31 = .ok (.aload_n 3, 1) := by decide +kernel
theorem dX12_unpin_32 : decode cX12_unpin 32 = .ok (.getfield 282, 3) := by decide +kernel
theorem dX12_unpin_35 : decode cX12_unpin 35 = .ok (.iconst 1, 1) := by decide +kernel
theorem dX12_unpin_36 : decode cX12_unpin 36 = .ok (.isub, 1) := by decide +kernel
theorem dX12_unpin_37 : decode cX12_unpin 37 = .ok (.invokestatic 87, 3) := by decide +kernel
theorem dX12_unpin_40 : decode cX12_unpin 40 = .ok (.putfield 282, 3) := by decide +kernel
theorem dX12_unpin_43 : decode cX12_unpin 43 = .ok (.aload_n 3, 1) := by decide +kernel
theorem dX12_unpin_44 : decode cX12_unpin 44 = .ok (.getfield 282, 3) := by decide +kernel
theorem dX12_unpin_47 : decode cX12_unpin 47 = .ok (.ireturn, 1) := by decide +kernel
theorem dX12_frameOf_0 : decode cX12_frameOf 0 = .ok (.aload_n 0, 1) := by decide +kernel
theorem dX12_frameOf_1 : decode cX12_frameOf 1 = .ok (.iload_n 1, 1) := by decide +kernel
theorem dX12_frameOf_2 : decode cX12_frameOf 2 = .ok (.iload_n 2, 1) := by decide +kernel
theorem dX12_frameOf_3 : decode cX12_frameOf 3 = .ok (.invokevirtual 214, 3) := by decide +kernel
theorem dX12_frameOf_6 : decode cX12_frameOf 6 = .ok (.ifCond .eq 7, 3) := by decide +kernel
theorem dX12_frameOf_9 : decode cX12_frameOf 9 = .ok (.iconst 0, 1) := by decide +kernel
theorem dX12_frameOf_10 : decode cX12_frameOf 10 = .ok (.goto 13, 3) := by decide +kernel
theorem dX12_frameOf_13 : decode cX12_frameOf 13 = .ok (.aload_n 0, 1) := by decide +kernel
theorem dX12_frameOf_14 : decode cX12_frameOf 14 = .ok (.aload_n 0, 1) := by decide +kernel
theorem dX12_frameOf_15 : decode cX12_frameOf 15 = .ok (.iload_n 1, 1) := by decide +kernel
theorem dX12_frameOf_16 : decode cX12_frameOf 16 = .ok (.iload_n 2, 1) := by decide +kernel
theorem dX12_frameOf_17 : decode cX12_frameOf 17 = .ok (.invokevirtual 218, 3) := by decide +kernel
theorem dX12_frameOf_20 : decode cX12_frameOf 20 = .ok (.invokevirtual 221, 3) := by decide +kernel
theorem dX12_frameOf_23 : decode cX12_frameOf 23 = .ok (.ireturn, 1) := by decide +kernel
theorem dX12_isDirty_0 : decode cX12_isDirty 0 = .ok (.aload_n 0, 1) := by decide +kernel
theorem dX12_isDirty_1 : decode cX12_isDirty 1 = .ok (.iload_n 1, 1) := by decide +kernel
theorem dX12_isDirty_2 : decode cX12_isDirty 2 = .ok (.iload_n 2, 1) := by decide +kernel
theorem dX12_isDirty_3 : decode cX12_isDirty 3 = .ok (.invokevirtual 214, 3) := by decide +kernel
theorem dX12_isDirty_6 : decode cX12_isDirty 6 = .ok (.ifCond .eq 5, 3) := by decide +kernel
theorem dX12_isDirty_9 : decode cX12_isDirty 9 = .ok (.iconst 0, 1) := by decide +kernel
theorem dX12_isDirty_10 : decode cX12_isDirty 10 = .ok (.ireturn, 1) := by decide +kernel
theorem dX12_isDirty_11 : decode cX12_isDirty 11 = .ok (.aload_n 0, 1) := by decide +kernel
theorem dX12_isDirty_12 : decode cX12_isDirty 12 = .ok (.aload_n 0, 1) := by decide +kernel
theorem dX12_isDirty_13 : decode cX12_isDirty 13 = .ok (.iload_n 1, 1) := by decide +kernel
theorem dX12_isDirty_14 : decode cX12_isDirty 14 = .ok (.iload_n 2, 1) := by decide +kernel
theorem dX12_isDirty_15 : decode cX12_isDirty 15 = .ok (.invokevirtual 218, 3) := by decide +kernel
theorem dX12_isDirty_18 : decode cX12_isDirty 18 = .ok (.invokevirtual 221, 3) := by decide +kernel
theorem dX12_isDirty_21 : decode cX12_isDirty 21 = .ok (.istore_n 3, 1) := by decide +kernel
theorem dX12_isDirty_22 : decode cX12_isDirty 22 = .ok (.iload_n 3, 1) := by decide +kernel
theorem dX12_isDirty_23 : decode cX12_isDirty 23 = .ok (.iconst (-1), 1) := by decide +kernel
theorem dX12_isDirty_24 : decode cX12_isDirty 24 = .ok (.if_icmp .eq 19, 3) := by decide +kernel
theorem dX12_isDirty_27 : decode cX12_isDirty 27 = .ok (.aload_n 0, 1) := by decide +kernel
theorem dX12_isDirty_28 : decode cX12_isDirty 28 = .ok (.getfield 34, 3) := by decide +kernel
theorem dX12_isDirty_31 : decode cX12_isDirty 31 = .ok (.iload_n 3, 1) := by decide +kernel
theorem dX12_isDirty_32 : decode cX12_isDirty 32 = .ok (.aaload, 1) := by decide +kernel
theorem dX12_isDirty_33 : decode cX12_isDirty 33 = .ok (.invokevirtual 155, 3) := by decide +kernel
theorem dX12_isDirty_36 : decode cX12_isDirty 36 = .ok (.ifCond .eq 7, 3) := by decide +kernel
theorem dX12_isDirty_39 : decode cX12_isDirty 39 = .ok (.iconst 1, 1) := by decide +kernel
theorem dX12_isDirty_40 : decode cX12_isDirty 40 = .ok (.goto 4, 3) := by decide +kernel
theorem dX12_isDirty_43 : decode cX12_isDirty 43 = .ok (.iconst 0, 1) := by decide +kernel
theorem dX12_isDirty_44 : decode cX12_isDirty 44 = .ok (.ireturn, 1) := by decide +kernel
theorem dX12_onPlace_0 : decode cX12_onPlace 0 = .ok (.aload_n 0, 1) := by decide +kernel
theorem dX12_onPlace_1 : decode cX12_onPlace 1 = .ok (.iload_n 1, 1) := by decide +kernel
theorem dX12_onPlace_2 : decode cX12_onPlace 2 = .ok (.iload_n 2, 1) := by decide +kernel
theorem dX12_onPlace_3 : decode cX12_onPlace 3 = .ok (.invokevirtual 214, 3) := by decide +kernel
theorem dX12_onPlace_6 : decode cX12_onPlace 6 = .ok (.ifCond .eq 7, 3) := by decide +kernel
theorem dX12_onPlace_9 : decode cX12_onPlace 9 = .ok (.iconst 0, 1) := by decide +kernel
theorem dX12_onPlace_10 : decode cX12_onPlace 10 = .ok (.goto 14, 3) := by decide +kernel
theorem dX12_onPlace_13 : decode cX12_onPlace 13 = .ok (.aload_n 0, 1) := by decide +kernel
theorem dX12_onPlace_14 : decode cX12_onPlace 14 = .ok (.getfield 9, 3) := by decide +kernel
theorem dX12_onPlace_17 : decode cX12_onPlace 17 = .ok (.aload_n 0, 1) := by decide +kernel
theorem dX12_onPlace_18 : decode cX12_onPlace 18 = .ok (.iload_n 1, 1) := by decide +kernel
theorem dX12_onPlace_19 : decode cX12_onPlace 19 = .ok (.iload_n 2, 1) := by decide +kernel
theorem dX12_onPlace_20 : decode cX12_onPlace 20 = .ok (.invokevirtual 218, 3) := by decide +kernel
theorem dX12_onPlace_23 : decode cX12_onPlace 23 = .ok (.iaload, 1) := by decide +kernel
theorem dX12_onPlace_24 : decode cX12_onPlace 24 = .ok (.ireturn, 1) := by decide +kernel
theorem dX12_begin_0 : decode cX12_begin 0 = .ok (.aload_n 0, 1) := by decide +kernel
theorem dX12_begin_1 : decode cX12_begin 1 = .ok (.aload_n 0, 1) := by decide +kernel
theorem dX12_begin_2 : decode cX12_begin 2 = .ok (.getfield 56, 3) := by decide +kernel
theorem dX12_begin_5 : decode cX12_begin 5 = .ok (.ifCond .eq 10, 3) := by decide +kernel
theorem dX12_begin_8 : decode cX12_begin 8 = .ok (.aload_n 0, 1) := by decide +kernel
theorem dX12_begin_9 : decode cX12_begin 9 = .ok (.getfield 126, 3) := by decide +kernel
theorem dX12_begin_12 : decode cX12_begin 12 = .ok (.ifCond .eq 7, 3) := by decide +kernel
theorem dX12_begin_15 : decode cX12_begin 15 = .ok (.iconst 1, 1) := by decide +kernel
theorem dX12_begin_16 : decode cX12_begin 16 = .ok (.goto 4, 3) := by decide +kernel
theorem dX12_begin_19 : decode cX12_begin 19 = .ok (.iconst 0, 1) := by decide +kernel
theorem dX12_begin_20 : decode cX12_begin 20 = .ok (.putfield 66, 3) := by decide +kernel
theorem dX12_begin_23 : decode cX12_begin 23 = .ok (.aload_n 0, 1) := by decide +kernel
theorem dX12_begin_24 : decode cX12_begin 24 = .ok (.getfield 66, 3) := by decide +kernel
theorem dX12_begin_27 : decode cX12_begin 27 = .ok (.ifCond .le 5, 3) := by decide +kernel
theorem dX12_begin_30 : decode cX12_begin 30 = .ok (.iconst 0, 1) := by decide +kernel
theorem dX12_begin_31 : decode cX12_begin 31 = .ok (.ireturn, 1) := by decide +kernel
theorem dX12_begin_32 : decode cX12_begin 32 = .ok (.aload_n 0, 1) := by decide +kernel
theorem dX12_begin_33 : decode cX12_begin 33 = .ok (.iconst 1, 1) := by decide +kernel
theorem dX12_begin_34 : decode cX12_begin 34 = .ok (.putfield 126, 3) := by decide +kernel
theorem dX12_begin_37 : decode cX12_begin 37 = .ok (.aload_n 0, 1) := by decide +kernel
theorem dX12_begin_38 : decode cX12_begin 38 = .ok (.dup, 1) := by decide +kernel
theorem dX12_begin_39 : decode cX12_begin 39 = .ok (.getfield 285, 3) := by decide +kernel
theorem dX12_begin_42 : decode cX12_begin 42 = .ok (.iconst 1, 1) := by decide +kernel
theorem dX12_begin_43 : decode cX12_begin 43 = .ok (.iadd, 1) := by decide +kernel
theorem dX12_begin_44 : decode cX12_begin 44 = .ok (.putfield 285, 3) := by decide +kernel
theorem dX12_begin_47 : decode cX12_begin 47 = .ok (.aload_n 0, 1) := by decide +kernel
theorem dX12_begin_48 : decode cX12_begin 48 = .ok (.getfield 285, 3) := by decide +kernel
theorem dX12_begin_51 : decode cX12_begin 51 = .ok (.ireturn, 1) := by decide +kernel
theorem dX12_logged_0 : decode cX12_logged 0 = .ok (.iconst 0, 1) := by decide +kernel
theorem dX12_logged_1 : decode cX12_logged 1 = .ok (.istore_n 1, 1) := by decide +kernel
theorem dX12_logged_2 : decode cX12_logged 2 = .ok (.aload_n 0, 1) := by decide +kernel
theorem dX12_logged_3 : decode cX12_logged 3 = .ok (.getfield 53, 3) := by decide +kernel
theorem dX12_logged_6 : decode cX12_logged 6 = .ok (.astore_n 2, 1) := by decide +kernel
theorem dX12_logged_7 : decode cX12_logged 7 = .ok (.aload_n 2, 1) := by decide +kernel
theorem dX12_logged_8 : decode cX12_logged 8 = .ok (.arraylength, 1) := by decide +kernel
theorem dX12_logged_9 : decode cX12_logged 9 = .ok (.istore_n 3, 1) := by decide +kernel
theorem dX12_logged_10 : decode cX12_logged 10 = .ok (.iconst 0, 1) := by decide +kernel
theorem dX12_logged_11 : decode cX12_logged 11 = .ok (.istore 4, 2) := by decide +kernel
theorem dX12_logged_13 : decode cX12_logged 13 = .ok (.iload 4, 2) := by decide +kernel
theorem dX12_logged_15 : decode cX12_logged 15 = .ok (.iload_n 3, 1) := by decide +kernel
theorem dX12_logged_16 : decode cX12_logged 16 = .ok (.if_icmp .ge 29, 3) := by decide +kernel
theorem dX12_logged_19 : decode cX12_logged 19 = .ok (.aload_n 2, 1) := by decide +kernel
theorem dX12_logged_20 : decode cX12_logged 20 = .ok (.iload 4, 2) := by decide +kernel
theorem dX12_logged_22 : decode cX12_logged 22 = .ok (.iaload, 1) := by decide +kernel
theorem dX12_logged_23 : decode cX12_logged 23 = .ok (.istore 5, 2) := by decide +kernel
theorem dX12_logged_25 : decode cX12_logged 25 = .ok (.iload_n 1, 1) := by decide +kernel
theorem dX12_logged_26 : decode cX12_logged 26 = .ok (.iload 5, 2) := by decide +kernel
theorem dX12_logged_28 : decode cX12_logged 28 = .ok (.iconst (-1), 1) := by decide +kernel
theorem dX12_logged_29 : decode cX12_logged 29 = .ok (.if_icmp .ne 7, 3) := by decide +kernel
theorem dX12_logged_32 : decode cX12_logged 32 = .ok (.iconst 0, 1) := by decide +kernel
theorem dX12_logged_33 : decode cX12_logged 33 = .ok (.goto 4, 3) := by decide +kernel
theorem dX12_logged_36 : decode cX12_logged 36 = .ok (.iconst 1, 1) := by decide +kernel
theorem dX12_logged_37 : decode cX12_logged 37 = .ok (.iadd, 1) := by decide +kernel
theorem dX12_logged_38 : decode cX12_logged 38 = .ok (.istore_n 1, 1) := by decide +kernel
theorem dX12_logged_39 : decode cX12_logged 39 = .ok (.iinc 4 1, 3) := by decide +kernel
theorem dX12_logged_42 : decode cX12_logged 42 = .ok (.goto (-29), 3) := by decide +kernel
theorem dX12_logged_45 : decode cX12_logged 45 = .ok (.iload_n 1, 1) := by decide +kernel
theorem dX12_logged_46 : decode cX12_logged 46 = .ok (.ireturn, 1) := by decide +kernel
theorem dX12_commit_0 : decode cX12_commit 0 = .ok (.aload_n 0, 1) := by decide +kernel
theorem dX12_commit_1 : decode cX12_commit 1 = .ok (.aload_n 0, 1) := by decide +kernel
theorem dX12_commit_2 : decode cX12_commit 2 = .ok (.getfield 56, 3) := by decide +kernel
theorem dX12_commit_5 : decode cX12_commit 5 = .ok (.ifCond .eq 10, 3) := by decide +kernel
theorem dX12_commit_8 : decode cX12_commit 8 = .ok (.aload_n 0, 1) := by decide +kernel
theorem dX12_commit_9 : decode cX12_commit 9 = .ok (.getfield 126, 3) := by decide +kernel
theorem dX12_commit_12 : decode cX12_commit 12 = .ok (.ifCond .ne 7, 3) := by decide +kernel
theorem dX12_commit_15 : decode cX12_commit 15 = .ok (.iconst 1, 1) := by decide +kernel
theorem dX12_commit_16 : decode cX12_commit 16 = .ok (.goto 4, 3) := by decide +kernel
theorem dX12_commit_19 : decode cX12_commit 19 = .ok (.iconst 0, 1) := by decide +kernel
theorem dX12_commit_20 : decode cX12_commit 20 = .ok (.putfield 66, 3) := by decide +kernel
theorem dX12_commit_23 : decode cX12_commit 23 = .ok (.aload_n 0, 1) := by decide +kernel
theorem dX12_commit_24 : decode cX12_commit 24 = .ok (.getfield 66, 3) := by decide +kernel
theorem dX12_commit_27 : decode cX12_commit 27 = .ok (.ifCond .le 5, 3) := by decide +kernel
theorem dX12_commit_30 : decode cX12_commit 30 = .ok (.iconst 0, 1) := by decide +kernel
theorem dX12_commit_31 : decode cX12_commit 31 = .ok (.ireturn, 1) := by decide +kernel
theorem dX12_commit_32 : decode cX12_commit 32 = .ok (.aload_n 0, 1) := by decide +kernel
theorem dX12_commit_33 : decode cX12_commit 33 = .ok (.invokevirtual 288, 3) := by decide +kernel
theorem dX12_commit_36 : decode cX12_commit 36 = .ok (.istore_n 1, 1) := by decide +kernel
theorem dX12_commit_37 : decode cX12_commit 37 = .ok (.aload_n 0, 1) := by decide +kernel
theorem dX12_commit_38 : decode cX12_commit 38 = .ok (.getfield 34, 3) := by decide +kernel
theorem dX12_commit_41 : decode cX12_commit 41 = .ok (.astore_n 2, 1) := by decide +kernel
theorem dX12_commit_42 : decode cX12_commit 42 = .ok (.aload_n 2, 1) := by decide +kernel
theorem dX12_commit_43 : decode cX12_commit 43 = .ok (.arraylength, 1) := by decide +kernel
theorem dX12_commit_44 : decode cX12_commit 44 = .ok (.istore_n 3, 1) := by decide +kernel
theorem dX12_commit_45 : decode cX12_commit 45 = .ok (.iconst 0, 1) := by decide +kernel
theorem dX12_commit_46 : decode cX12_commit 46 = .ok (.istore 4, 2) := by decide +kernel
theorem dX12_commit_48 : decode cX12_commit 48 = .ok (.iload 4, 2) := by decide +kernel
theorem dX12_commit_50 : decode cX12_commit 50 = .ok (.iload_n 3, 1) := by decide +kernel
theorem dX12_commit_51 : decode cX12_commit 51 = .ok (.if_icmp .ge 50, 3) := by decide +kernel
theorem dX12_commit_54 : decode cX12_commit 54 = .ok (.aload_n 2, 1) := by decide +kernel
theorem dX12_commit_55 : decode cX12_commit 55 = .ok (.iload 4, 2) := by decide +kernel
theorem dX12_commit_57 : decode cX12_commit 57 = .ok (.aaload, 1) := by decide +kernel
theorem dX12_commit_58 : decode cX12_commit 58 = .ok (.astore 5, 2) := by decide +kernel
theorem dX12_commit_60 : decode cX12_commit 60 = .ok (.iload_n 1, 1) := by decide +kernel
theorem dX12_commit_61 : decode cX12_commit 61 = .ok (.aload 5, 2) := by decide +kernel
theorem dX12_commit_63 : decode cX12_commit 63 = .ok (.ifnull 29, 3) := by decide +kernel
theorem dX12_commit_66 : decode cX12_commit 66 = .ok (.aload 5, 2) := by decide +kernel
theorem dX12_commit_68 : decode cX12_commit 68 = .ok (.getfield 252, 3) := by decide +kernel
theorem dX12_commit_71 : decode cX12_commit 71 = .ok (.ifCond .eq 21, 3) := by decide +kernel
theorem dX12_commit_74 : decode cX12_commit 74 = .ok (.aload_n 0, 1) := by decide +kernel
theorem dX12_commit_75 : decode cX12_commit 75 = .ok (.getfield 53, 3) := by decide +kernel
theorem dX12_commit_78 : decode cX12_commit 78 = .ok (.aload 5, 2) := by decide +kernel
theorem dX12_commit_80 : decode cX12_commit 80 = .ok (.getfield 139, 3) := by decide +kernel
theorem dX12_commit_83 : decode cX12_commit 83 = .ok (.iaload, 1) := by decide +kernel
theorem dX12_commit_84 : decode cX12_commit 84 = .ok (.iconst (-1), 1) := by decide +kernel
theorem dX12_commit_85 : decode cX12_commit 85 = .ok (.if_icmp .ne 7, 3) := by decide +kernel
theorem dX12_commit_88 : decode cX12_commit 88 = .ok (.iconst 1, 1) := by decide +kernel
theorem dX12_commit_89 : decode cX12_commit 89 = .ok (.goto 4, 3) := by decide +kernel
theorem dX12_commit_92 : decode cX12_commit 92 = .ok (.iconst 0, 1) := by decide +kernel
theorem dX12_commit_93 : decode cX12_commit 93 = .ok (.iadd, 1) := by decide +kernel
theorem dX12_commit_94 : decode cX12_commit 94 = .ok (.istore_n 1, 1) := by decide +kernel
theorem dX12_commit_95 : decode cX12_commit 95 = .ok (.iinc 4 1, 3) := by decide +kernel
theorem dX12_commit_98 : decode cX12_commit 98 = .ok (.goto (-50), 3) := by decide +kernel
theorem dX12_commit_101 : decode cX12_commit 101 = .ok (.iload_n 1, 1) := by decide +kernel
theorem dX12_commit_102 : decode cX12_commit 102 = .ok (.bipush 10, 2) := by decide +kernel
theorem dX12_commit_104 : decode cX12_commit 104 = .ok (.if_icmp .le 14, 3) := by decide +kernel
theorem dX12_commit_107 : decode cX12_commit 107 = .ok (.aload_n 0, 1) := by decide +kernel
theorem dX12_commit_108 : decode cX12_commit 108 = .ok (.iconst 0, 1) := by decide +kernel
theorem dX12_commit_109 : decode cX12_commit 109 = .ok (.bipush 127, 2) := by decide +kernel
theorem dX12_commit_111 : decode cX12_commit 111 = .ok (.invokevirtual 291, 3) := by decide +kernel
theorem dX12_commit_114 : decode cX12_commit 114 = .ok (.iconst (-1), 1) := by decide +kernel
theorem dX12_commit_115 : decode cX12_commit 115 = .ok (.if_icmp .eq 10, 3) := by decide +kernel
theorem dX12_commit_118 : decode cX12_commit 118 = .ok (.aload_n 0, 1) := by decide +kernel
theorem dX12_commit_119 : decode cX12_commit 119 = .ok (.invokevirtual 136, 3) := by decide +kernel
theorem dX12_commit_122 : decode cX12_commit 122 = .ok (.ifCond .eq 5, 3) := by decide +kernel
theorem dX12_commit_125 : decode cX12_commit 125 = .ok (.iconst (-1), 1) := by decide +kernel
theorem dX12_commit_126 : decode cX12_commit 126 = .ok (.ireturn, 1) := by decide +kernel
theorem dX12_commit_127 : decode cX12_commit 127 = .ok (.aload_n 0, 1) := by decide +kernel
theorem dX12_commit_128 : decode cX12_commit 128 = .ok (.getfield 49, 3) := by decide +kernel
theorem dX12_commit_131 : decode cX12_commit 131 = .ok (.aload_n 0, 1) := by decide +kernel
theorem dX12_commit_132 : decode cX12_commit 132 = .ok (.getfield 113, 3) := by decide +kernel
theorem dX12_commit_135 : decode cX12_commit 135 = .ok (.dup2, 1) := by decide +kernel
theorem dX12_commit_136 : decode cX12_commit 136 = .ok (.laload, 1) := by decide +kernel
theorem dX12_commit_137 : decode cX12_commit 137 = .ok (.lconst 1, 1) := by decide +kernel
theorem dX12_commit_138 : decode cX12_commit 138 = .ok (.ladd, 1) := by decide +kernel
theorem dX12_commit_139 : decode cX12_commit 139 = .ok (.lastore, 1) := by decide +kernel
theorem dX12_commit_140 : decode cX12_commit 140 = .ok (.aload_n 0, 1) := by decide +kernel
theorem dX12_commit_141 : decode cX12_commit 141 = .ok (.getfield 34, 3) := by decide +kernel
theorem dX12_commit_144 : decode cX12_commit 144 = .ok (.astore_n 2, 1) := by decide +kernel
theorem dX12_commit_145 : decode cX12_commit 145 = .ok (.aload_n 2, 1) := by decide +kernel
theorem dX12_commit_146 : decode cX12_commit 146 = .ok (.arraylength, 1) := by decide +kernel
theorem dX12_commit_147 : decode cX12_commit 147 = .ok (.istore_n 3, 1) := by decide +kernel
theorem dX12_commit_148 : decode cX12_commit 148 = .ok (.iconst 0, 1) := by decide +kernel
theorem dX12_commit_149 : decode cX12_commit 149 = .ok (.istore 4, 2) := by decide +kernel
theorem dX12_commit_151 : decode cX12_commit 151 = .ok (.iload 4, 2) := by decide +kernel
theorem dX12_commit_153 : decode cX12_commit 153 = .ok (.iload_n 3, 1) := by decide +kernel
theorem dX12_commit_154 : decode cX12_commit 154 = .ok (.if_icmp .ge 49, 3) := by decide +kernel
theorem dX12_commit_157 : decode cX12_commit 157 = .ok (.aload_n 2, 1) := by decide +kernel
theorem dX12_commit_158 : decode cX12_commit 158 = .ok (.iload 4, 2) := by decide +kernel
theorem dX12_commit_160 : decode cX12_commit 160 = .ok (.aaload, 1) := by decide +kernel
theorem dX12_commit_161 : decode cX12_commit 161 = .ok (.astore 5, 2) := by decide +kernel
theorem dX12_commit_163 : decode cX12_commit 163 = .ok (.aload 5, 2) := by decide +kernel
theorem dX12_commit_165 : decode cX12_commit 165 = .ok (.ifnull 32, 3) := by decide +kernel
theorem dX12_commit_168 : decode cX12_commit 168 = .ok (.aload 5, 2) := by decide +kernel
theorem dX12_commit_170 : decode cX12_commit 170 = .ok (.getfield 252, 3) := by decide +kernel
theorem dX12_commit_173 : decode cX12_commit 173 = .ok (.ifCond .eq 24, 3) := by decide +kernel
theorem dX12_commit_176 : decode cX12_commit 176 = .ok (.aload_n 0, 1) := by decide +kernel
theorem dX12_commit_177 : decode cX12_commit 177 = .ok (.getfield 53, 3) := by decide +kernel
theorem dX12_commit_180 : decode cX12_commit 180 = .ok (.aload 5, 2) := by decide +kernel
theorem dX12_commit_182 : decode cX12_commit 182 = .ok (.getfield 139, 3) := by decide +kernel
theorem dX12_commit_185 : decode cX12_commit 185 = .ok (.aload 5, 2) := by decide +kernel
theorem dX12_commit_187 : decode cX12_commit 187 = .ok (.getfield 142, 3) := by decide +kernel
theorem dX12_commit_190 : decode cX12_commit 190 = .ok (.iastore, 1) := by decide +kernel
theorem dX12_commit_191 : decode cX12_commit 191 = .ok (.aload 5, 2) := by decide +kernel
theorem dX12_commit_193 : decode cX12_commit 193 = .ok (.iconst 0, 1) := by decide +kernel
theorem dX12_commit_194 : decode cX12_commit 194 = .ok (.putfield 252, 3) := by decide +kernel
theorem dX12_commit_197 : decode cX12_commit 197 = .ok (.iinc 4 1, 3) := by decide +kernel
theorem dX12_commit_200 : decode cX12_commit 200 = .ok (.goto (-49), 3) := by decide +kernel
theorem dX12_commit_203 : decode cX12_commit 203 = .ok (.aload_n 0, 1) := by decide +kernel
theorem dX12_commit_204 : decode cX12_commit 204 = .ok (.iconst 0, 1) := by decide +kernel
theorem dX12_commit_205 : decode cX12_commit 205 = .ok (.putfield 126, 3) := by decide +kernel
theorem dX12_commit_208 : decode cX12_commit 208 = .ok (.aload_n 0, 1) := by decide +kernel
theorem dX12_commit_209 : decode cX12_commit 209 = .ok (.invokevirtual 288, 3) := by decide +kernel
theorem dX12_commit_212 : decode cX12_commit 212 = .ok (.ireturn, 1) := by decide +kernel
theorem dX12_abort_0 : decode cX12_abort 0 = .ok (.aload_n 0, 1) := by decide +kernel
theorem dX12_abort_1 : decode cX12_abort 1 = .ok (.aload_n 0, 1) := by decide +kernel
theorem dX12_abort_2 : decode cX12_abort 2 = .ok (.getfield 56, 3) := by decide +kernel
theorem dX12_abort_5 : decode cX12_abort 5 = .ok (.ifCond .eq 10, 3) := by decide +kernel
theorem dX12_abort_8 : decode cX12_abort 8 = .ok (.aload_n 0, 1) := by decide +kernel
theorem dX12_abort_9 : decode cX12_abort 9 = .ok (.getfield 126, 3) := by decide +kernel
theorem dX12_abort_12 : decode cX12_abort 12 = .ok (.ifCond .ne 7, 3) := by decide +kernel
theorem dX12_abort_15 : decode cX12_abort 15 = .ok (.iconst 1, 1) := by decide +kernel
theorem dX12_abort_16 : decode cX12_abort 16 = .ok (.goto 4, 3) := by decide +kernel
theorem dX12_abort_19 : decode cX12_abort 19 = .ok (.iconst 0, 1) := by decide +kernel
theorem dX12_abort_20 : decode cX12_abort 20 = .ok (.putfield 66, 3) := by decide +kernel
theorem dX12_abort_23 : decode cX12_abort 23 = .ok (.aload_n 0, 1) := by decide +kernel
theorem dX12_abort_24 : decode cX12_abort 24 = .ok (.getfield 66, 3) := by decide +kernel
theorem dX12_abort_27 : decode cX12_abort 27 = .ok (.ifCond .le 5, 3) := by decide +kernel
theorem dX12_abort_30 : decode cX12_abort 30 = .ok (.iconst 0, 1) := by decide +kernel
theorem dX12_abort_31 : decode cX12_abort 31 = .ok (.ireturn, 1) := by decide +kernel
theorem dX12_abort_32 : decode cX12_abort 32 = .ok (.aload_n 0, 1) := by decide +kernel
theorem dX12_abort_33 : decode cX12_abort 33 = .ok (.invokevirtual 255, 3) := by decide +kernel
theorem dX12_abort_36 : decode cX12_abort 36 = .ok (.istore_n 1, 1) := by decide +kernel
theorem dX12_abort_37 : decode cX12_abort 37 = .ok (.iconst 0, 1) := by decide +kernel
theorem dX12_abort_38 : decode cX12_abort 38 = .ok (.istore_n 2, 1) := by decide +kernel
theorem dX12_abort_39 : decode cX12_abort 39 = .ok (.iload_n 2, 1) := by decide +kernel
theorem dX12_abort_40 : decode cX12_abort 40 = .ok (.bipush 16, 2) := by decide +kernel
theorem dX12_abort_42 : decode cX12_abort 42 = .ok (.if_icmp .ge 66, 3) := by decide +kernel
theorem dX12_abort_45 : decode cX12_abort 45 = .ok (.aload_n 0, 1) := by decide +kernel
theorem dX12_abort_46 : decode cX12_abort 46 = .ok (.getfield 34, 3) := by decide +kernel
theorem dX12_abort_49 : decode cX12_abort 49 = .ok (.iload_n 2, 1) := by decide +kernel
theorem dX12_abort_50 : decode cX12_abort 50 = .ok (.aaload, 1) := by decide +kernel
theorem dX12_abort_51 : decode cX12_abort 51 = .ok (.astore_n 3, 1) := by decide +kernel
theorem dX12_abort_52 : decode cX12_abort 52 = .ok (.aload_n 3, 1) := by decide +kernel
theorem dX12_abort_53 : decode cX12_abort 53 = .ok (.ifnull 49, 3) := by decide +kernel
theorem dX12_abort_56 : decode cX12_abort 56 = .ok (.aload_n 3, 1) := by decide +kernel
theorem dX12_abort_57 : decode cX12_abort 57 = .ok (.getfield 252, 3) := by decide +kernel
theorem dX12_abort_60 : decode cX12_abort 60 = .ok (.ifCond .eq 42, 3) := by decide +kernel
theorem dX12_abort_63 : decode cX12_abort 63 = .ok (.aload_n 3, 1) := by decide +kernel
theorem dX12_abort_64 : decode cX12_abort 64 = .ok (.aload_n 3, 1) := by decide +kernel
theorem dX12_abort_65 : decode cX12_abort 65 = .ok (.getfield 263, 3) := by decide +kernel
theorem dX12_abort_68 : decode cX12_abort 68 = .ok (.putfield 142, 3) := by decide +kernel
theorem dX12_abort_71 : decode cX12_abort 71 = .ok (.aload_n 3, 1) := by decide +kernel
theorem dX12_abort_72 : decode cX12_abort 72 = .ok (.aload_n 3, 1) := by decide +kernel
theorem dX12_abort_73 : decode cX12_abort 73 = .ok (.getfield 266, 3) := by decide +kernel
theorem dX12_abort_76 : decode cX12_abort 76 = .ok (.putfield 151, 3) := by decide +kernel
theorem dX12_abort_79 : decode cX12_abort 79 = .ok (.aload_n 3, 1) := by decide +kernel
theorem dX12_abort_80 : decode cX12_abort 80 = .ok (.iconst 0, 1) := by decide +kernel
theorem dX12_abort_81 : decode cX12_abort 81 = .ok (.putfield 252, 3) := by decide +kernel
theorem dX12_abort_84 : decode cX12_abort 84 = .ok (.aload_n 0, 1) := by decide +kernel
theorem dX12_abort_85 : decode cX12_abort 85 = .ok (.getfield 34, 3) := by decide +kernel
theorem dX12_abort_88 : decode cX12_abort 88 = .ok (.iload_n 2, 1) := by decide +kernel
theorem dX12_abort_89 : decode cX12_abort 89 = .ok (.aload_n 3, 1) := by decide +kernel
theorem dX12_abort_90 : decode cX12_abort 90 = .ok (.getfield 260, 3) := by decide +kernel
theorem dX12_abort_93 : decode cX12_abort 93 = .ok (.ifCond .eq 7, 3) := by decide +kernel
theorem dX12_abort_96 : decode cX12_abort 96 = .ok (.aconst_null, 1) := by decide +kernel
theorem dX12_abort_97 : decode cX12_abort 97 = .ok (.goto 4, 3) := by decide +kernel
theorem dX12_abort_100 : decode cX12_abort 100 = .ok (.aload_n 3, 1) := by decide +kernel
theorem dX12_abort_101 : decode cX12_abort 101 = .ok (.aastore, 1) := by decide +kernel
theorem dX12_abort_102 : decode cX12_abort 102 = .ok (.iinc 2 1, 3) := by decide +kernel
theorem dX12_abort_105 : decode cX12_abort 105 = .ok (.goto (-66), 3) := by decide +kernel
theorem dX12_abort_108 : decode cX12_abort 108 = .ok (.aload_n 0, 1) := by decide +kernel
theorem dX12_abort_109 : decode cX12_abort 109 = .ok (.iconst 0, 1) := by decide +kernel
theorem dX12_abort_110 : decode cX12_abort 110 = .ok (.putfield 126, 3) := by decide +kernel
theorem dX12_abort_113 : decode cX12_abort 113 = .ok (.iload_n 1, 1) := by decide +kernel
theorem dX12_abort_114 : decode cX12_abort 114 = .ok (.ireturn, 1) := by decide +kernel
theorem dX12_countWritten_0 : decode cX12_countWritten 0 = .ok (.aload_n 0, 1) := by decide +kernel
theorem dX12_countWritten_1 : decode cX12_countWritten 1 = .ok (.iconst 0, 1) := by decide +kernel
theorem dX12_countWritten_2 : decode cX12_countWritten 2 = .ok (.putfield 66, 3) := by decide +kernel
theorem dX12_countWritten_5 : decode cX12_countWritten 5 = .ok (.aload_n 0, 1) := by decide +kernel
theorem dX12_countWritten_6 : decode cX12_countWritten 6 = .ok (.invokevirtual 255, 3) := by decide +kernel
theorem dX12_countWritten_9 : decode cX12_countWritten 9 = .ok (.ireturn, 1) := by decide +kernel
theorem dX12_flushesAll_0 : decode cX12_flushesAll 0 = .ok (.iconst 0, 1) := by decide +kernel
theorem dX12_flushesAll_1 : decode cX12_flushesAll 1 = .ok (.istore_n 3, 1) := by decide +kernel
theorem dX12_flushesAll_2 : decode cX12_flushesAll 2 = .ok (.iload_n 1, 1) := by decide +kernel
theorem dX12_flushesAll_3 : decode cX12_flushesAll 3 = .ok (.istore 4, 2) := by decide +kernel
theorem dX12_flushesAll_5 : decode cX12_flushesAll 5 = .ok (.iload 4, 2) := by decide +kernel
theorem dX12_flushesAll_7 : decode cX12_flushesAll 7 = .ok (.iload_n 2, 1) := by decide +kernel
theorem dX12_flushesAll_8 : decode cX12_flushesAll 8 = .ok (.if_icmp .gt 68, 3) := by decide +kernel
theorem dX12_flushesAll_11 : decode cX12_flushesAll 11 = .ok (.aload_n 0, 1) := by decide +kernel
theorem dX12_flushesAll_12 : decode cX12_flushesAll 12 = .ok (.iload 4, 2) := by decide +kernel
theorem dX12_flushesAll_14 : decode cX12_flushesAll 14 = .ok (.invokevirtual 221, 3) := by decide +kernel
theorem dX12_flushesAll_17 : decode cX12_flushesAll 17 = .ok (.istore 5, 2) := by decide +kernel
theorem dX12_flushesAll_19 : decode cX12_flushesAll 19 = .ok (.iload 5, 2) := by decide +kernel
theorem dX12_flushesAll_21 : decode cX12_flushesAll 21 = .ok (.iconst (-1), 1) := by decide +kernel
theorem dX12_flushesAll_22 : decode cX12_flushesAll 22 = .ok (.if_icmp .eq 48, 3) := by decide +kernel
theorem dX12_flushesAll_25 : decode cX12_flushesAll 25 = .ok (.aload_n 0, 1) := by decide +kernel
theorem dX12_flushesAll_26 : decode cX12_flushesAll 26 = .ok (.getfield 34, 3) := by decide +kernel
theorem dX12_flushesAll_29 : decode cX12_flushesAll 29 = .ok (.iload 5, 2) := by decide +kernel
theorem dX12_flushesAll_31 : decode cX12_flushesAll 31 = .ok (.aaload, 1) := by decide +kernel
theorem dX12_flushesAll_32 : decode cX12_flushesAll 32 = .ok (.invokevirtual 155, 3) := by decide +kernel
theorem dX12_flushesAll_35 : decode cX12_flushesAll 35 = .ok (.ifCond .eq 35, 3) := by decide +kernel
theorem dX12_flushesAll_38 : decode cX12_flushesAll 38 = .ok (.aload_n 0, 1) := by decide +kernel
theorem dX12_flushesAll_39 : decode cX12_flushesAll 39 = .ok (.getfield 34, 3) := by decide +kernel
theorem dX12_flushesAll_42 : decode cX12_flushesAll 42 = .ok (.iload 5, 2) := by decide +kernel
theorem dX12_flushesAll_44 : decode cX12_flushesAll 44 = .ok (.aaload, 1) := by decide +kernel
theorem dX12_flushesAll_45 : decode cX12_flushesAll 45 = .ok (.getfield 252, 3) := by decide +kernel
theorem dX12_flushesAll_48 : decode cX12_flushesAll 48 = .ok (.ifCond .ne 22, 3) := by decide +kernel
theorem dX12_flushesAll_51 : decode cX12_flushesAll 51 = .ok (.aload_n 0, 1) := by decide +kernel
theorem dX12_flushesAll_52 : decode cX12_flushesAll 52 = .ok (.aload_n 0, 1) := by decide +kernel
theorem dX12_flushesAll_53 : decode cX12_flushesAll 53 = .ok (.getfield 34, 3) := by decide +kernel
theorem dX12_flushesAll_56 : decode cX12_flushesAll 56 = .ok (.iload 5, 2) := by decide +kernel
theorem dX12_flushesAll_58 : decode cX12_flushesAll 58 = .ok (.aaload, 1) := by decide +kernel
theorem dX12_flushesAll_59 : decode cX12_flushesAll 59 = .ok (.invokevirtual 158, 3) := by decide +kernel
theorem dX12_flushesAll_62 : decode cX12_flushesAll 62 = .ok (.ifCond .ne 5, 3) := by decide +kernel
theorem dX12_flushesAll_65 : decode cX12_flushesAll 65 = .ok (.iconst (-1), 1) := by decide +kernel
theorem dX12_flushesAll_66 : decode cX12_flushesAll 66 = .ok (.ireturn, 1) := by decide +kernel
theorem dX12_flushesAll_67 : decode cX12_flushesAll 67 = .ok (.iinc 3 1, 3) := by decide +kernel
theorem dX12_flushesAll_70 : decode cX12_flushesAll 70 = .ok (.iinc 4 1, 3) := by decide +kernel
theorem dX12_flushesAll_73 : decode cX12_flushesAll 73 = .ok (.goto (-68), 3) := by decide +kernel
theorem dX12_flushesAll_76 : decode cX12_flushesAll 76 = .ok (.iload_n 3, 1) := by decide +kernel
theorem dX12_flushesAll_77 : decode cX12_flushesAll 77 = .ok (.ireturn, 1) := by decide +kernel
theorem dX12_checkpoint_0 : decode cX12_checkpoint 0 = .ok (.aload_n 0, 1) := by decide +kernel
theorem dX12_checkpoint_1 : decode cX12_checkpoint 1 = .ok (.aload_n 0, 1) := by decide +kernel
theorem dX12_checkpoint_2 : decode cX12_checkpoint 2 = .ok (.getfield 56, 3) := by decide +kernel
theorem dX12_checkpoint_5 : decode cX12_checkpoint 5 = .ok (.ifCond .eq 7, 3) := by decide +kernel
theorem dX12_checkpoint_8 : decode cX12_checkpoint 8 = .ok (.iconst 0, 1) := by decide +kernel
theorem dX12_checkpoint_9 : decode cX12_checkpoint 9 = .ok (.goto 4, 3) := by decide +kernel
theorem dX12_checkpoint_12 : decode cX12_checkpoint 12 = .ok (.iconst 1, 1) := by decide +kernel
theorem dX12_checkpoint_13 : decode cX12_checkpoint 13 = .ok (.putfield 66, 3) := by decide +kernel
theorem dX12_checkpoint_16 : decode cX12_checkpoint 16 = .ok (.aload_n 0, 1) := by decide +kernel
theorem dX12_checkpoint_17 : decode cX12_checkpoint 17 = .ok (.getfield 66, 3) := by decide +kernel
theorem dX12_checkpoint_20 : decode cX12_checkpoint 20 = .ok (.ifCond .le 7, 3) := by decide +kernel
theorem dX12_checkpoint_23 : decode cX12_checkpoint 23 = .ok (.iconst 0, 1) := by decide +kernel
theorem dX12_checkpoint_24 : decode cX12_checkpoint 24 = .ok (.goto 10, 3) := by decide +kernel
theorem dX12_checkpoint_27 : decode cX12_checkpoint 27 = .ok (.aload_n 0, 1) := by decide +kernel
theorem dX12_checkpoint_28 : decode cX12_checkpoint 28 = .ok (.iconst 0, 1) := by decide +kernel
theorem dX12_checkpoint_29 : decode cX12_checkpoint 29 = .ok (.bipush 127, 2) := by decide +kernel
theorem dX12_checkpoint_31 : decode cX12_checkpoint 31 = .ok (.invokevirtual 291, 3) := by decide +kernel
theorem dX12_checkpoint_34 : decode cX12_checkpoint 34 = .ok (.ireturn, 1) := by decide +kernel
theorem dX12_sync_0 : decode cX12_sync 0 = .ok (.aload_n 0, 1) := by decide +kernel
theorem dX12_sync_1 : decode cX12_sync 1 = .ok (.iload_n 1, 1) := by decide +kernel
theorem dX12_sync_2 : decode cX12_sync 2 = .ok (.i2l, 1) := by decide +kernel
theorem dX12_sync_3 : decode cX12_sync 3 = .ok (.lconst 0, 1) := by decide +kernel
theorem dX12_sync_4 : decode cX12_sync 4 = .ok (.aload_n 0, 1) := by decide +kernel
theorem dX12_sync_5 : decode cX12_sync 5 = .ok (.getfield 22, 3) := by decide +kernel
theorem dX12_sync_8 : decode cX12_sync 8 = .ok (.invokevirtual 83, 3) := by decide +kernel
theorem dX12_sync_11 : decode cX12_sync 11 = .ok (.iconst 1, 1) := by decide +kernel
theorem dX12_sync_12 : decode cX12_sync 12 = .ok (.isub, 1) := by decide +kernel
theorem dX12_sync_13 : decode cX12_sync 13 = .ok (.i2l, 1) := by decide +kernel
theorem dX12_sync_14 : decode cX12_sync 14 = .ok (.invokestatic 69, 3) := by decide +kernel
theorem dX12_sync_17 : decode cX12_sync 17 = .ok (.ifCond .ne 7, 3) := by decide +kernel
theorem dX12_sync_20 : decode cX12_sync 20 = .ok (.iconst 1, 1) := by decide +kernel
theorem dX12_sync_21 : decode cX12_sync 21 = .ok (.goto 15, 3) := by decide +kernel
theorem dX12_sync_24 : decode cX12_sync 24 = .ok (.aload_n 0, 1) := by decide +kernel
theorem dX12_sync_25 : decode cX12_sync 25 = .ok (.getfield 56, 3) := by decide +kernel
theorem dX12_sync_28 : decode cX12_sync 28 = .ok (.ifCond .ne 7, 3) := by decide +kernel
theorem dX12_sync_31 : decode cX12_sync 31 = .ok (.iconst 2, 1) := by decide +kernel
theorem dX12_sync_32 : decode cX12_sync 32 = .ok (.goto 4, 3) := by decide +kernel
theorem dX12_sync_35 : decode cX12_sync 35 = .ok (.iconst 0, 1) := by decide +kernel
theorem dX12_sync_36 : decode cX12_sync 36 = .ok (.putfield 66, 3) := by decide +kernel
theorem dX12_sync_39 : decode cX12_sync 39 = .ok (.aload_n 0, 1) := by decide +kernel
theorem dX12_sync_40 : decode cX12_sync 40 = .ok (.getfield 66, 3) := by decide +kernel
theorem dX12_sync_43 : decode cX12_sync 43 = .ok (.ifCond .le 5, 3) := by decide +kernel
theorem dX12_sync_46 : decode cX12_sync 46 = .ok (.iconst 0, 1) := by decide +kernel
theorem dX12_sync_47 : decode cX12_sync 47 = .ok (.ireturn, 1) := by decide +kernel
theorem dX12_sync_48 : decode cX12_sync 48 = .ok (.aload_n 0, 1) := by decide +kernel
theorem dX12_sync_49 : decode cX12_sync 49 = .ok (.getfield 22, 3) := by decide +kernel
theorem dX12_sync_52 : decode cX12_sync 52 = .ok (.iload_n 1, 1) := by decide +kernel
theorem dX12_sync_53 : decode cX12_sync 53 = .ok (.invokevirtual 162, 3) := by decide +kernel
theorem dX12_sync_56 : decode cX12_sync 56 = .ok (.checkcast 74, 3) := by decide +kernel
theorem dX12_sync_59 : decode cX12_sync 59 = .ok (.invokevirtual 166, 3) := by decide +kernel
theorem dX12_sync_62 : decode cX12_sync 62 = .ok (.istore_n 2, 1) := by decide +kernel
theorem dX12_sync_63 : decode cX12_sync 63 = .ok (.iload_n 2, 1) := by decide +kernel
theorem dX12_sync_64 : decode cX12_sync 64 = .ok (.bipush 16, 2) := by decide +kernel
theorem dX12_sync_66 : decode cX12_sync 66 = .ok (.iadd, 1) := by decide +kernel
theorem dX12_sync_67 : decode cX12_sync 67 = .ok (.iconst 1, 1) := by decide +kernel
theorem dX12_sync_68 : decode cX12_sync 68 = .ok (.isub, 1) := by decide +kernel
theorem dX12_sync_69 : decode cX12_sync 69 = .ok (.istore_n 3, 1) := by decide +kernel
theorem dX12_sync_70 : decode cX12_sync 70 = .ok (.iload_n 2, 1) := by decide +kernel
theorem dX12_sync_71 : decode cX12_sync 71 = .ok (.bipush 64, 2) := by decide +kernel
theorem dX12_sync_73 : decode cX12_sync 73 = .ok (.if_icmp .ge 20, 3) := by decide +kernel
theorem dX12_sync_76 : decode cX12_sync 76 = .ok (.iload_n 2, 1) := by decide +kernel
theorem dX12_sync_77 : decode cX12_sync 77 = .ok (.aload_n 0, 1) := by decide +kernel
theorem dX12_sync_78 : decode cX12_sync 78 = .ok (.getfield 116, 3) := by decide +kernel
theorem dX12_sync_81 : decode cX12_sync 81 = .ok (.iload_n 3, 1) := by decide +kernel
theorem dX12_sync_82 : decode cX12_sync 82 = .ok (.iconst 1, 1) := by decide +kernel
theorem dX12_sync_83 : decode cX12_sync 83 = .ok (.iadd, 1) := by decide +kernel
theorem dX12_sync_84 : decode cX12_sync 84 = .ok (.invokestatic 294, 3) := by decide +kernel
theorem dX12_sync_87 : decode cX12_sync 87 = .ok (.invokestatic 87, 3) := by decide +kernel
theorem dX12_sync_90 : decode cX12_sync 90 = .ok (.goto 4, 3) := by decide +kernel
theorem dX12_sync_93 : decode cX12_sync 93 = .ok (.iload_n 2, 1) := by decide +kernel
theorem dX12_sync_94 : decode cX12_sync 94 = .ok (.istore 4, 2) := by decide +kernel
theorem dX12_sync_96 : decode cX12_sync 96 = .ok (.aload_n 0, 1) := by decide +kernel
theorem dX12_sync_97 : decode cX12_sync 97 = .ok (.iload 4, 2) := by decide +kernel
theorem dX12_sync_99 : decode cX12_sync 99 = .ok (.iload_n 3, 1) := by decide +kernel
theorem dX12_sync_100 : decode cX12_sync 100 = .ok (.invokevirtual 291, 3) := by decide +kernel
theorem dX12_sync_103 : decode cX12_sync 103 = .ok (.istore 5, 2) := by decide +kernel
theorem dX12_sync_105 : decode cX12_sync 105 = .ok (.iload 5, 2) := by decide +kernel
theorem dX12_sync_107 : decode cX12_sync 107 = .ok (.iconst (-1), 1) := by decide +kernel
theorem dX12_sync_108 : decode cX12_sync 108 = .ok (.if_icmp .ne 5, 3) := by decide +kernel
theorem dX12_sync_111 : decode cX12_sync 111 = .ok (.iconst (-1), 1) := by decide +kernel
theorem dX12_sync_112 : decode cX12_sync 112 = .ok (.ireturn, 1) := by decide +kernel
theorem dX12_sync_113 : decode cX12_sync 113 = .ok (.aload_n 0, 1) := by decide +kernel
theorem dX12_sync_114 : decode cX12_sync 114 = .ok (.iload_n 2, 1) := by decide +kernel
theorem dX12_sync_115 : decode cX12_sync 115 = .ok (.iload 4, 2) := by decide +kernel
theorem dX12_sync_117 : decode cX12_sync 117 = .ok (.iconst 1, 1) := by decide +kernel
theorem dX12_sync_118 : decode cX12_sync 118 = .ok (.isub, 1) := by decide +kernel
theorem dX12_sync_119 : decode cX12_sync 119 = .ok (.invokevirtual 291, 3) := by decide +kernel
theorem dX12_sync_122 : decode cX12_sync 122 = .ok (.istore 6, 2) := by decide +kernel
theorem dX12_sync_124 : decode cX12_sync 124 = .ok (.iload 6, 2) := by decide +kernel
theorem dX12_sync_126 : decode cX12_sync 126 = .ok (.iconst (-1), 1) := by decide +kernel
theorem dX12_sync_127 : decode cX12_sync 127 = .ok (.if_icmp .ne 7, 3) := by decide +kernel
theorem dX12_sync_130 : decode cX12_sync 130 = .ok (.iconst (-1), 1) := by decide +kernel
theorem dX12_sync_131 : decode cX12_sync 131 = .ok (.goto 8, 3) := by decide +kernel
theorem dX12_sync_134 : decode cX12_sync 134 = .ok (.iload 5, 2) := by decide +kernel
theorem dX12_sync_136 : decode cX12_sync 136 = .ok (.iload 6, 2) := by decide +kernel
theorem dX12_sync_138 : decode cX12_sync 138 = .ok (.iadd, 1) := by decide +kernel
theorem dX12_sync_139 : decode cX12_sync 139 = .ok (.ireturn, 1) := by decide +kernel
theorem dX12_countLog_0 : decode cX12_countLog 0 = .ok (.aload_n 0, 1) := by decide +kernel
theorem dX12_countLog_1 : decode cX12_countLog 1 = .ok (.iconst 0, 1) := by decide +kernel
theorem dX12_countLog_2 : decode cX12_countLog 2 = .ok (.putfield 66, 3) := by decide +kernel
theorem dX12_countLog_5 : decode cX12_countLog 5 = .ok (.aload_n 0, 1) := by decide +kernel
theorem dX12_countLog_6 : decode cX12_countLog 6 = .ok (.invokevirtual 288, 3) := by decide +kernel
theorem dX12_countLog_9 : decode cX12_countLog 9 = .ok (.ireturn, 1) := by decide +kernel
theorem dX12_failAt_0 : decode cX12_failAt 0 = .ok (.aload_n 0, 1) := by decide +kernel
theorem dX12_failAt_1 : decode cX12_failAt 1 = .ok (.iload_n 1, 1) := by decide +kernel
theorem dX12_failAt_2 : decode cX12_failAt 2 = .ok (.i2l, 1) := by decide +kernel
theorem dX12_failAt_3 : decode cX12_failAt 3 = .ok (.lconst 0, 1) := by decide +kernel
theorem dX12_failAt_4 : decode cX12_failAt 4 = .ok (.ldc2_w 297, 3) := by decide +kernel
theorem dX12_failAt_7 : decode cX12_failAt 7 = .ok (.invokestatic 69, 3) := by decide +kernel
theorem dX12_failAt_10 : decode cX12_failAt 10 = .ok (.ifCond .ne 7, 3) := by decide +kernel
theorem dX12_failAt_13 : decode cX12_failAt 13 = .ok (.iconst 1, 1) := by decide +kernel
theorem dX12_failAt_14 : decode cX12_failAt 14 = .ok (.goto 15, 3) := by decide +kernel
theorem dX12_failAt_17 : decode cX12_failAt 17 = .ok (.aload_n 0, 1) := by decide +kernel
theorem dX12_failAt_18 : decode cX12_failAt 18 = .ok (.getfield 56, 3) := by decide +kernel
theorem dX12_failAt_21 : decode cX12_failAt 21 = .ok (.ifCond .ne 7, 3) := by decide +kernel
theorem dX12_failAt_24 : decode cX12_failAt 24 = .ok (.iconst 2, 1) := by decide +kernel
theorem dX12_failAt_25 : decode cX12_failAt 25 = .ok (.goto 4, 3) := by decide +kernel
theorem dX12_failAt_28 : decode cX12_failAt 28 = .ok (.iconst 0, 1) := by decide +kernel
theorem dX12_failAt_29 : decode cX12_failAt 29 = .ok (.putfield 66, 3) := by decide +kernel
theorem dX12_failAt_32 : decode cX12_failAt 32 = .ok (.aload_n 0, 1) := by decide +kernel
theorem dX12_failAt_33 : decode cX12_failAt 33 = .ok (.getfield 66, 3) := by decide +kernel
theorem dX12_failAt_36 : decode cX12_failAt 36 = .ok (.ifCond .le 5, 3) := by decide +kernel
theorem dX12_failAt_39 : decode cX12_failAt 39 = .ok (.iconst 0, 1) := by decide +kernel
theorem dX12_failAt_40 : decode cX12_failAt 40 = .ok (.ireturn, 1) := by decide +kernel
theorem dX12_failAt_41 : decode cX12_failAt 41 = .ok (.aload_n 0, 1) := by decide +kernel
theorem dX12_failAt_42 : decode cX12_failAt 42 = .ok (.getfield 123, 3) := by decide +kernel
theorem dX12_failAt_45 : decode cX12_failAt 45 = .ok (.istore_n 2, 1) := by decide +kernel
theorem dX12_failAt_46 : decode cX12_failAt 46 = .ok (.aload_n 0, 1) := by decide +kernel
theorem dX12_failAt_47 : decode cX12_failAt 47 = .ok (.iload_n 1, 1) := by decide +kernel
theorem dX12_failAt_48 : decode cX12_failAt 48 = .ok (.putfield 123, 3) := by decide +kernel
theorem dX12_failAt_51 : decode cX12_failAt 51 = .ok (.iload_n 2, 1) := by decide +kernel
theorem dX12_failAt_52 : decode cX12_failAt 52 = .ok (.ireturn, 1) := by decide +kernel
theorem dX12_fail_0 : decode cX12_fail 0 = .ok (.aload_n 0, 1) := by decide +kernel
theorem dX12_fail_1 : decode cX12_fail 1 = .ok (.aload_n 0, 1) := by decide +kernel
theorem dX12_fail_2 : decode cX12_fail 2 = .ok (.getfield 56, 3) := by decide +kernel
theorem dX12_fail_5 : decode cX12_fail 5 = .ok (.ifCond .eq 7, 3) := by decide +kernel
theorem dX12_fail_8 : decode cX12_fail 8 = .ok (.iconst 0, 1) := by decide +kernel
theorem dX12_fail_9 : decode cX12_fail 9 = .ok (.goto 4, 3) := by decide +kernel
theorem dX12_fail_12 : decode cX12_fail 12 = .ok (.iconst 1, 1) := by decide +kernel
theorem dX12_fail_13 : decode cX12_fail 13 = .ok (.putfield 66, 3) := by decide +kernel
theorem dX12_fail_16 : decode cX12_fail 16 = .ok (.aload_n 0, 1) := by decide +kernel
theorem dX12_fail_17 : decode cX12_fail 17 = .ok (.getfield 66, 3) := by decide +kernel
theorem dX12_fail_20 : decode cX12_fail 20 = .ok (.ifCond .le 5, 3) := by decide +kernel
theorem dX12_fail_23 : decode cX12_fail 23 = .ok (.iconst 0, 1) := by decide +kernel
theorem dX12_fail_24 : decode cX12_fail 24 = .ok (.ireturn, 1) := by decide +kernel
theorem dX12_fail_25 : decode cX12_fail 25 = .ok (.iconst 0, 1) := by decide +kernel
theorem dX12_fail_26 : decode cX12_fail 26 = .ok (.istore_n 1, 1) := by decide +kernel
theorem dX12_fail_27 : decode cX12_fail 27 = .ok (.aload_n 0, 1) := by decide +kernel
theorem dX12_fail_28 : decode cX12_fail 28 = .ok (.getfield 34, 3) := by decide +kernel
theorem dX12_fail_31 : decode cX12_fail 31 = .ok (.astore_n 2, 1) := by decide +kernel
theorem dX12_fail_32 : decode cX12_fail 32 = .ok (.aload_n 2, 1) := by decide +kernel
theorem dX12_fail_33 : decode cX12_fail 33 = .ok (.arraylength, 1) := by decide +kernel
theorem dX12_fail_34 : decode cX12_fail 34 = .ok (.istore_n 3, 1) := by decide +kernel
theorem dX12_fail_35 : decode cX12_fail 35 = .ok (.iconst 0, 1) := by decide +kernel
theorem dX12_fail_36 : decode cX12_fail 36 = .ok (.istore 4, 2) := by decide +kernel
theorem dX12_fail_38 : decode cX12_fail 38 = .ok (.iload 4, 2) := by decide +kernel
theorem dX12_fail_40 : decode cX12_fail 40 = .ok (.iload_n 3, 1) := by decide +kernel
theorem dX12_fail_41 : decode cX12_fail 41 = .ok (.if_icmp .ge 36, 3) := by decide +kernel
theorem dX12_fail_44 : decode cX12_fail 44 = .ok (.aload_n 2, 1) := by decide +kernel
theorem dX12_fail_45 : decode cX12_fail 45 = .ok (.iload 4, 2) := by decide +kernel
theorem dX12_fail_47 : decode cX12_fail 47 = .ok (.aaload, 1) := by decide +kernel
theorem dX12_fail_48 : decode cX12_fail 48 = .ok (.astore 5, 2) := by decide +kernel
theorem dX12_fail_50 : decode cX12_fail 50 = .ok (.iload_n 1, 1) := by decide +kernel
theorem dX12_fail_51 : decode cX12_fail 51 = .ok (.aload 5, 2) := by decide +kernel
theorem dX12_fail_53 : decode cX12_fail 53 = .ok (.ifnull 15, 3) := by decide +kernel
theorem dX12_fail_56 : decode cX12_fail 56 = .ok (.aload 5, 2) := by decide +kernel
theorem dX12_fail_58 : decode cX12_fail 58 = .ok (.invokevirtual 155, 3) := by decide +kernel
theorem dX12_fail_61 : decode cX12_fail 61 = .ok (.ifCond .eq 7, 3) := by decide +kernel
theorem dX12_fail_64 : decode cX12_fail 64 = .ok (.iconst 1, 1) := by decide +kernel
theorem dX12_fail_65 : decode cX12_fail 65 = .ok (.goto 4, 3) := by decide +kernel
theorem dX12_fail_68 : decode cX12_fail 68 = .ok (.iconst 0, 1) := by decide +kernel
theorem dX12_fail_69 : decode cX12_fail 69 = .ok (.iadd, 1) := by decide +kernel
theorem dX12_fail_70 : decode cX12_fail 70 = .ok (.istore_n 1, 1) := by decide +kernel
theorem dX12_fail_71 : decode cX12_fail 71 = .ok (.iinc 4 1, 3) := by decide +kernel
theorem dX12_fail_74 : decode cX12_fail 74 = .ok (.goto (-36), 3) := by decide +kernel
theorem dX12_fail_77 : decode cX12_fail 77 = .ok (.aload_n 0, 1) := by decide +kernel
theorem dX12_fail_78 : decode cX12_fail 78 = .ok (.getfield 123, 3) := by decide +kernel
theorem dX12_fail_81 : decode cX12_fail 81 = .ok (.istore_n 2, 1) := by decide +kernel
theorem dX12_fail_82 : decode cX12_fail 82 = .ok (.aload_n 0, 1) := by decide +kernel
theorem dX12_fail_83 : decode cX12_fail 83 = .ok (.invokevirtual 129, 3) := by decide +kernel
theorem dX12_fail_86 : decode cX12_fail 86 = .ok (.aload_n 0, 1) := by decide +kernel
theorem dX12_fail_87 : decode cX12_fail 87 = .ok (.iload_n 2, 1) := by decide +kernel
theorem dX12_fail_88 : decode cX12_fail 88 = .ok (.putfield 123, 3) := by decide +kernel
theorem dX12_fail_91 : decode cX12_fail 91 = .ok (.iload_n 1, 1) := by decide +kernel
theorem dX12_fail_92 : decode cX12_fail 92 = .ok (.ireturn, 1) := by decide +kernel
theorem dX12_powerOn_0 : decode cX12_powerOn 0 = .ok (.aload_n 0, 1) := by decide +kernel
theorem dX12_powerOn_1 : decode cX12_powerOn 1 = .ok (.aload_n 0, 1) := by decide +kernel
theorem dX12_powerOn_2 : decode cX12_powerOn 2 = .ok (.getfield 56, 3) := by decide +kernel
theorem dX12_powerOn_5 : decode cX12_powerOn 5 = .ok (.ifCond .eq 7, 3) := by decide +kernel
theorem dX12_powerOn_8 : decode cX12_powerOn 8 = .ok (.iconst 1, 1) := by decide +kernel
theorem dX12_powerOn_9 : decode cX12_powerOn 9 = .ok (.goto 4, 3) := by decide +kernel
theorem dX12_powerOn_12 : decode cX12_powerOn 12 = .ok (.iconst 0, 1) := by decide +kernel
theorem dX12_powerOn_13 : decode cX12_powerOn 13 = .ok (.putfield 66, 3) := by decide +kernel
theorem dX12_powerOn_16 : decode cX12_powerOn 16 = .ok (.iconst 0, 1) := by decide +kernel
theorem dX12_powerOn_17 : decode cX12_powerOn 17 = .ok (.istore_n 1, 1) := by decide +kernel
theorem dX12_powerOn_18 : decode cX12_powerOn 18 = .ok (.iconst 0, 1) := by decide +kernel
theorem dX12_powerOn_19 : decode cX12_powerOn 19 = .ok (.istore_n 2, 1) := by decide +kernel
theorem dX12_powerOn_20 : decode cX12_powerOn 20 = .ok (.iload_n 2, 1) := by decide +kernel
theorem dX12_powerOn_21 : decode cX12_powerOn 21 = .ok (.sipush 128, 3) := by decide +kernel
theorem dX12_powerOn_24 : decode cX12_powerOn 24 = .ok (.if_icmp .ge 40, 3) := by decide +kernel
theorem dX12_powerOn_27 : decode cX12_powerOn 27 = .ok (.aload_n 0, 1) := by decide +kernel
theorem dX12_powerOn_28 : decode cX12_powerOn 28 = .ok (.getfield 66, 3) := by decide +kernel
theorem dX12_powerOn_31 : decode cX12_powerOn 31 = .ok (.ifCond .ne 33, 3) := by decide +kernel
theorem dX12_powerOn_34 : decode cX12_powerOn 34 = .ok (.aload_n 0, 1) := by decide +kernel
theorem dX12_powerOn_35 : decode cX12_powerOn 35 = .ok (.getfield 53, 3) := by decide +kernel
theorem dX12_powerOn_38 : decode cX12_powerOn 38 = .ok (.iload_n 2, 1) := by decide +kernel
theorem dX12_powerOn_39 : decode cX12_powerOn 39 = .ok (.iaload, 1) := by decide +kernel
theorem dX12_powerOn_40 : decode cX12_powerOn 40 = .ok (.iconst (-1), 1) := by decide +kernel
theorem dX12_powerOn_41 : decode cX12_powerOn 41 = .ok (.if_icmp .eq 17, 3) := by decide +kernel
theorem dX12_powerOn_44 : decode cX12_powerOn 44 = .ok (.aload_n 0, 1) := by decide +kernel
theorem dX12_powerOn_45 : decode cX12_powerOn 45 = .ok (.iload_n 2, 1) := by decide +kernel
theorem dX12_powerOn_46 : decode cX12_powerOn 46 = .ok (.aload_n 0, 1) := by decide +kernel
theorem dX12_powerOn_47 : decode cX12_powerOn 47 = .ok (.getfield 53, 3) := by decide +kernel
theorem dX12_powerOn_50 : decode cX12_powerOn 50 = .ok (.iload_n 2, 1) := by decide +kernel
theorem dX12_powerOn_51 : decode cX12_powerOn 51 = .ok (.iaload, 1) := by decide +kernel
theorem dX12_powerOn_52 : decode cX12_powerOn 52 = .ok (.invokevirtual 145, 3) := by decide +kernel
theorem dX12_powerOn_55 : decode cX12_powerOn 55 = .ok (.iinc 1 1, 3) := by decide +kernel
theorem dX12_powerOn_58 : decode cX12_powerOn 58 = .ok (.iinc 2 1, 3) := by decide +kernel
theorem dX12_powerOn_61 : decode cX12_powerOn 61 = .ok (.goto (-41), 3) := by decide +kernel
theorem dX12_powerOn_64 : decode cX12_powerOn 64 = .ok (.aload_n 0, 1) := by decide +kernel
theorem dX12_powerOn_65 : decode cX12_powerOn 65 = .ok (.iconst 1, 1) := by decide +kernel
theorem dX12_powerOn_66 : decode cX12_powerOn 66 = .ok (.putfield 56, 3) := by decide +kernel
theorem dX12_powerOn_69 : decode cX12_powerOn 69 = .ok (.iload_n 1, 1) := by decide +kernel
theorem dX12_powerOn_70 : decode cX12_powerOn 70 = .ok (.ireturn, 1) := by decide +kernel
theorem dX12_hasPower_0 : decode cX12_hasPower 0 = .ok (.aload_n 0, 1) := by decide +kernel
theorem dX12_hasPower_1 : decode cX12_hasPower 1 = .ok (.iconst 0, 1) := by decide +kernel
theorem dX12_hasPower_2 : decode cX12_hasPower 2 = .ok (.putfield 66, 3) := by decide +kernel
theorem dX12_hasPower_5 : decode cX12_hasPower 5 = .ok (.aload_n 0, 1) := by decide +kernel
theorem dX12_hasPower_6 : decode cX12_hasPower 6 = .ok (.getfield 56, 3) := by decide +kernel
theorem dX12_hasPower_9 : decode cX12_hasPower 9 = .ok (.ireturn, 1) := by decide +kernel
theorem dX12_damage_0 : decode cX12_damage 0 = .ok (.aload_n 0, 1) := by decide +kernel
theorem dX12_damage_1 : decode cX12_damage 1 = .ok (.iload_n 1, 1) := by decide +kernel
theorem dX12_damage_2 : decode cX12_damage 2 = .ok (.iload_n 2, 1) := by decide +kernel
theorem dX12_damage_3 : decode cX12_damage 3 = .ok (.invokevirtual 214, 3) := by decide +kernel
theorem dX12_damage_6 : decode cX12_damage 6 = .ok (.ifCond .eq 5, 3) := by decide +kernel
theorem dX12_damage_9 : decode cX12_damage 9 = .ok (.iconst 0, 1) := by decide +kernel
theorem dX12_damage_10 : decode cX12_damage 10 = .ok (.ireturn, 1) := by decide +kernel
theorem dX12_damage_11 : decode cX12_damage 11 = .ok (.aload_n 0, 1) := by decide +kernel
theorem dX12_damage_12 : decode cX12_damage 12 = .ok (.iload_n 1, 1) := by decide +kernel
theorem dX12_damage_13 : decode cX12_damage 13 = .ok (.iload_n 2, 1) := by decide +kernel
theorem dX12_damage_14 : decode cX12_damage 14 = .ok (.invokevirtual 218, 3) := by decide +kernel
theorem dX12_damage_17 : decode cX12_damage 17 = .ok (.istore 4, 2) := by decide +kernel
theorem dX12_damage_19 : decode cX12_damage 19 = .ok (.aload_n 0, 1) := by decide +kernel
theorem dX12_damage_20 : decode cX12_damage 20 = .ok (.iload_n 3, 1) := by decide +kernel
theorem dX12_damage_21 : decode cX12_damage 21 = .ok (.i2l, 1) := by decide +kernel
theorem dX12_damage_22 : decode cX12_damage 22 = .ok (.lconst 0, 1) := by decide +kernel
theorem dX12_damage_23 : decode cX12_damage 23 = .ok (.ldc2_w 258, 3) := by decide +kernel
theorem dX12_damage_26 : decode cX12_damage 26 = .ok (.invokestatic 69, 3) := by decide +kernel
theorem dX12_damage_29 : decode cX12_damage 29 = .ok (.ifCond .ne 7, 3) := by decide +kernel
theorem dX12_damage_32 : decode cX12_damage 32 = .ok (.iconst 2, 1) := by decide +kernel
theorem dX12_damage_33 : decode cX12_damage 33 = .ok (.goto 19, 3) := by decide +kernel
theorem dX12_damage_36 : decode cX12_damage 36 = .ok (.aload_n 0, 1) := by decide +kernel
theorem dX12_damage_37 : decode cX12_damage 37 = .ok (.getfield 9, 3) := by decide +kernel
theorem dX12_damage_40 : decode cX12_damage 40 = .ok (.iload 4, 2) := by decide +kernel
theorem dX12_damage_42 : decode cX12_damage 42 = .ok (.iaload, 1) := by decide +kernel
theorem dX12_damage_43 : decode cX12_damage 43 = .ok (.iload_n 3, 1) := by decide +kernel
theorem dX12_damage_44 : decode cX12_damage 44 = .ok (.if_icmp .ne 7, 3) := by decide +kernel
theorem dX12_damage_47 : decode cX12_damage 47 = .ok (.iconst 3, 1) := by decide +kernel
theorem dX12_damage_48 : decode cX12_damage 48 = .ok (.goto 4, 3) := by decide +kernel
theorem dX12_damage_51 : decode cX12_damage 51 = .ok (.iconst 0, 1) := by decide +kernel
theorem dX12_damage_52 : decode cX12_damage 52 = .ok (.putfield 66, 3) := by decide +kernel
theorem dX12_damage_55 : decode cX12_damage 55 = .ok (.aload_n 0, 1) := by decide +kernel
theorem dX12_damage_56 : decode cX12_damage 56 = .ok (.getfield 66, 3) := by decide +kernel
theorem dX12_damage_59 : decode cX12_damage 59 = .ok (.ifCond .le 5, 3) := by decide +kernel
theorem dX12_damage_62 : decode cX12_damage 62 = .ok (.iconst 0, 1) := by decide +kernel
theorem dX12_damage_63 : decode cX12_damage 63 = .ok (.ireturn, 1) := by decide +kernel
theorem dX12_damage_64 : decode cX12_damage 64 = .ok (.aload_n 0, 1) := by decide +kernel
theorem dX12_damage_65 : decode cX12_damage 65 = .ok (.getfield 9, 3) := by decide +kernel
theorem dX12_damage_68 : decode cX12_damage 68 = .ok (.iload 4, 2) := by decide +kernel
theorem dX12_damage_70 : decode cX12_damage 70 = .ok (.iaload, 1) := by decide +kernel
theorem dX12_damage_71 : decode cX12_damage 71 = .ok (.istore 5, 2) := by decide +kernel
theorem dX12_damage_73 : decode cX12_damage 73 = .ok (.aload_n 0, 1) := by decide +kernel
theorem dX12_damage_74 : decode cX12_damage 74 = .ok (.getfield 9, 3) := by decide +kernel
theorem dX12_damage_77 : decode cX12_damage 77 = .ok (.iload 4, 2) := by decide +kernel
theorem dX12_damage_79 : decode cX12_damage 79 = .ok (.iload_n 3, 1) := by decide +kernel
theorem dX12_damage_80 : decode cX12_damage 80 = .ok (.iastore, 1) := by decide +kernel
theorem dX12_damage_81 : decode cX12_damage 81 = .ok (.iload 5, 2) := by decide +kernel
theorem dX12_damage_83 : decode cX12_damage 83 = .ok (.ireturn, 1) := by decide +kernel
theorem dX12_scrub_0 : decode cX12_scrub 0 = .ok (.aload_n 0, 1) := by decide +kernel
theorem dX12_scrub_1 : decode cX12_scrub 1 = .ok (.iload_n 1, 1) := by decide +kernel
theorem dX12_scrub_2 : decode cX12_scrub 2 = .ok (.i2l, 1) := by decide +kernel
theorem dX12_scrub_3 : decode cX12_scrub 3 = .ok (.lconst 0, 1) := by decide +kernel
theorem dX12_scrub_4 : decode cX12_scrub 4 = .ok (.lconst 1, 1) := by decide +kernel
theorem dX12_scrub_5 : decode cX12_scrub 5 = .ok (.invokestatic 69, 3) := by decide +kernel
theorem dX12_scrub_8 : decode cX12_scrub 8 = .ok (.ifCond .eq 7, 3) := by decide +kernel
theorem dX12_scrub_11 : decode cX12_scrub 11 = .ok (.iconst 0, 1) := by decide +kernel
theorem dX12_scrub_12 : decode cX12_scrub 12 = .ok (.goto 4, 3) := by decide +kernel
theorem dX12_scrub_15 : decode cX12_scrub 15 = .ok (.iconst 1, 1) := by decide +kernel
theorem dX12_scrub_16 : decode cX12_scrub 16 = .ok (.putfield 66, 3) := by decide +kernel
theorem dX12_scrub_19 : decode cX12_scrub 19 = .ok (.iconst 0, 1) := by decide +kernel
theorem dX12_scrub_20 : decode cX12_scrub 20 = .ok (.istore_n 2, 1) := by decide +kernel
theorem dX12_scrub_21 : decode cX12_scrub 21 = .ok (.iconst 0, 1) := by decide +kernel
theorem dX12_scrub_22 : decode cX12_scrub 22 = .ok (.istore_n 3, 1) := by decide +kernel
theorem dX12_scrub_23 : decode cX12_scrub 23 = .ok (.iload_n 3, 1) := by decide +kernel
theorem dX12_scrub_24 : decode cX12_scrub 24 = .ok (.bipush 64, 2) := by decide +kernel
theorem dX12_scrub_26 : decode cX12_scrub 26 = .ok (.if_icmp .ge 37, 3) := by decide +kernel
theorem dX12_scrub_29 : decode cX12_scrub 29 = .ok (.aload_n 0, 1) := by decide +kernel
theorem dX12_scrub_30 : decode cX12_scrub 30 = .ok (.getfield 66, 3) := by decide +kernel
theorem dX12_scrub_33 : decode cX12_scrub 33 = .ok (.ifCond .ne 30, 3) := by decide +kernel
theorem dX12_scrub_36 : decode cX12_scrub 36 = .ok (.iload_n 2, 1) := by decide +kernel
theorem dX12_scrub_37 : decode cX12_scrub 37 = .ok (.aload_n 0, 1) := by decide +kernel
theorem dX12_scrub_38 : decode cX12_scrub 38 = .ok (.bipush 64, 2) := by decide +kernel
theorem dX12_scrub_40 : decode cX12_scrub 40 = .ok (.iload_n 1, 1) := by decide +kernel
theorem dX12_scrub_41 : decode cX12_scrub 41 = .ok (.imul, 1) := by decide +kernel
theorem dX12_scrub_42 : decode cX12_scrub 42 = .ok (.iload_n 3, 1) := by decide +kernel
theorem dX12_scrub_43 : decode cX12_scrub 43 = .ok (.iadd, 1) := by decide +kernel
theorem dX12_scrub_44 : decode cX12_scrub 44 = .ok (.invokevirtual 224, 3) := by decide +kernel
theorem dX12_scrub_47 : decode cX12_scrub 47 = .ok (.ifCond .eq 7, 3) := by decide +kernel
theorem dX12_scrub_50 : decode cX12_scrub 50 = .ok (.iconst 1, 1) := by decide +kernel
theorem dX12_scrub_51 : decode cX12_scrub 51 = .ok (.goto 4, 3) := by decide +kernel
theorem dX12_scrub_54 : decode cX12_scrub 54 = .ok (.iconst 0, 1) := by decide +kernel
theorem dX12_scrub_55 : decode cX12_scrub 55 = .ok (.iadd, 1) := by decide +kernel
theorem dX12_scrub_56 : decode cX12_scrub 56 = .ok (.istore_n 2, 1) := by decide +kernel
theorem dX12_scrub_57 : decode cX12_scrub 57 = .ok (.iinc 3 1, 3) := by decide +kernel
theorem dX12_scrub_60 : decode cX12_scrub 60 = .ok (.goto (-37), 3) := by decide +kernel
theorem dX12_scrub_63 : decode cX12_scrub 63 = .ok (.iload_n 2, 1) := by decide +kernel
theorem dX12_scrub_64 : decode cX12_scrub 64 = .ok (.ireturn, 1) := by decide +kernel
theorem dX12_keepImage_0 : decode cX12_keepImage 0 = .ok (.aload_n 0, 1) := by decide +kernel
theorem dX12_keepImage_1 : decode cX12_keepImage 1 = .ok (.iload_n 1, 1) := by decide +kernel
theorem dX12_keepImage_2 : decode cX12_keepImage 2 = .ok (.i2l, 1) := by decide +kernel
theorem dX12_keepImage_3 : decode cX12_keepImage 3 = .ok (.lconst 0, 1) := by decide +kernel
theorem dX12_keepImage_4 : decode cX12_keepImage 4 = .ok (.lconst 1, 1) := by decide +kernel
theorem dX12_keepImage_5 : decode cX12_keepImage 5 = .ok (.invokestatic 69, 3) := by decide +kernel
theorem dX12_keepImage_8 : decode cX12_keepImage 8 = .ok (.ifCond .ne 7, 3) := by decide +kernel
theorem dX12_keepImage_11 : decode cX12_keepImage 11 = .ok (.iconst 1, 1) := by decide +kernel
theorem dX12_keepImage_12 : decode cX12_keepImage 12 = .ok (.goto 19, 3) := by decide +kernel
theorem dX12_keepImage_15 : decode cX12_keepImage 15 = .ok (.aload_n 0, 1) := by decide +kernel
theorem dX12_keepImage_16 : decode cX12_keepImage 16 = .ok (.getfield 60, 3) := by decide +kernel
theorem dX12_keepImage_19 : decode cX12_keepImage 19 = .ok (.invokevirtual 83, 3) := by decide +kernel
theorem dX12_keepImage_22 : decode cX12_keepImage 22 = .ok (.iconst 4, 1) := by decide +kernel
theorem dX12_keepImage_23 : decode cX12_keepImage 23 = .ok (.if_icmp .ne 7, 3) := by decide +kernel
theorem dX12_keepImage_26 : decode cX12_keepImage 26 = .ok (.iconst 2, 1) := by decide +kernel
theorem dX12_keepImage_27 : decode cX12_keepImage 27 = .ok (.goto 4, 3) := by decide +kernel
theorem dX12_keepImage_30 : decode cX12_keepImage 30 = .ok (.iconst 0, 1) := by decide +kernel
theorem dX12_keepImage_31 : decode cX12_keepImage 31 = .ok (.putfield 66, 3) := by decide +kernel
theorem dX12_keepImage_34 : decode cX12_keepImage 34 = .ok (.aload_n 0, 1) := by decide +kernel
theorem dX12_keepImage_35 : decode cX12_keepImage 35 = .ok (.getfield 66, 3) := by decide +kernel
theorem dX12_keepImage_38 : decode cX12_keepImage 38 = .ok (.ifCond .le 5, 3) := by decide +kernel
theorem dX12_keepImage_41 : decode cX12_keepImage 41 = .ok (.iconst 0, 1) := by decide +kernel
theorem dX12_keepImage_42 : decode cX12_keepImage 42 = .ok (.ireturn, 1) := by decide +kernel
theorem dX12_keepImage_43 : decode cX12_keepImage 43 = .ok (.new 299, 3) := by decide +kernel
theorem dX12_keepImage_46 : decode cX12_keepImage 46 = .ok (.dup, 1) := by decide +kernel
theorem dX12_keepImage_47 : decode cX12_keepImage 47 = .ok (.iload_n 1, 1) := by decide +kernel
theorem dX12_keepImage_48 : decode cX12_keepImage 48 = .ok (.invokespecial 301, 3) := by decide +kernel
theorem dX12_keepImage_51 : decode cX12_keepImage 51 = .ok (.astore_n 2, 1) := by decide +kernel
theorem dX12_keepImage_52 : decode cX12_keepImage 52 = .ok (.iconst 0, 1) := by decide +kernel
theorem dX12_keepImage_53 : decode cX12_keepImage 53 = .ok (.istore_n 3, 1) := by decide +kernel
theorem dX12_keepImage_54 : decode cX12_keepImage 54 = .ok (.iload_n 3, 1) := by decide +kernel
theorem dX12_keepImage_55 : decode cX12_keepImage 55 = .ok (.bipush 64, 2) := by decide +kernel
theorem dX12_keepImage_57 : decode cX12_keepImage 57 = .ok (.if_icmp .ge 43, 3) := by decide +kernel
theorem dX12_keepImage_60 : decode cX12_keepImage 60 = .ok (.aload_n 2, 1) := by decide +kernel
theorem dX12_keepImage_61 : decode cX12_keepImage 61 = .ok (.getfield 302, 3) := by decide +kernel
theorem dX12_keepImage_64 : decode cX12_keepImage 64 = .ok (.iload_n 3, 1) := by decide +kernel
theorem dX12_keepImage_65 : decode cX12_keepImage 65 = .ok (.aload_n 0, 1) := by decide +kernel
theorem dX12_keepImage_66 : decode cX12_keepImage 66 = .ok (.getfield 9, 3) := by decide +kernel
theorem dX12_keepImage_69 : decode cX12_keepImage 69 = .ok (.bipush 64, 2) := by decide +kernel
theorem dX12_keepImage_71 : decode cX12_keepImage 71 = .ok (.iload_n 1, 1) := by decide +kernel
theorem dX12_keepImage_72 : decode cX12_keepImage 72 = .ok (.imul, 1) := by decide +kernel
theorem dX12_keepImage_73 : decode cX12_keepImage 73 = .ok (.iload_n 3, 1) := by decide +kernel
theorem dX12_keepImage_74 : decode cX12_keepImage 74 = .ok (.iadd, 1) := by decide +kernel
theorem dX12_keepImage_75 : decode cX12_keepImage 75 = .ok (.iaload, 1) := by decide +kernel
theorem dX12_keepImage_76 : decode cX12_keepImage 76 = .ok (.iastore, 1) := by decide +kernel
theorem dX12_keepImage_77 : decode cX12_keepImage 77 = .ok (.aload_n 2, 1) := by decide +kernel
theorem dX12_keepImage_78 : decode cX12_keepImage 78 = .ok (.getfield 303, 3) := by decide +kernel
theorem dX12_keepImage_81 : decode cX12_keepImage 81 = .ok (.iload_n 3, 1) := by decide +kernel
theorem dX12_keepImage_82 : decode cX12_keepImage 82 = .ok (.aload_n 0, 1) := by decide +kernel
theorem dX12_keepImage_83 : decode cX12_keepImage 83 = .ok (.getfield 13, 3) := by decide +kernel
theorem dX12_keepImage_86 : decode cX12_keepImage 86 = .ok (.bipush 64, 2) := by decide +kernel
theorem dX12_keepImage_88 : decode cX12_keepImage 88 = .ok (.iload_n 1, 1) := by decide +kernel
theorem dX12_keepImage_89 : decode cX12_keepImage 89 = .ok (.imul, 1) := by decide +kernel
theorem dX12_keepImage_90 : decode cX12_keepImage 90 = .ok (.iload_n 3, 1) := by decide +kernel
theorem dX12_keepImage_91 : decode cX12_keepImage 91 = .ok (.iadd, 1) := by decide +kernel
theorem dX12_keepImage_92 : decode cX12_keepImage 92 = .ok (.iaload, 1) := by decide +kernel
theorem dX12_keepImage_93 : decode cX12_keepImage 93 = .ok (.iastore, 1) := by decide +kernel
theorem dX12_keepImage_94 : decode cX12_keepImage 94 = .ok (.iinc 3 1, 3) := by decide +kernel
theorem dX12_keepImage_97 : decode cX12_keepImage 97 = .ok (.goto (-43), 3) := by decide +kernel
theorem dX12_keepImage_100 : decode cX12_keepImage 100 = .ok (.aload_n 0, 1) := by decide +kernel
theorem dX12_keepImage_101 : decode cX12_keepImage 101 = .ok (.getfield 60, 3) := by decide +kernel
theorem dX12_keepImage_104 : decode cX12_keepImage 104 = .ok (.aload_n 2, 1) := by decide +kernel
theorem dX12_keepImage_105 : decode cX12_keepImage 105 = .ok (.invokevirtual 79, 3) := by decide +kernel
theorem dX12_keepImage_108 : decode cX12_keepImage 108 = .ok (.pop, 1) := by decide +kernel
theorem dX12_keepImage_109 : decode cX12_keepImage 109 = .ok (.aload_n 0, 1) := by decide +kernel
theorem dX12_keepImage_110 : decode cX12_keepImage 110 = .ok (.getfield 60, 3) := by decide +kernel
theorem dX12_keepImage_113 : decode cX12_keepImage 113 = .ok (.invokevirtual 83, 3) := by decide +kernel
theorem dX12_keepImage_116 : decode cX12_keepImage 116 = .ok (.iconst 1, 1) := by decide +kernel
theorem dX12_keepImage_117 : decode cX12_keepImage 117 = .ok (.isub, 1) := by decide +kernel
theorem dX12_keepImage_118 : decode cX12_keepImage 118 = .ok (.ireturn, 1) := by decide +kernel
theorem dX12_layBack_0 : decode cX12_layBack 0 = .ok (.aload_n 0, 1) := by decide +kernel
theorem dX12_layBack_1 : decode cX12_layBack 1 = .ok (.iload_n 1, 1) := by decide +kernel
theorem dX12_layBack_2 : decode cX12_layBack 2 = .ok (.i2l, 1) := by decide +kernel
theorem dX12_layBack_3 : decode cX12_layBack 3 = .ok (.lconst 0, 1) := by decide +kernel
theorem dX12_layBack_4 : decode cX12_layBack 4 = .ok (.aload_n 0, 1) := by decide +kernel
theorem dX12_layBack_5 : decode cX12_layBack 5 = .ok (.getfield 60, 3) := by decide +kernel
theorem dX12_layBack_8 : decode cX12_layBack 8 = .ok (.invokevirtual 83, 3) := by decide +kernel
theorem dX12_layBack_11 : decode cX12_layBack 11 = .ok (.iconst 1, 1) := by decide +kernel
theorem dX12_layBack_12 : decode cX12_layBack 12 = .ok (.isub, 1) := by decide +kernel
theorem dX12_layBack_13 : decode cX12_layBack 13 = .ok (.i2l, 1) := by decide +kernel
theorem dX12_layBack_14 : decode cX12_layBack 14 = .ok (.invokestatic 69, 3) := by decide +kernel
theorem dX12_layBack_17 : decode cX12_layBack 17 = .ok (.ifCond .eq 13, 3) := by decide +kernel
theorem dX12_layBack_20 : decode cX12_layBack 20 = .ok (.iload_n 2, 1) := by decide +kernel
theorem dX12_layBack_21 : decode cX12_layBack 21 = .ok (.i2l, 1) := by decide +kernel
theorem dX12_layBack_22 : decode cX12_layBack 22 = .ok (.lconst 0, 1) := by decide +kernel
theorem dX12_layBack_23 : decode cX12_layBack 23 = .ok (.lconst 1, 1) := by decide +kernel
theorem dX12_layBack_24 : decode cX12_layBack 24 = .ok (.invokestatic 69, 3) := by decide +kernel
theorem dX12_layBack_27 : decode cX12_layBack 27 = .ok (.ifCond .ne 7, 3) := by decide +kernel
theorem dX12_layBack_30 : decode cX12_layBack 30 = .ok (.iconst 1, 1) := by decide +kernel
theorem dX12_layBack_31 : decode cX12_layBack 31 = .ok (.goto 33, 3) := by decide +kernel
theorem dX12_layBack_34 : decode cX12_layBack 34 = .ok (.aload_n 0, 1) := by decide +kernel
theorem dX12_layBack_35 : decode cX12_layBack 35 = .ok (.getfield 60, 3) := by decide +kernel
theorem dX12_layBack_38 : decode cX12_layBack 38 = .ok (.iload_n 1, 1) := by decide +kernel
theorem dX12_layBack_39 : decode cX12_layBack 39 = .ok (.invokevirtual 162, 3) := by decide +kernel
theorem dX12_layBack_42 : decode cX12_layBack 42 = .ok (.checkcast 299, 3) := by decide +kernel
theorem dX12_layBack_45 : decode cX12_layBack 45 = .ok (.getfield 304, 3) := by decide +kernel
theorem dX12_layBack_48 : decode cX12_layBack 48 = .ok (.iload_n 2, 1) := by decide +kernel
theorem dX12_layBack_49 : decode cX12_layBack 49 = .ok (.if_icmp .ne 10, 3) := by decide +kernel
theorem dX12_layBack_52 : decode cX12_layBack 52 = .ok (.aload_n 0, 1) := by decide +kernel
theorem dX12_layBack_53 : decode cX12_layBack 53 = .ok (.getfield 126, 3) := by decide +kernel
theorem dX12_layBack_56 : decode cX12_layBack 56 = .ok (.ifCond .eq 7, 3) := by decide +kernel
theorem dX12_layBack_59 : decode cX12_layBack 59 = .ok (.iconst 2, 1) := by decide +kernel
theorem dX12_layBack_60 : decode cX12_layBack 60 = .ok (.goto 4, 3) := by decide +kernel
theorem dX12_layBack_63 : decode cX12_layBack 63 = .ok (.iconst 0, 1) := by decide +kernel
theorem dX12_layBack_64 : decode cX12_layBack 64 = .ok (.putfield 66, 3) := by decide +kernel
theorem dX12_layBack_67 : decode cX12_layBack 67 = .ok (.aload_n 0, 1) := by decide +kernel
theorem dX12_layBack_68 : decode cX12_layBack 68 = .ok (.getfield 66, 3) := by decide +kernel
theorem dX12_layBack_71 : decode cX12_layBack 71 = .ok (.ifCond .le 5, 3) := by decide +kernel
theorem dX12_layBack_74 : decode cX12_layBack 74 = .ok (.iconst 0, 1) := by decide +kernel
theorem dX12_layBack_75 : decode cX12_layBack 75 = .ok (.ireturn, 1) := by decide +kernel
theorem dX12_layBack_76 : decode cX12_layBack 76 = .ok (.iconst 0, 1) := by decide +kernel
theorem dX12_layBack_77 : decode cX12_layBack 77 = .ok (.istore_n 3, 1) := by decide +kernel
theorem dX12_layBack_78 : decode cX12_layBack 78 = .ok (.iconst 0, 1) := by decide +kernel
theorem dX12_layBack_79 : decode cX12_layBack 79 = .ok (.istore 4, 2) := by decide +kernel
theorem dX12_layBack_81 : decode cX12_layBack 81 = .ok (.iload 4, 2) := by decide +kernel
theorem dX12_layBack_83 : decode cX12_layBack 83 = .ok (.bipush 64, 2) := by decide +kernel
theorem dX12_layBack_85 : decode cX12_layBack 85 = .ok (.if_icmp .ge 131, 3) := by decide +kernel
theorem dX12_layBack_88 : decode cX12_layBack 88 = .ok (.bipush 64, 2) := by decide +kernel
theorem dX12_layBack_90 : decode cX12_layBack 90 = .ok (.iload_n 2, 1) := by decide +kernel
theorem dX12_layBack_91 : decode cX12_layBack 91 = .ok (.imul, 1) := by decide +kernel
theorem dX12_layBack_92 : decode cX12_layBack 92 = .ok (.iload 4, 2) := by decide +kernel
theorem dX12_layBack_94 : decode cX12_layBack 94 = .ok (.iadd, 1) := by decide +kernel
theorem dX12_layBack_95 : decode cX12_layBack 95 = .ok (.istore 5, 2) := by decide +kernel
theorem dX12_layBack_97 : decode cX12_layBack 97 = .ok (.iload_n 3, 1) := by decide +kernel
theorem dX12_layBack_98 : decode cX12_layBack 98 = .ok (.aload_n 0, 1) := by decide +kernel
theorem dX12_layBack_99 : decode cX12_layBack 99 = .ok (.getfield 9, 3) := by decide +kernel
theorem dX12_layBack_102 : decode cX12_layBack 102 = .ok (.iload 5, 2) := by decide +kernel
theorem dX12_layBack_104 : decode cX12_layBack 104 = .ok (.iaload, 1) := by decide +kernel
theorem dX12_layBack_105 : decode cX12_layBack 105 = .ok (.aload_n 0, 1) := by decide +kernel
theorem dX12_layBack_106 : decode cX12_layBack 106 = .ok (.getfield 60, 3) := by decide +kernel
theorem dX12_layBack_109 : decode cX12_layBack 109 = .ok (.iload_n 1, 1) := by decide +kernel
theorem dX12_layBack_110 : decode cX12_layBack 110 = .ok (.invokevirtual 162, 3) := by decide +kernel
theorem dX12_layBack_113 : decode cX12_layBack 113 = .ok (.checkcast 299, 3) := by decide +kernel
theorem dX12_layBack_116 : decode cX12_layBack 116 = .ok (.getfield 302, 3) := by decide +kernel
theorem dX12_layBack_119 : decode cX12_layBack 119 = .ok (.iload 4, 2) := by decide +kernel
theorem dX12_layBack_121 : decode cX12_layBack 121 = .ok (.iaload, 1) := by decide +kernel
theorem dX12_layBack_122 : decode cX12_layBack 122 = .ok (.if_icmp .ne 7, 3) := by decide +kernel
theorem dX12_layBack_125 : decode cX12_layBack 125 = .ok (.iconst 0, 1) := by decide +kernel
theorem dX12_layBack_126 : decode cX12_layBack 126 = .ok (.goto 4, 3) := by decide +kernel
theorem dX12_layBack_129 : decode cX12_layBack 129 = .ok (.iconst 1, 1) := by decide +kernel
theorem dX12_layBack_130 : decode cX12_layBack 130 = .ok (.iadd, 1) := by decide +kernel
theorem dX12_layBack_131 : decode cX12_layBack 131 = .ok (.istore_n 3, 1) := by decide +kernel
theorem dX12_layBack_132 : decode cX12_layBack 132 = .ok (.aload_n 0, 1) := by decide +kernel
theorem dX12_layBack_133 : decode cX12_layBack 133 = .ok (.getfield 9, 3) := by decide +kernel
theorem dX12_layBack_136 : decode cX12_layBack 136 = .ok (.iload 5, 2) := by decide +kernel
theorem dX12_layBack_138 : decode cX12_layBack 138 = .ok (.aload_n 0, 1) := by decide +kernel
theorem dX12_layBack_139 : decode cX12_layBack 139 = .ok (.getfield 60, 3) := by decide +kernel
theorem dX12_layBack_142 : decode cX12_layBack 142 = .ok (.iload_n 1, 1) := by decide +kernel
theorem dX12_layBack_143 : decode cX12_layBack 143 = .ok (.invokevirtual 162, 3) := by decide +kernel
theorem dX12_layBack_146 : decode cX12_layBack 146 = .ok (.checkcast 299, 3) := by decide +kernel
theorem dX12_layBack_149 : decode cX12_layBack 149 = .ok (.getfield 302, 3) := by decide +kernel
theorem dX12_layBack_152 : decode cX12_layBack 152 = .ok (.iload 4, 2) := by decide +kernel
theorem dX12_layBack_154 : decode cX12_layBack 154 = .ok (.iaload, 1) := by decide +kernel
theorem dX12_layBack_155 : decode cX12_layBack 155 = .ok (.iastore, 1) := by decide +kernel
theorem dX12_layBack_156 : decode cX12_layBack 156 = .ok (.aload_n 0, 1) := by decide +kernel
theorem dX12_layBack_157 : decode cX12_layBack 157 = .ok (.getfield 13, 3) := by decide +kernel
theorem dX12_layBack_160 : decode cX12_layBack 160 = .ok (.iload 5, 2) := by decide +kernel
theorem dX12_layBack_162 : decode cX12_layBack 162 = .ok (.aload_n 0, 1) := by decide +kernel
theorem dX12_layBack_163 : decode cX12_layBack 163 = .ok (.getfield 60, 3) := by decide +kernel
theorem dX12_layBack_166 : decode cX12_layBack 166 = .ok (.iload_n 1, 1) := by decide +kernel
theorem dX12_layBack_167 : decode cX12_layBack 167 = .ok (.invokevirtual 162, 3) := by decide +kernel
theorem dX12_layBack_170 : decode cX12_layBack 170 = .ok (.checkcast 299, 3) := by decide +kernel
theorem dX12_layBack_173 : decode cX12_layBack 173 = .ok (.getfield 303, 3) := by decide +kernel
theorem dX12_layBack_176 : decode cX12_layBack 176 = .ok (.iload 4, 2) := by decide +kernel
theorem dX12_layBack_178 : decode cX12_layBack 178 = .ok (.iaload, 1) := by decide +kernel
theorem dX12_layBack_179 : decode cX12_layBack 179 = .ok (.iastore, 1) := by decide +kernel
theorem dX12_layBack_180 : decode cX12_layBack 180 = .ok (.aload_n 0, 1) := by decide +kernel
theorem dX12_layBack_181 : decode cX12_layBack 181 = .ok (.getfield 53, 3) := by decide +kernel
theorem dX12_layBack_184 : decode cX12_layBack 184 = .ok (.iload 5, 2) := by decide +kernel
theorem dX12_layBack_186 : decode cX12_layBack 186 = .ok (.iconst (-1), 1) := by decide +kernel
theorem dX12_layBack_187 : decode cX12_layBack 187 = .ok (.iastore, 1) := by decide +kernel
theorem dX12_layBack_188 : decode cX12_layBack 188 = .ok (.aload_n 0, 1) := by decide +kernel
theorem dX12_layBack_189 : decode cX12_layBack 189 = .ok (.iload 5, 2) := by decide +kernel
theorem dX12_layBack_191 : decode cX12_layBack 191 = .ok (.invokevirtual 221, 3) := by decide +kernel
theorem dX12_layBack_194 : decode cX12_layBack 194 = .ok (.istore 6, 2) := by decide +kernel
theorem dX12_layBack_196 : decode cX12_layBack 196 = .ok (.iload 6, 2) := by decide +kernel
theorem dX12_layBack_198 : decode cX12_layBack 198 = .ok (.iconst (-1), 1) := by decide +kernel
theorem dX12_layBack_199 : decode cX12_layBack 199 = .ok (.if_icmp .eq 11, 3) := by decide +kernel
theorem dX12_layBack_202 : decode cX12_layBack 202 = .ok (.aload_n 0, 1) := by decide +kernel
theorem dX12_layBack_203 : decode cX12_layBack 203 = .ok (.getfield 34, 3) := by decide +kernel
theorem dX12_layBack_206 : decode cX12_layBack 206 = .ok (.iload 6, 2) := by decide +kernel
theorem dX12_layBack_208 : decode cX12_layBack 208 = .ok (.aconst_null, 1) := by decide +kernel
theorem dX12_layBack_209 : decode cX12_layBack 209 = .ok (.aastore, 1) := by decide +kernel
theorem dX12_layBack_210 : decode cX12_layBack 210 = .ok (.iinc 4 1, 3) := by decide +kernel
theorem dX12_layBack_213 : decode cX12_layBack 213 = .ok (.goto (-132), 3) := by decide +kernel
theorem dX12_layBack_216 : decode cX12_layBack 216 = .ok (.iload_n 3, 1) := by decide +kernel
theorem dX12_layBack_217 : decode cX12_layBack 217 = .ok (.ireturn, 1) := by decide +kernel
theorem dX12_countPages_0 : decode cX12_countPages 0 = .ok (.aload_n 0, 1) := by decide +kernel
theorem dX12_countPages_1 : decode cX12_countPages 1 = .ok (.iconst 0, 1) := by decide +kernel
theorem dX12_countPages_2 : decode cX12_countPages 2 = .ok (.putfield 66, 3) := by decide +kernel
theorem dX12_countPages_5 : decode cX12_countPages 5 = .ok (.iconst 0, 1) := by decide +kernel
theorem dX12_countPages_6 : decode cX12_countPages 6 = .ok (.istore_n 1, 1) := by decide +kernel
theorem dX12_countPages_7 : decode cX12_countPages 7 = .ok (.aload_n 0, 1) := by decide +kernel
theorem dX12_countPages_8 : decode cX12_countPages 8 = .ok (.getfield 34, 3) := by decide +kernel
theorem dX12_countPages_11 : decode cX12_countPages 11 = .ok (.astore_n 2, 1) := by decide +kernel
theorem dX12_countPages_12 : decode cX12_countPages 12 = .ok (.aload_n 2, 1) := by decide +kernel
theorem dX12_countPages_13 : decode cX12_countPages 13 = .ok (.arraylength, 1) := by decide +kernel
theorem dX12_countPages_14 : decode cX12_countPages 14 = .ok (.istore_n 3, 1) := by decide +kernel
theorem dX12_countPages_15 : decode cX12_countPages 15 = .ok (.iconst 0, 1) := by decide +kernel
theorem dX12_countPages_16 : decode cX12_countPages 16 = .ok (.istore 4, 2) := by decide +kernel
theorem dX12_countPages_18 : decode cX12_countPages 18 = .ok (.iload 4, 2) := by decide +kernel
theorem dX12_countPages_20 : decode cX12_countPages 20 = .ok (.iload_n 3, 1) := by decide +kernel
theorem dX12_countPages_21 : decode cX12_countPages 21 = .ok (.if_icmp .ge 28, 3) := by decide +kernel
theorem dX12_countPages_24 : decode cX12_countPages 24 = .ok (.aload_n 2, 1) := by decide +kernel
theorem dX12_countPages_25 : decode cX12_countPages 25 = .ok (.iload 4, 2) := by decide +kernel
theorem dX12_countPages_27 : decode cX12_countPages 27 = .ok (.aaload, 1) := by decide +kernel
theorem dX12_countPages_28 : decode cX12_countPages 28 = .ok (.astore 5, 2) := by decide +kernel
theorem dX12_countPages_30 : decode cX12_countPages 30 = .ok (.iload_n 1, 1) := by decide +kernel
theorem dX12_countPages_31 : decode cX12_countPages 31 = .ok (.aload 5, 2) := by decide +kernel
theorem dX12_countPages_33 : decode cX12_countPages 33 = .ok (.ifnonnull 7, 3) := by decide +kernel
theorem dX12_countPages_36 : decode cX12_countPages 36 = .ok (.iconst 0, 1) := by decide +kernel
theorem dX12_countPages_37 : decode cX12_countPages 37 = .ok (.goto 4, 3) := by decide +kernel
theorem dX12_countPages_40 : decode cX12_countPages 40 = .ok (.iconst 1, 1) := by decide +kernel
theorem dX12_countPages_41 : decode cX12_countPages 41 = .ok (.iadd, 1) := by decide +kernel
theorem dX12_countPages_42 : decode cX12_countPages 42 = .ok (.istore_n 1, 1) := by decide +kernel
theorem dX12_countPages_43 : decode cX12_countPages 43 = .ok (.iinc 4 1, 3) := by decide +kernel
theorem dX12_countPages_46 : decode cX12_countPages 46 = .ok (.goto (-28), 3) := by decide +kernel
theorem dX12_countPages_49 : decode cX12_countPages 49 = .ok (.iload_n 1, 1) := by decide +kernel
theorem dX12_countPages_50 : decode cX12_countPages 50 = .ok (.ireturn, 1) := by decide +kernel
theorem dX12_countDirty_0 : decode cX12_countDirty 0 = .ok (.aload_n 0, 1) := by decide +kernel
theorem dX12_countDirty_1 : decode cX12_countDirty 1 = .ok (.iconst 0, 1) := by decide +kernel
theorem dX12_countDirty_2 : decode cX12_countDirty 2 = .ok (.putfield 66, 3) := by decide +kernel
theorem dX12_countDirty_5 : decode cX12_countDirty 5 = .ok (.iconst 0, 1) := by decide +kernel
theorem dX12_countDirty_6 : decode cX12_countDirty 6 = .ok (.istore_n 1, 1) := by decide +kernel
theorem dX12_countDirty_7 : decode cX12_countDirty 7 = .ok (.aload_n 0, 1) := by decide +kernel
theorem dX12_countDirty_8 : decode cX12_countDirty 8 = .ok (.getfield 34, 3) := by decide +kernel
theorem dX12_countDirty_11 : decode cX12_countDirty 11 = .ok (.astore_n 2, 1) := by decide +kernel
theorem dX12_countDirty_12 : decode cX12_countDirty 12 = .ok (.aload_n 2, 1) := by decide +kernel
theorem dX12_countDirty_13 : decode cX12_countDirty 13 = .ok (.arraylength, 1) := by decide +kernel
theorem dX12_countDirty_14 : decode cX12_countDirty 14 = .ok (.istore_n 3, 1) := by decide +kernel
theorem dX12_countDirty_15 : decode cX12_countDirty 15 = .ok (.iconst 0, 1) := by decide +kernel
theorem dX12_countDirty_16 : decode cX12_countDirty 16 = .ok (.istore 4, 2) := by decide +kernel
theorem dX12_countDirty_18 : decode cX12_countDirty 18 = .ok (.iload 4, 2) := by decide +kernel
theorem dX12_countDirty_20 : decode cX12_countDirty 20 = .ok (.iload_n 3, 1) := by decide +kernel
theorem dX12_countDirty_21 : decode cX12_countDirty 21 = .ok (.if_icmp .ge 36, 3) := by decide +kernel
theorem dX12_countDirty_24 : decode cX12_countDirty 24 = .ok (.aload_n 2, 1) := by decide +kernel
theorem dX12_countDirty_25 : decode cX12_countDirty 25 = .ok (.iload 4, 2) := by decide +kernel
theorem dX12_countDirty_27 : decode cX12_countDirty 27 = .ok (.aaload, 1) := by decide +kernel
theorem dX12_countDirty_28 : decode cX12_countDirty 28 = .ok (.astore 5, 2) := by decide +kernel
theorem dX12_countDirty_30 : decode cX12_countDirty 30 = .ok (.iload_n 1, 1) := by decide +kernel
theorem dX12_countDirty_31 : decode cX12_countDirty 31 = .ok (.aload 5, 2) := by decide +kernel
theorem dX12_countDirty_33 : decode cX12_countDirty 33 = .ok (.ifnull 15, 3) := by decide +kernel
theorem dX12_countDirty_36 : decode cX12_countDirty 36 = .ok (.aload 5, 2) := by decide +kernel
theorem dX12_countDirty_38 : decode cX12_countDirty 38 = .ok (.invokevirtual 155, 3) := by decide +kernel
theorem dX12_countDirty_41 : decode cX12_countDirty 41 = .ok (.ifCond .eq 7, 3) := by decide +kernel
theorem dX12_countDirty_44 : decode cX12_countDirty 44 = .ok (.iconst 1, 1) := by decide +kernel
theorem dX12_countDirty_45 : decode cX12_countDirty 45 = .ok (.goto 4, 3) := by decide +kernel
theorem dX12_countDirty_48 : decode cX12_countDirty 48 = .ok (.iconst 0, 1) := by decide +kernel
theorem dX12_countDirty_49 : decode cX12_countDirty 49 = .ok (.iadd, 1) := by decide +kernel
theorem dX12_countDirty_50 : decode cX12_countDirty 50 = .ok (.istore_n 1, 1) := by decide +kernel
theorem dX12_countDirty_51 : decode cX12_countDirty 51 = .ok (.iinc 4 1, 3) := by decide +kernel
theorem dX12_countDirty_54 : decode cX12_countDirty 54 = .ok (.goto (-36), 3) := by decide +kernel
theorem dX12_countDirty_57 : decode cX12_countDirty 57 = .ok (.iload_n 1, 1) := by decide +kernel
theorem dX12_countDirty_58 : decode cX12_countDirty 58 = .ok (.ireturn, 1) := by decide +kernel
theorem dX12_getArm_0 : decode cX12_getArm 0 = .ok (.aload_n 0, 1) := by decide +kernel
theorem dX12_getArm_1 : decode cX12_getArm 1 = .ok (.iconst 0, 1) := by decide +kernel
theorem dX12_getArm_2 : decode cX12_getArm 2 = .ok (.putfield 66, 3) := by decide +kernel
theorem dX12_getArm_5 : decode cX12_getArm 5 = .ok (.aload_n 0, 1) := by decide +kernel
theorem dX12_getArm_6 : decode cX12_getArm 6 = .ok (.getfield 116, 3) := by decide +kernel
theorem dX12_getArm_9 : decode cX12_getArm 9 = .ok (.ireturn, 1) := by decide +kernel
theorem dX12_countHits_0 : decode cX12_countHits 0 = .ok (.aload_n 0, 1) := by decide +kernel
theorem dX12_countHits_1 : decode cX12_countHits 1 = .ok (.iconst 0, 1) := by decide +kernel
theorem dX12_countHits_2 : decode cX12_countHits 2 = .ok (.putfield 66, 3) := by decide +kernel
theorem dX12_countHits_5 : decode cX12_countHits 5 = .ok (.aload_n 0, 1) := by decide +kernel
theorem dX12_countHits_6 : decode cX12_countHits 6 = .ok (.getfield 205, 3) := by decide +kernel
theorem dX12_countHits_9 : decode cX12_countHits 9 = .ok (.ireturn, 1) := by decide +kernel
theorem dX12_countMisses_0 : decode cX12_countMisses 0 = .ok (.aload_n 0, 1) := by decide +kernel
theorem dX12_countMisses_1 : decode cX12_countMisses 1 = .ok (.iconst 0, 1) := by decide +kernel
theorem dX12_countMisses_2 : decode cX12_countMisses 2 = .ok (.putfield 66, 3) := by decide +kernel
theorem dX12_countMisses_5 : decode cX12_countMisses 5 = .ok (.aload_n 0, 1) := by decide +kernel
theorem dX12_countMisses_6 : decode cX12_countMisses 6 = .ok (.getfield 208, 3) := by decide +kernel
theorem dX12_countMisses_9 : decode cX12_countMisses 9 = .ok (.ireturn, 1) := by decide +kernel
theorem dX12_countWaits_0 : decode cX12_countWaits 0 = .ok (.aload_n 0, 1) := by decide +kernel
theorem dX12_countWaits_1 : decode cX12_countWaits 1 = .ok (.iconst 0, 1) := by decide +kernel
theorem dX12_countWaits_2 : decode cX12_countWaits 2 = .ok (.putfield 66, 3) := by decide +kernel
theorem dX12_countWaits_5 : decode cX12_countWaits 5 = .ok (.aload_n 0, 1) := by decide +kernel
theorem dX12_countWaits_6 : decode cX12_countWaits 6 = .ok (.getfield 276, 3) := by decide +kernel
theorem dX12_countWaits_9 : decode cX12_countWaits 9 = .ok (.ireturn, 1) := by decide +kernel
theorem dX12_countAhead_0 : decode cX12_countAhead 0 = .ok (.aload_n 0, 1) := by decide +kernel
theorem dX12_countAhead_1 : decode cX12_countAhead 1 = .ok (.iconst 0, 1) := by decide +kernel
theorem dX12_countAhead_2 : decode cX12_countAhead 2 = .ok (.putfield 66, 3) := by decide +kernel
theorem dX12_countAhead_5 : decode cX12_countAhead 5 = .ok (.aload_n 0, 1) := by decide +kernel
theorem dX12_countAhead_6 : decode cX12_countAhead 6 = .ok (.getfield 249, 3) := by decide +kernel
theorem dX12_countAhead_9 : decode cX12_countAhead 9 = .ok (.ireturn, 1) := by decide +kernel
theorem dX12_countUseful_0 : decode cX12_countUseful 0 = .ok (.aload_n 0, 1) := by decide +kernel
theorem dX12_countUseful_1 : decode cX12_countUseful 1 = .ok (.iconst 0, 1) := by decide +kernel
theorem dX12_countUseful_2 : decode cX12_countUseful 2 = .ok (.putfield 66, 3) := by decide +kernel
theorem dX12_countUseful_5 : decode cX12_countUseful 5 = .ok (.aload_n 0, 1) := by decide +kernel
theorem dX12_countUseful_6 : decode cX12_countUseful 6 = .ok (.getfield 197, 3) := by decide +kernel
theorem dX12_countUseful_9 : decode cX12_countUseful 9 = .ok (.ireturn, 1) := by decide +kernel
theorem dX12_getWear_0 : decode cX12_getWear 0 = .ok (.aload_n 0, 1) := by decide +kernel
theorem dX12_getWear_1 : decode cX12_getWear 1 = .ok (.iload_n 1, 1) := by decide +kernel
theorem dX12_getWear_2 : decode cX12_getWear 2 = .ok (.i2l, 1) := by decide +kernel
theorem dX12_getWear_3 : decode cX12_getWear 3 = .ok (.lconst 0, 1) := by decide +kernel
theorem dX12_getWear_4 : decode cX12_getWear 4 = .ok (.ldc2_w 307, 3) := by decide +kernel
theorem dX12_getWear_7 : decode cX12_getWear 7 = .ok (.invokestatic 69, 3) := by decide +kernel
theorem dX12_getWear_10 : decode cX12_getWear 10 = .ok (.ifCond .eq 7, 3) := by decide +kernel
theorem dX12_getWear_13 : decode cX12_getWear 13 = .ok (.iconst 0, 1) := by decide +kernel
theorem dX12_getWear_14 : decode cX12_getWear 14 = .ok (.goto 4, 3) := by decide +kernel
theorem dX12_getWear_17 : decode cX12_getWear 17 = .ok (.iconst 1, 1) := by decide +kernel
theorem dX12_getWear_18 : decode cX12_getWear 18 = .ok (.putfield 66, 3) := by decide +kernel
theorem dX12_getWear_21 : decode cX12_getWear 21 = .ok (.aload_n 0, 1) := by decide +kernel
theorem dX12_getWear_22 : decode cX12_getWear 22 = .ok (.getfield 66, 3) := by decide +kernel
theorem dX12_getWear_25 : decode cX12_getWear 25 = .ok (.ifCond .le 7, 3) := by decide +kernel
theorem dX12_getWear_28 : decode cX12_getWear 28 = .ok (.iconst 0, 1) := by decide +kernel
theorem dX12_getWear_29 : decode cX12_getWear 29 = .ok (.goto 9, 3) := by decide +kernel
theorem dX12_getWear_32 : decode cX12_getWear 32 = .ok (.aload_n 0, 1) := by decide +kernel
theorem dX12_getWear_33 : decode cX12_getWear 33 = .ok (.getfield 16, 3) := by decide +kernel
theorem dX12_getWear_36 : decode cX12_getWear 36 = .ok (.iload_n 1, 1) := by decide +kernel
theorem dX12_getWear_37 : decode cX12_getWear 37 = .ok (.iaload, 1) := by decide +kernel
theorem dX12_getWear_38 : decode cX12_getWear 38 = .ok (.ireturn, 1) := by decide +kernel
theorem dX12_getBill_0 : decode cX12_getBill 0 = .ok (.aload_n 0, 1) := by decide +kernel
theorem dX12_getBill_1 : decode cX12_getBill 1 = .ok (.iload_n 1, 1) := by decide +kernel
theorem dX12_getBill_2 : decode cX12_getBill 2 = .ok (.i2l, 1) := by decide +kernel
theorem dX12_getBill_3 : decode cX12_getBill 3 = .ok (.lconst 0, 1) := by decide +kernel
theorem dX12_getBill_4 : decode cX12_getBill 4 = .ok (.ldc2_w 111, 3) := by decide +kernel
theorem dX12_getBill_7 : decode cX12_getBill 7 = .ok (.invokestatic 69, 3) := by decide +kernel
theorem dX12_getBill_10 : decode cX12_getBill 10 = .ok (.ifCond .eq 7, 3) := by decide +kernel
theorem dX12_getBill_13 : decode cX12_getBill 13 = .ok (.iconst 0, 1) := by decide +kernel
theorem dX12_getBill_14 : decode cX12_getBill 14 = .ok (.goto 4, 3) := by decide +kernel
theorem dX12_getBill_17 : decode cX12_getBill 17 = .ok (.iconst 1, 1) := by decide +kernel
theorem dX12_getBill_18 : decode cX12_getBill 18 = .ok (.putfield 66, 3) := by decide +kernel
theorem dX12_getBill_21 : decode cX12_getBill 21 = .ok (.aload_n 0, 1) := by decide +kernel
theorem dX12_getBill_22 : decode cX12_getBill 22 = .ok (.getfield 66, 3) := by decide +kernel
theorem dX12_getBill_25 : decode cX12_getBill 25 = .ok (.ifCond .le 7, 3) := by decide +kernel
theorem dX12_getBill_28 : decode cX12_getBill 28 = .ok (.lconst 0, 1) := by decide +kernel
theorem dX12_getBill_29 : decode cX12_getBill 29 = .ok (.goto 9, 3) := by decide +kernel
theorem dX12_getBill_32 : decode cX12_getBill 32 = .ok (.aload_n 0, 1) := by decide +kernel
theorem dX12_getBill_33 : decode cX12_getBill 33 = .ok (.getfield 49, 3) := by decide +kernel
theorem dX12_getBill_36 : decode cX12_getBill 36 = .ok (.iload_n 1, 1) := by decide +kernel
theorem dX12_getBill_37 : decode cX12_getBill 37 = .ok (.laload, 1) := by decide +kernel
theorem dX12_getBill_38 : decode cX12_getBill 38 = .ok (.lreturn, 1) := by decide +kernel
theorem dX12_nextOf_0 : decode cX12_nextOf 0 = .ok (.iload_n 2, 1) := by decide +kernel
theorem dX12_nextOf_1 : decode cX12_nextOf 1 = .ok (.iconst 1, 1) := by decide +kernel
theorem dX12_nextOf_2 : decode cX12_nextOf 2 = .ok (.iadd, 1) := by decide +kernel
theorem dX12_nextOf_3 : decode cX12_nextOf 3 = .ok (.istore_n 3, 1) := by decide +kernel
theorem dX12_nextOf_4 : decode cX12_nextOf 4 = .ok (.iload_n 3, 1) := by decide +kernel
theorem dX12_nextOf_5 : decode cX12_nextOf 5 = .ok (.aload_n 0, 1) := by decide +kernel
theorem dX12_nextOf_6 : decode cX12_nextOf 6 = .ok (.getfield 63, 3) := by decide +kernel
theorem dX12_nextOf_9 : decode cX12_nextOf 9 = .ok (.invokevirtual 83, 3) := by decide +kernel
theorem dX12_nextOf_12 : decode cX12_nextOf 12 = .ok (.if_icmp .ge 29, 3) := by decide +kernel
theorem dX12_nextOf_15 : decode cX12_nextOf 15 = .ok (.aload_n 0, 1) := by decide +kernel
theorem dX12_nextOf_16 : decode cX12_nextOf 16 = .ok (.getfield 63, 3) := by decide +kernel
theorem dX12_nextOf_19 : decode cX12_nextOf 19 = .ok (.iload_n 3, 1) := by decide +kernel
theorem dX12_nextOf_20 : decode cX12_nextOf 20 = .ok (.invokevirtual 162, 3) := by decide +kernel
theorem dX12_nextOf_23 : decode cX12_nextOf 23 = .ok (.checkcast 74, 3) := by decide +kernel
theorem dX12_nextOf_26 : decode cX12_nextOf 26 = .ok (.invokevirtual 166, 3) := by decide +kernel
theorem dX12_nextOf_29 : decode cX12_nextOf 29 = .ok (.iload_n 1, 1) := by decide +kernel
theorem dX12_nextOf_30 : decode cX12_nextOf 30 = .ok (.if_icmp .ne 5, 3) := by decide +kernel
theorem dX12_nextOf_33 : decode cX12_nextOf 33 = .ok (.iload_n 3, 1) := by decide +kernel
theorem dX12_nextOf_34 : decode cX12_nextOf 34 = .ok (.ireturn, 1) := by decide +kernel
theorem dX12_nextOf_35 : decode cX12_nextOf 35 = .ok (.iinc 3 1, 3) := by decide +kernel
theorem dX12_nextOf_38 : decode cX12_nextOf 38 = .ok (.goto (-34), 3) := by decide +kernel
theorem dX12_nextOf_41 : decode cX12_nextOf 41 = .ok (.bipush 101, 2) := by decide +kernel
theorem dX12_nextOf_43 : decode cX12_nextOf 43 = .ok (.ireturn, 1) := by decide +kernel
theorem dX12_missed_0 : decode cX12_missed 0 = .ok (.iload_n 2, 1) := by decide +kernel
theorem dX12_missed_1 : decode cX12_missed 1 = .ok (.newarray .int, 2) := by decide +kernel
theorem dX12_missed_3 : decode cX12_missed 3 = .ok (.astore_n 3, 1) := by decide +kernel
theorem dX12_missed_4 : decode cX12_missed 4 = .ok (.iload_n 2, 1) := by decide +kernel
theorem dX12_missed_5 : decode cX12_missed 5 = .ok (.newarray .int, 2) := by decide +kernel
theorem dX12_missed_7 : decode cX12_missed 7 = .ok (.astore 4, 2) := by decide +kernel
theorem dX12_missed_9 : decode cX12_missed 9 = .ok (.iload_n 2, 1) := by decide +kernel
theorem dX12_missed_10 : decode cX12_missed 10 = .ok (.newarray .int, 2) := by decide +kernel
theorem dX12_missed_12 : decode cX12_missed 12 = .ok (.astore 5, 2) := by decide +kernel
theorem dX12_missed_14 : decode cX12_missed 14 = .ok (.iload_n 2, 1) := by decide +kernel
theorem dX12_missed_15 : decode cX12_missed 15 = .ok (.newarray .boolean, 2) := by decide +kernel
theorem dX12_missed_17 : decode cX12_missed 17 = .ok (.astore 6, 2) := by decide +kernel
theorem dX12_missed_19 : decode cX12_missed 19 = .ok (.iconst 0, 1) := by decide +kernel
theorem dX12_missed_20 : decode cX12_missed 20 = .ok (.istore 7, 2) := by decide +kernel
theorem dX12_missed_22 : decode cX12_missed 22 = .ok (.iconst 0, 1) := by decide +kernel
theorem dX12_missed_23 : decode cX12_missed 23 = .ok (.istore 8, 2) := by decide +kernel
theorem dX12_missed_25 : decode cX12_missed 25 = .ok (.iconst 0, 1) := by decide +kernel
theorem dX12_missed_26 : decode cX12_missed 26 = .ok (.istore 9, 2) := by decide +kernel
theorem dX12_missed_28 : decode cX12_missed 28 = .ok (.iconst 0, 1) := by decide +kernel
theorem dX12_missed_29 : decode cX12_missed 29 = .ok (.istore 10, 2) := by decide +kernel
theorem dX12_missed_31 : decode cX12_missed 31 = .ok (.iload 10, 2) := by decide +kernel
theorem dX12_missed_33 : decode cX12_missed 33 = .ok (.aload_n 0, 1) := by decide +kernel
theorem dX12_missed_34 : decode cX12_missed 34 = .ok (.getfield 63, 3) := by decide +kernel
theorem dX12_missed_37 : decode cX12_missed 37 = .ok (.invokevirtual 83, 3) := by decide +kernel
theorem dX12_missed_40 : decode cX12_missed 40 = .ok (.if_icmp .ge 306, 3) := by decide +kernel
theorem dX12_missed_43 : decode cX12_missed 43 = .ok (.iconst (-1), 1) := by decide +kernel
theorem dX12_missed_44 : decode cX12_missed 44 = .ok (.istore 11, 2) := by decide +kernel
theorem dX12_missed_46 : decode cX12_missed 46 = .ok (.iconst 0, 1) := by decide +kernel
theorem dX12_missed_47 : decode cX12_missed 47 = .ok (.istore 12, 2) := by decide +kernel
theorem dX12_missed_49 : decode cX12_missed 49 = .ok (.iload 12, 2) := by decide +kernel
theorem dX12_missed_51 : decode cX12_missed 51 = .ok (.iload 7, 2) := by decide +kernel
theorem dX12_missed_53 : decode cX12_missed 53 = .ok (.if_icmp .ge 40, 3) := by decide +kernel
theorem dX12_missed_56 : decode cX12_missed 56 = .ok (.aload_n 3, 1) := by decide +kernel
theorem dX12_missed_57 : decode cX12_missed 57 = .ok (.iload 12, 2) := by decide +kernel
theorem dX12_missed_59 : decode cX12_missed 59 = .ok (.iaload, 1) := by decide +kernel
theorem dX12_missed_60 : decode cX12_missed 60 = .ok (.aload_n 0, 1) := by decide +kernel
theorem dX12_missed_61 : decode cX12_missed 61 = .ok (.getfield 63, 3) := by decide +kernel
theorem dX12_missed_64 : decode cX12_missed 64 = .ok (.iload 10, 2) := by decide +kernel
theorem dX12_missed_66 : decode cX12_missed 66 = .ok (.invokevirtual 162, 3) := by decide +kernel
theorem dX12_missed_69 : decode cX12_missed 69 = .ok (.checkcast 74, 3) := by decide +kernel
theorem dX12_missed_72 : decode cX12_missed 72 = .ok (.invokevirtual 166, 3) := by decide +kernel
theorem dX12_missed_75 : decode cX12_missed 75 = .ok (.if_icmp .ne 8, 3) := by decide +kernel
theorem dX12_missed_78 : decode cX12_missed 78 = .ok (.iload 12, 2) := by decide +kernel
theorem dX12_missed_80 : decode cX12_missed 80 = .ok (.goto 5, 3) := by decide +kernel
theorem dX12_missed_83 : decode cX12_missed 83 = .ok (.iload 11, 2) := by decide +kernel
theorem dX12_missed_85 : decode cX12_missed 85 = .ok (.istore 11, 2) := by decide +kernel
theorem dX12_missed_87 : decode cX12_missed 87 = .ok (.iinc 12 1, 3) := by decide +kernel
theorem dX12_missed_90 : decode cX12_missed 90 = .ok (.goto (-41), 3) := by decide +kernel
theorem dX12_missed_93 : decode cX12_missed 93 = .ok (.iload 11, 2) := by decide +kernel
theorem dX12_missed_95 : decode cX12_missed 95 = .ok (.iconst (-1), 1) := by decide +kernel
theorem dX12_missed_96 : decode cX12_missed 96 = .ok (.if_icmp .ne 231, 3) := by decide +kernel
theorem dX12_missed_99 : decode cX12_missed 99 = .ok (.iinc 9 1, 3) := by decide +kernel
theorem dX12_missed_102 : decode cX12_missed 102 = .ok (.iload 7, 2) := by decide +kernel
theorem dX12_missed_104 : decode cX12_missed 104 = .ok (.iload_n 2, 1) := by decide +kernel
theorem dX12_missed_105 : decode cX12_missed 105 = .ok (.if_icmp .ge 13, 3) := by decide +kernel
theorem dX12_missed_108 : decode cX12_missed 108 = .ok (.iload 7, 2) := by decide +kernel
theorem dX12_missed_110 : decode cX12_missed 110 = .ok (.istore 11, 2) := by decide +kernel
theorem dX12_missed_112 : decode cX12_missed 112 = .ok (.iinc 7 1, 3) := by decide +kernel
theorem dX12_missed_115 : decode cX12_missed 115 = .ok (.goto 186, 3) := by decide +kernel
theorem dX12_missed_118 : decode cX12_missed 118 = .ok (.iload_n 1, 1) := by decide +kernel
theorem dX12_missed_119 : decode cX12_missed 119 = .ok (.bipush 99, 2) := by decide +kernel
theorem dX12_missed_121 : decode cX12_missed 121 = .ok (.if_icmp .ne 43, 3) := by decide +kernel
theorem dX12_missed_124 : decode cX12_missed 124 = .ok (.aload 6, 2) := by decide +kernel
theorem dX12_missed_126 : decode cX12_missed 126 = .ok (.iload 8, 2) := by decide +kernel
theorem dX12_missed_128 : decode cX12_missed 128 = .ok (.baload, 1) := by decide +kernel
theorem dX12_missed_129 : decode cX12_missed 129 = .ok (.ifCond .eq 20, 3) := by decide +kernel
theorem dX12_missed_132 : decode cX12_missed 132 = .ok (.aload 6, 2) := by decide +kernel
theorem dX12_missed_134 : decode cX12_missed 134 = .ok (.iload 8, 2) := by decide +kernel
theorem dX12_missed_136 : decode cX12_missed 136 = .ok (.iconst 0, 1) := by decide +kernel
theorem dX12_missed_137 : decode cX12_missed 137 = .ok (.bastore, 1) := by decide +kernel
theorem dX12_missed_138 : decode cX12_missed 138 = .ok (.iload 8, 2) := by decide +kernel
theorem dX12_missed_140 : decode cX12_missed 140 = .ok (.iconst 1, 1) := by decide +kernel
theorem dX12_missed_141 : decode cX12_missed 141 = .ok (.iadd, 1) := by decide +kernel
theorem dX12_missed_142 : decode cX12_missed 142 = .ok (.iload_n 2, 1) := by decide +kernel
theorem dX12_missed_143 : decode cX12_missed 143 = .ok (.irem, 1) := by decide +kernel
theorem dX12_missed_144 : decode cX12_missed 144 = .ok (.istore 8, 2) := by decide +kernel
theorem dX12_missed_146 : decode cX12_missed 146 = .ok (.goto (-22), 3) := by decide +kernel
theorem dX12_missed_149 : decode cX12_missed 149 = .ok (.iload 8, 2) := by decide +kernel
theorem dX12_missed_151 : decode cX12_missed 151 = .ok (.istore 11, 2) := by decide +kernel
theorem dX12_missed_153 : decode cX12_missed 153 = .ok (.iload 8, 2) := by decide +kernel
theorem dX12_missed_155 : decode cX12_missed 155 = .ok (.iconst 1, 1) := by decide +kernel
theorem dX12_missed_156 : decode cX12_missed 156 = .ok (.iadd, 1) := by decide +kernel
theorem dX12_missed_157 : decode cX12_missed 157 = .ok (.iload_n 2, 1) := by decide +kernel
theorem dX12_missed_158 : decode cX12_missed 158 = .ok (.irem, 1) := by decide +kernel
theorem dX12_missed_159 : decode cX12_missed 159 = .ok (.istore 8, 2) := by decide +kernel
theorem dX12_missed_161 : decode cX12_missed 161 = .ok (.goto 140, 3) := by decide +kernel
theorem dX12_missed_164 : decode cX12_missed 164 = .ok (.iconst 0, 1) := by decide +kernel
theorem dX12_missed_165 : decode cX12_missed 165 = .ok (.istore 11, 2) := by decide +kernel
theorem dX12_missed_167 : decode cX12_missed 167 = .ok (.iconst 1, 1) := by decide +kernel
theorem dX12_missed_168 : decode cX12_missed 168 = .ok (.istore 12, 2) := by decide +kernel
theorem dX12_missed_170 : decode cX12_missed 170 = .ok (.iload 12, 2) := by decide +kernel
theorem dX12_missed_172 : decode cX12_missed 172 = .ok (.iload_n 2, 1) := by decide +kernel
theorem dX12_missed_173 : decode cX12_missed 173 = .ok (.if_icmp .ge 128, 3) := by decide +kernel
theorem dX12_missed_176 : decode cX12_missed 176 = .ok (.aload_n 0, 1) := by decide +kernel
theorem dX12_missed_177 : decode cX12_missed 177 = .ok (.aload_n 3, 1) := by decide +kernel
theorem dX12_missed_178 : decode cX12_missed 178 = .ok (.iload 12, 2) := by decide +kernel
theorem dX12_missed_180 : decode cX12_missed 180 = .ok (.iaload, 1) := by decide +kernel
theorem dX12_missed_181 : decode cX12_missed 181 = .ok (.iload 10, 2) := by decide +kernel
theorem dX12_missed_183 : decode cX12_missed 183 = .ok (.invokevirtual 309, 3) := by decide +kernel
theorem dX12_missed_186 : decode cX12_missed 186 = .ok (.aload_n 0, 1) := by decide +kernel
theorem dX12_missed_187 : decode cX12_missed 187 = .ok (.aload_n 3, 1) := by decide +kernel
theorem dX12_missed_188 : decode cX12_missed 188 = .ok (.iload 11, 2) := by decide +kernel
theorem dX12_missed_190 : decode cX12_missed 190 = .ok (.iaload, 1) := by decide +kernel
theorem dX12_missed_191 : decode cX12_missed 191 = .ok (.iload 10, 2) := by decide +kernel
theorem dX12_missed_193 : decode cX12_missed 193 = .ok (.invokevirtual 309, 3) := by decide +kernel
theorem dX12_missed_196 : decode cX12_missed 196 = .ok (.isub, 1) := by decide +kernel
theorem dX12_missed_197 : decode cX12_missed 197 = .ok (.istore 13, 2) := by decide +kernel
theorem dX12_missed_199 : decode cX12_missed 199 = .ok (.iload_n 1, 1) := by decide +kernel
theorem dX12_missed_200 : decode cX12_missed 200 = .ok (.bipush 108, 2) := by decide +kernel
theorem dX12_missed_202 : decode cX12_missed 202 = .ok (.if_icmp .ne 24, 3) := by decide +kernel
theorem dX12_missed_205 : decode cX12_missed 205 = .ok (.aload 4, 2) := by decide +kernel
theorem dX12_missed_207 : decode cX12_missed 207 = .ok (.iload 12, 2) := by decide +kernel
theorem dX12_missed_209 : decode cX12_missed 209 = .ok (.iaload, 1) := by decide +kernel
theorem dX12_missed_210 : decode cX12_missed 210 = .ok (.aload 4, 2) := by decide +kernel
theorem dX12_missed_212 : decode cX12_missed 212 = .ok (.iload 11, 2) := by decide +kernel
theorem dX12_missed_214 : decode cX12_missed 214 = .ok (.iaload, 1) := by decide +kernel
theorem dX12_missed_215 : decode cX12_missed 215 = .ok (.if_icmp .ge 7, 3) := by decide +kernel
theorem dX12_missed_218 : decode cX12_missed 218 = .ok (.iconst 1, 1) := by decide +kernel
theorem dX12_missed_219 : decode cX12_missed 219 = .ok (.goto 60, 3) := by decide +kernel
theorem dX12_missed_222 : decode cX12_missed 222 = .ok (.iconst 0, 1) := by decide +kernel
theorem dX12_missed_223 : decode cX12_missed 223 = .ok (.goto 56, 3) := by decide +kernel
theorem dX12_missed_226 : decode cX12_missed 226 = .ok (.iload_n 1, 1) := by decide +kernel
theorem dX12_missed_227 : decode cX12_missed 227 = .ok (.bipush 102, 2) := by decide +kernel
theorem dX12_missed_229 : decode cX12_missed 229 = .ok (.if_icmp .ne 24, 3) := by decide +kernel
theorem dX12_missed_232 : decode cX12_missed 232 = .ok (.aload 5, 2) := by decide +kernel
theorem dX12_missed_234 : decode cX12_missed 234 = .ok (.iload 12, 2) := by decide +kernel
theorem dX12_missed_236 : decode cX12_missed 236 = .ok (.iaload, 1) := by decide +kernel
theorem dX12_missed_237 : decode cX12_missed 237 = .ok (.aload 5, 2) := by decide +kernel
theorem dX12_missed_239 : decode cX12_missed 239 = .ok (.iload 11, 2) := by decide +kernel
theorem dX12_missed_241 : decode cX12_missed 241 = .ok (.iaload, 1) := by decide +kernel
theorem dX12_missed_242 : decode cX12_missed 242 = .ok (.if_icmp .ge 7, 3) := by decide +kernel
theorem dX12_missed_245 : decode cX12_missed 245 = .ok (.iconst 1, 1) := by decide +kernel
theorem dX12_missed_246 : decode cX12_missed 246 = .ok (.goto 33, 3) := by decide +kernel
theorem dX12_missed_249 : decode cX12_missed 249 = .ok (.iconst 0, 1) := by decide +kernel
theorem dX12_missed_250 : decode cX12_missed 250 = .ok (.goto 29, 3) := by decide +kernel
theorem dX12_missed_253 : decode cX12_missed 253 = .ok (.iload 13, 2) := by decide +kernel
theorem dX12_missed_255 : decode cX12_missed 255 = .ok (.ifCond .gt 19, 3) := by decide +kernel
theorem dX12_missed_258 : decode cX12_missed 258 = .ok (.iload 13, 2) := by decide +kernel
theorem dX12_missed_260 : decode cX12_missed 260 = .ok (.ifCond .ne 18, 3) := by decide +kernel
theorem dX12_missed_263 : decode cX12_missed 263 = .ok (.aload_n 3, 1) := by decide +kernel
theorem dX12_missed_264 : decode cX12_missed 264 = .ok (.iload 12, 2) := by decide +kernel
theorem dX12_missed_266 : decode cX12_missed 266 = .ok (.iaload, 1) := by decide +kernel
theorem dX12_missed_267 : decode cX12_missed 267 = .ok (.aload_n 3, 1) := by decide +kernel
theorem dX12_missed_268 : decode cX12_missed 268 = .ok (.iload 11, 2) := by decide +kernel
theorem dX12_missed_270 : decode cX12_missed 270 = .ok (.iaload, 1) := by decide +kernel
theorem dX12_missed_271 : decode cX12_missed 271 = .ok (.if_icmp .ge 7, 3) := by decide +kernel
theorem dX12_missed_274 : decode cX12_missed 274 = .ok (.iconst 1, 1) := by decide +kernel
theorem dX12_missed_275 : decode cX12_missed 275 = .ok (.goto 4, 3) := by decide +kernel
theorem dX12_missed_278 : decode cX12_missed 278 = .ok (.iconst 0, 1) := by decide +kernel
theorem dX12_missed_279 : decode cX12_missed 279 = .ok (.istore 14, 2) := by decide +kernel
theorem dX12_missed_281 : decode cX12_missed 281 = .ok (.iload 14, 2) := by decide +kernel
theorem dX12_missed_283 : decode cX12_missed 283 = .ok (.ifCond .eq 8, 3) := by decide +kernel
theorem dX12_missed_286 : decode cX12_missed 286 = .ok (.iload 12, 2) := by decide +kernel
theorem dX12_missed_288 : decode cX12_missed 288 = .ok (.goto 5, 3) := by decide +kernel
theorem dX12_missed_291 : decode cX12_missed 291 = .ok (.iload 11, 2) := by decide +kernel
theorem dX12_missed_293 : decode cX12_missed 293 = .ok (.istore 11, 2) := by decide +kernel
theorem dX12_missed_295 : decode cX12_missed 295 = .ok (.iinc 12 1, 3) := by decide +kernel
theorem dX12_missed_298 : decode cX12_missed 298 = .ok (.goto (-128), 3) := by decide +kernel
theorem dX12_missed_301 : decode cX12_missed 301 = .ok (.aload_n 3, 1) := by decide +kernel
theorem dX12_missed_302 : decode cX12_missed 302 = .ok (.iload 11, 2) := by decide +kernel
theorem dX12_missed_304 : decode cX12_missed 304 = .ok (.aload_n 0, 1) := by decide +kernel
theorem dX12_missed_305 : decode cX12_missed 305 = .ok (.getfield 63, 3) := by decide +kernel
theorem dX12_missed_308 : decode cX12_missed 308 = .ok (.iload 10, 2) := by decide +kernel
theorem dX12_missed_310 : decode cX12_missed 310 = .ok (.invokevirtual 162, 3) := by decide +kernel
theorem dX12_missed_313 : decode cX12_missed 313 = .ok (.checkcast 74, 3) := by decide +kernel
theorem dX12_missed_316 : decode cX12_missed 316 = .ok (.invokevirtual 166, 3) := by decide +kernel
theorem dX12_missed_319 : decode cX12_missed 319 = .ok (.iastore, 1) := by decide +kernel
theorem dX12_missed_320 : decode cX12_missed 320 = .ok (.aload 5, 2) := by decide +kernel
theorem dX12_missed_322 : decode cX12_missed 322 = .ok (.iload 11, 2) := by decide +kernel
theorem dX12_missed_324 : decode cX12_missed 324 = .ok (.iload 10, 2) := by decide +kernel
theorem dX12_missed_326 : decode cX12_missed 326 = .ok (.iastore, 1) := by decide +kernel
theorem dX12_missed_327 : decode cX12_missed 327 = .ok (.aload 4, 2) := by decide +kernel
theorem dX12_missed_329 : decode cX12_missed 329 = .ok (.iload 11, 2) := by decide +kernel
theorem dX12_missed_331 : decode cX12_missed 331 = .ok (.iload 10, 2) := by decide +kernel
theorem dX12_missed_333 : decode cX12_missed 333 = .ok (.iastore, 1) := by decide +kernel
theorem dX12_missed_334 : decode cX12_missed 334 = .ok (.aload 6, 2) := by decide +kernel
theorem dX12_missed_336 : decode cX12_missed 336 = .ok (.iload 11, 2) := by decide +kernel
theorem dX12_missed_338 : decode cX12_missed 338 = .ok (.iconst 1, 1) := by decide +kernel
theorem dX12_missed_339 : decode cX12_missed 339 = .ok (.bastore, 1) := by decide +kernel
theorem dX12_missed_340 : decode cX12_missed 340 = .ok (.iinc 10 1, 3) := by decide +kernel
theorem dX12_missed_343 : decode cX12_missed 343 = .ok (.goto (-312), 3) := by decide +kernel
theorem dX12_missed_346 : decode cX12_missed 346 = .ok (.iload 9, 2) := by decide +kernel
theorem dX12_missed_348 : decode cX12_missed 348 = .ok (.ireturn, 1) := by decide +kernel
theorem dX12_missesBy_0 : decode cX12_missesBy 0 = .ok (.aload_n 0, 1) := by decide +kernel
theorem dX12_missesBy_1 : decode cX12_missesBy 1 = .ok (.ldc_w 312, 3) := by decide +kernel
theorem dX12_missesBy_4 : decode cX12_missesBy 4 = .ok (.iload_n 1, 1) := by decide +kernel
theorem dX12_missesBy_5 : decode cX12_missesBy 5 = .ok (.invokevirtual 314, 3) := by decide +kernel
theorem dX12_missesBy_8 : decode cX12_missesBy 8 = .ok (.ifCond .lt 19, 3) := by decide +kernel
theorem dX12_missesBy_11 : decode cX12_missesBy 11 = .ok (.iload_n 2, 1) := by decide +kernel
theorem dX12_missesBy_12 : decode cX12_missesBy 12 = .ok (.i2l, 1) := by decide +kernel
theorem dX12_missesBy_13 : decode cX12_missesBy 13 = .ok (.lconst 1, 1) := by decide +kernel
theorem dX12_missesBy_14 : decode cX12_missesBy 14 = .ok (.ldc2_w 97, 3) := by decide +kernel
theorem dX12_missesBy_17 : decode cX12_missesBy 17 = .ok (.invokestatic 69, 3) := by decide +kernel
theorem dX12_missesBy_20 : decode cX12_missesBy 20 = .ok (.ifCond .eq 7, 3) := by decide +kernel
theorem dX12_missesBy_23 : decode cX12_missesBy 23 = .ok (.iconst 0, 1) := by decide +kernel
theorem dX12_missesBy_24 : decode cX12_missesBy 24 = .ok (.goto 4, 3) := by decide +kernel
theorem dX12_missesBy_27 : decode cX12_missesBy 27 = .ok (.iconst 1, 1) := by decide +kernel
theorem dX12_missesBy_28 : decode cX12_missesBy 28 = .ok (.putfield 66, 3) := by decide +kernel
theorem dX12_missesBy_31 : decode cX12_missesBy 31 = .ok (.aload_n 0, 1) := by decide +kernel
theorem dX12_missesBy_32 : decode cX12_missesBy 32 = .ok (.getfield 66, 3) := by decide +kernel
theorem dX12_missesBy_35 : decode cX12_missesBy 35 = .ok (.ifCond .le 7, 3) := by decide +kernel
theorem dX12_missesBy_38 : decode cX12_missesBy 38 = .ok (.iconst 0, 1) := by decide +kernel
theorem dX12_missesBy_39 : decode cX12_missesBy 39 = .ok (.goto 9, 3) := by decide +kernel
theorem dX12_missesBy_42 : decode cX12_missesBy 42 = .ok (.aload_n 0, 1) := by decide +kernel
theorem dX12_missesBy_43 : decode cX12_missesBy 43 = .ok (.iload_n 1, 1) := by decide +kernel
theorem dX12_missesBy_44 : decode cX12_missesBy 44 = .ok (.iload_n 2, 1) := by decide +kernel
theorem dX12_missesBy_45 : decode cX12_missesBy 45 = .ok (.invokevirtual 319, 3) := by decide +kernel
theorem dX12_missesBy_48 : decode cX12_missesBy 48 = .ok (.ireturn, 1) := by decide +kernel
theorem dX12_framesFor_0 : decode cX12_framesFor 0 = .ok (.aload_n 0, 1) := by decide +kernel
theorem dX12_framesFor_1 : decode cX12_framesFor 1 = .ok (.iload_n 1, 1) := by decide +kernel
theorem dX12_framesFor_2 : decode cX12_framesFor 2 = .ok (.i2l, 1) := by decide +kernel
theorem dX12_framesFor_3 : decode cX12_framesFor 3 = .ok (.lconst 0, 1) := by decide +kernel
theorem dX12_framesFor_4 : decode cX12_framesFor 4 = .ok (.ldc2_w 323, 3) := by decide +kernel
theorem dX12_framesFor_7 : decode cX12_framesFor 7 = .ok (.invokestatic 69, 3) := by decide +kernel
theorem dX12_framesFor_10 : decode cX12_framesFor 10 = .ok (.ifCond .eq 7, 3) := by decide +kernel
theorem dX12_framesFor_13 : decode cX12_framesFor 13 = .ok (.iconst 0, 1) := by decide +kernel
theorem dX12_framesFor_14 : decode cX12_framesFor 14 = .ok (.goto 4, 3) := by decide +kernel
theorem dX12_framesFor_17 : decode cX12_framesFor 17 = .ok (.iconst 1, 1) := by decide +kernel
theorem dX12_framesFor_18 : decode cX12_framesFor 18 = .ok (.putfield 66, 3) := by decide +kernel
theorem dX12_framesFor_21 : decode cX12_framesFor 21 = .ok (.iconst 1, 1) := by decide +kernel
theorem dX12_framesFor_22 : decode cX12_framesFor 22 = .ok (.istore_n 2, 1) := by decide +kernel
theorem dX12_framesFor_23 : decode cX12_framesFor 23 = .ok (.aload_n 0, 1) := by decide +kernel
theorem dX12_framesFor_24 : decode cX12_framesFor 24 = .ok (.getfield 66, 3) := by decide +kernel
theorem dX12_framesFor_27 : decode cX12_framesFor 27 = .ok (.ifCond .ne 26, 3) := by decide +kernel
theorem dX12_framesFor_30 : decode cX12_framesFor 30 = .ok (.iload_n 2, 1) := by decide +kernel
theorem dX12_framesFor_31 : decode cX12_framesFor 31 = .ok (.bipush 16, 2) := by decide +kernel
theorem dX12_framesFor_33 : decode cX12_framesFor 33 = .ok (.if_icmp .gt 20, 3) := by decide +kernel
theorem dX12_framesFor_36 : decode cX12_framesFor 36 = .ok (.aload_n 0, 1) := by decide +kernel
theorem dX12_framesFor_37 : decode cX12_framesFor 37 = .ok (.bipush 98, 2) := by decide +kernel
theorem dX12_framesFor_39 : decode cX12_framesFor 39 = .ok (.iload_n 2, 1) := by decide +kernel
theorem dX12_framesFor_40 : decode cX12_framesFor 40 = .ok (.invokevirtual 319, 3) := by decide +kernel
theorem dX12_framesFor_43 : decode cX12_framesFor 43 = .ok (.iload_n 1, 1) := by decide +kernel
theorem dX12_framesFor_44 : decode cX12_framesFor 44 = .ok (.if_icmp .le 9, 3) := by decide +kernel
theorem dX12_framesFor_47 : decode cX12_framesFor 47 = .ok (.iinc 2 1, 3) := by decide +kernel
theorem dX12_framesFor_50 : decode cX12_framesFor 50 = .ok (.goto (-27), 3) := by decide +kernel
theorem dX12_framesFor_53 : decode cX12_framesFor 53 = .ok (.aload_n 0, 1) := by decide +kernel
theorem dX12_framesFor_54 : decode cX12_framesFor 54 = .ok (.getfield 66, 3) := by decide +kernel
theorem dX12_framesFor_57 : decode cX12_framesFor 57 = .ok (.ifCond .le 7, 3) := by decide +kernel
theorem dX12_framesFor_60 : decode cX12_framesFor 60 = .ok (.iconst 0, 1) := by decide +kernel
theorem dX12_framesFor_61 : decode cX12_framesFor 61 = .ok (.goto 4, 3) := by decide +kernel
theorem dX12_framesFor_64 : decode cX12_framesFor 64 = .ok (.iload_n 2, 1) := by decide +kernel
theorem dX12_framesFor_65 : decode cX12_framesFor 65 = .ok (.ireturn, 1) := by decide +kernel
theorem dX12_getHitShare_0 : decode cX12_getHitShare 0 = .ok (.aload_n 0, 1) := by decide +kernel
theorem dX12_getHitShare_1 : decode cX12_getHitShare 1 = .ok (.aload_n 0, 1) := by decide +kernel
theorem dX12_getHitShare_2 : decode cX12_getHitShare 2 = .ok (.getfield 205, 3) := by decide +kernel
theorem dX12_getHitShare_5 : decode cX12_getHitShare 5 = .ok (.aload_n 0, 1) := by decide +kernel
theorem dX12_getHitShare_6 : decode cX12_getHitShare 6 = .ok (.getfield 208, 3) := by decide +kernel
theorem dX12_getHitShare_9 : decode cX12_getHitShare 9 = .ok (.iadd, 1) := by decide +kernel
theorem dX12_getHitShare_10 : decode cX12_getHitShare 10 = .ok (.ifCond .ne 7, 3) := by decide +kernel
theorem dX12_getHitShare_13 : decode cX12_getHitShare 13 = .ok (.iconst 1, 1) := by decide +kernel
theorem dX12_getHitShare_14 : decode cX12_getHitShare 14 = .ok (.goto 4, 3) := by decide +kernel
theorem dX12_getHitShare_17 : decode cX12_getHitShare 17 = .ok (.iconst 0, 1) := by decide +kernel
theorem dX12_getHitShare_18 : decode cX12_getHitShare 18 = .ok (.putfield 66, 3) := by decide +kernel
theorem dX12_getHitShare_21 : decode cX12_getHitShare 21 = .ok (.aload_n 0, 1) := by decide +kernel
theorem dX12_getHitShare_22 : decode cX12_getHitShare 22 = .ok (.getfield 66, 3) := by decide +kernel
theorem dX12_getHitShare_25 : decode cX12_getHitShare 25 = .ok (.ifCond .le 7, 3) := by decide +kernel
theorem dX12_getHitShare_28 : decode cX12_getHitShare 28 = .ok (.fconst 0, 1) := by decide +kernel
theorem dX12_getHitShare_29 : decode cX12_getHitShare 29 = .ok (.goto 19, 3) := by decide +kernel
theorem dX12_getHitShare_32 : decode cX12_getHitShare 32 = .ok (.aload_n 0, 1) := by decide +kernel
theorem dX12_getHitShare_33 : decode cX12_getHitShare 33 = .ok (.getfield 205, 3) := by decide +kernel
theorem dX12_getHitShare_36 : decode cX12_getHitShare 36 = .ok (.i2f, 1) := by decide +kernel
theorem dX12_getHitShare_37 : decode cX12_getHitShare 37 = .ok (.aload_n 0, 1) := by decide +kernel
theorem dX12_getHitShare_38 : decode cX12_getHitShare 38 = .ok (.getfield 205, 3) := by decide +kernel
theorem dX12_getHitShare_41 : decode cX12_getHitShare 41 = .ok (.aload_n 0, 1) := by decide +kernel
theorem dX12_getHitShare_42 : decode cX12_getHitShare 42 = .ok (.getfield 208, 3) := by decide +kernel
theorem dX12_getHitShare_45 : decode cX12_getHitShare 45 = .ok (.iadd, 1) := by decide +kernel
theorem dX12_getHitShare_46 : decode cX12_getHitShare 46 = .ok (.i2f, 1) := by decide +kernel
theorem dX12_getHitShare_47 : decode cX12_getHitShare 47 = .ok (.fdiv, 1) := by decide +kernel
theorem dX12_getHitShare_48 : decode cX12_getHitShare 48 = .ok (.freturn, 1) := by decide +kernel
theorem dX12_getHitBits_0 : decode cX12_getHitBits 0 = .ok (.aload_n 0, 1) := by decide +kernel
theorem dX12_getHitBits_1 : decode cX12_getHitBits 1 = .ok (.aload_n 0, 1) := by decide +kernel
theorem dX12_getHitBits_2 : decode cX12_getHitBits 2 = .ok (.getfield 205, 3) := by decide +kernel
theorem dX12_getHitBits_5 : decode cX12_getHitBits 5 = .ok (.aload_n 0, 1) := by decide +kernel
theorem dX12_getHitBits_6 : decode cX12_getHitBits 6 = .ok (.getfield 208, 3) := by decide +kernel
theorem dX12_getHitBits_9 : decode cX12_getHitBits 9 = .ok (.iadd, 1) := by decide +kernel
theorem dX12_getHitBits_10 : decode cX12_getHitBits 10 = .ok (.ifCond .ne 7, 3) := by decide +kernel
theorem dX12_getHitBits_13 : decode cX12_getHitBits 13 = .ok (.iconst 1, 1) := by decide +kernel
theorem dX12_getHitBits_14 : decode cX12_getHitBits 14 = .ok (.goto 4, 3) := by decide +kernel
theorem dX12_getHitBits_17 : decode cX12_getHitBits 17 = .ok (.iconst 0, 1) := by decide +kernel
theorem dX12_getHitBits_18 : decode cX12_getHitBits 18 = .ok (.putfield 66, 3) := by decide +kernel
theorem dX12_getHitBits_21 : decode cX12_getHitBits 21 = .ok (.aload_n 0, 1) := by decide +kernel
theorem dX12_getHitBits_22 : decode cX12_getHitBits 22 = .ok (.getfield 66, 3) := by decide +kernel
theorem dX12_getHitBits_25 : decode cX12_getHitBits 25 = .ok (.ifCond .le 7, 3) := by decide +kernel
theorem dX12_getHitBits_28 : decode cX12_getHitBits 28 = .ok (.iconst 0, 1) := by decide +kernel
theorem dX12_getHitBits_29 : decode cX12_getHitBits 29 = .ok (.goto 22, 3) := by decide +kernel
theorem dX12_getHitBits_32 : decode cX12_getHitBits 32 = .ok (.aload_n 0, 1) := by decide +kernel
theorem dX12_getHitBits_33 : decode cX12_getHitBits 33 = .ok (.getfield 205, 3) := by decide +kernel
theorem dX12_getHitBits_36 : decode cX12_getHitBits 36 = .ok (.i2f, 1) := by decide +kernel
theorem dX12_getHitBits_37 : decode cX12_getHitBits 37 = .ok (.aload_n 0, 1) := by decide +kernel
theorem dX12_getHitBits_38 : decode cX12_getHitBits 38 = .ok (.getfield 205, 3) := by decide +kernel
theorem dX12_getHitBits_41 : decode cX12_getHitBits 41 = .ok (.aload_n 0, 1) := by decide +kernel
theorem dX12_getHitBits_42 : decode cX12_getHitBits 42 = .ok (.getfield 208, 3) := by decide +kernel
theorem dX12_getHitBits_45 : decode cX12_getHitBits 45 = .ok (.iadd, 1) := by decide +kernel
theorem dX12_getHitBits_46 : decode cX12_getHitBits 46 = .ok (.i2f, 1) := by decide +kernel
theorem dX12_getHitBits_47 : decode cX12_getHitBits 47 = .ok (.fdiv, 1) := by decide +kernel
theorem dX12_getHitBits_48 : decode cX12_getHitBits 48 = .ok (.invokestatic 325, 3) := by decide +kernel
theorem dX12_getHitBits_51 : decode cX12_getHitBits 51 = .ok (.ireturn, 1) := by decide +kernel
theorem dX12_getMeanCost_0 : decode cX12_getMeanCost 0 = .ok (.aload_n 0, 1) := by decide +kernel
theorem dX12_getMeanCost_1 : decode cX12_getMeanCost 1 = .ok (.aload_n 0, 1) := by decide +kernel
theorem dX12_getMeanCost_2 : decode cX12_getMeanCost 2 = .ok (.getfield 205, 3) := by decide +kernel
theorem dX12_getMeanCost_5 : decode cX12_getMeanCost 5 = .ok (.aload_n 0, 1) := by decide +kernel
theorem dX12_getMeanCost_6 : decode cX12_getMeanCost 6 = .ok (.getfield 208, 3) := by decide +kernel
theorem dX12_getMeanCost_9 : decode cX12_getMeanCost 9 = .ok (.iadd, 1) := by decide +kernel
theorem dX12_getMeanCost_10 : decode cX12_getMeanCost 10 = .ok (.ifCond .ne 7, 3) := by decide +kernel
theorem dX12_getMeanCost_13 : decode cX12_getMeanCost 13 = .ok (.iconst 1, 1) := by decide +kernel
theorem dX12_getMeanCost_14 : decode cX12_getMeanCost 14 = .ok (.goto 4, 3) := by decide +kernel
theorem dX12_getMeanCost_17 : decode cX12_getMeanCost 17 = .ok (.iconst 0, 1) := by decide +kernel
theorem dX12_getMeanCost_18 : decode cX12_getMeanCost 18 = .ok (.putfield 66, 3) := by decide +kernel
theorem dX12_getMeanCost_21 : decode cX12_getMeanCost 21 = .ok (.aload_n 0, 1) := by decide +kernel
theorem dX12_getMeanCost_22 : decode cX12_getMeanCost 22 = .ok (.getfield 66, 3) := by decide +kernel
theorem dX12_getMeanCost_25 : decode cX12_getMeanCost 25 = .ok (.ifCond .le 7, 3) := by decide +kernel
theorem dX12_getMeanCost_28 : decode cX12_getMeanCost 28 = .ok (.dconst 0, 1) := by decide +kernel
theorem dX12_getMeanCost_29 : decode cX12_getMeanCost 29 = .ok (.goto 35, 3) := by decide +kernel
theorem dX12_getMeanCost_32 : decode cX12_getMeanCost 32 = .ok (.aload_n 0, 1) := by decide +kernel
theorem dX12_getMeanCost_33 : decode cX12_getMeanCost 33 = .ok (.getfield 49, 3) := by decide +kernel
theorem dX12_getMeanCost_36 : decode cX12_getMeanCost 36 = .ok (.iconst 0, 1) := by decide +kernel
theorem dX12_getMeanCost_37 : decode cX12_getMeanCost 37 = .ok (.laload, 1) := by decide +kernel
theorem dX12_getMeanCost_38 : decode cX12_getMeanCost 38 = .ok (.aload_n 0, 1) := by decide +kernel
theorem dX12_getMeanCost_39 : decode cX12_getMeanCost 39 = .ok (.getfield 49, 3) := by decide +kernel
theorem dX12_getMeanCost_42 : decode cX12_getMeanCost 42 = .ok (.iconst 1, 1) := by decide +kernel
theorem dX12_getMeanCost_43 : decode cX12_getMeanCost 43 = .ok (.laload, 1) := by decide +kernel
theorem dX12_getMeanCost_44 : decode cX12_getMeanCost 44 = .ok (.ladd, 1) := by decide +kernel
theorem dX12_getMeanCost_45 : decode cX12_getMeanCost 45 = .ok (.aload_n 0, 1) := by decide +kernel
theorem dX12_getMeanCost_46 : decode cX12_getMeanCost 46 = .ok (.getfield 49, 3) := by decide +kernel
theorem dX12_getMeanCost_49 : decode cX12_getMeanCost 49 = .ok (.iconst 2, 1) := by decide +kernel
theorem dX12_getMeanCost_50 : decode cX12_getMeanCost 50 = .ok (.laload, 1) := by decide +kernel
theorem dX12_getMeanCost_51 : decode cX12_getMeanCost 51 = .ok (.ladd, 1) := by decide +kernel
theorem dX12_getMeanCost_52 : decode cX12_getMeanCost 52 = .ok (.l2d, 1) := by decide +kernel
theorem dX12_getMeanCost_53 : decode cX12_getMeanCost 53 = .ok (.aload_n 0, 1) := by decide +kernel
theorem dX12_getMeanCost_54 : decode cX12_getMeanCost 54 = .ok (.getfield 205, 3) := by decide +kernel
theorem dX12_getMeanCost_57 : decode cX12_getMeanCost 57 = .ok (.aload_n 0, 1) := by decide +kernel
theorem dX12_getMeanCost_58 : decode cX12_getMeanCost 58 = .ok (.getfield 208, 3) := by decide +kernel
theorem dX12_getMeanCost_61 : decode cX12_getMeanCost 61 = .ok (.iadd, 1) := by decide +kernel
theorem dX12_getMeanCost_62 : decode cX12_getMeanCost 62 = .ok (.i2d, 1) := by decide +kernel
theorem dX12_getMeanCost_63 : decode cX12_getMeanCost 63 = .ok (.ddiv, 1) := by decide +kernel
theorem dX12_getMeanCost_64 : decode cX12_getMeanCost 64 = .ok (.dreturn, 1) := by decide +kernel
theorem dX12_checksum_0 : decode cX12_checksum 0 = .ok (.aload_n 0, 1) := by decide +kernel
theorem dX12_checksum_1 : decode cX12_checksum 1 = .ok (.iconst 0, 1) := by decide +kernel
theorem dX12_checksum_2 : decode cX12_checksum 2 = .ok (.putfield 66, 3) := by decide +kernel
theorem dX12_checksum_5 : decode cX12_checksum 5 = .ok (.ldc2_w 331, 3) := by decide +kernel
theorem dX12_checksum_8 : decode cX12_checksum 8 = .ok (.lstore_n 1, 1) := by decide +kernel
theorem dX12_checksum_9 : decode cX12_checksum 9 = .ok (.aload_n 0, 1) := by decide +kernel
theorem dX12_checksum_10 : decode cX12_checksum 10 = .ok (.getfield 9, 3) := by decide +kernel
theorem dX12_checksum_13 : decode cX12_checksum 13 = .ok (.astore_n 3, 1) := by decide +kernel
theorem dX12_checksum_14 : decode cX12_checksum 14 = .ok (.aload_n 3, 1) := by decide +kernel
theorem dX12_checksum_15 : decode cX12_checksum 15 = .ok (.arraylength, 1) := by decide +kernel
theorem dX12_checksum_16 : decode cX12_checksum 16 = .ok (.istore 4, 2) := by decide +kernel
theorem dX12_checksum_18 : decode cX12_checksum 18 = .ok (.iconst 0, 1) := by decide +kernel
theorem dX12_checksum_19 : decode cX12_checksum 19 = .ok (.istore 5, 2) := by decide +kernel
theorem dX12_checksum_21 : decode cX12_checksum 21 = .ok (.iload 5, 2) := by decide +kernel
theorem dX12_checksum_23 : decode cX12_checksum 23 = .ok (.iload 4, 2) := by decide +kernel
theorem dX12_checksum_25 : decode cX12_checksum 25 = .ok (.if_icmp .ge 25, 3) := by decide +kernel
theorem dX12_checksum_28 : decode cX12_checksum 28 = .ok (.aload_n 3, 1) := by decide +kernel
theorem dX12_checksum_29 : decode cX12_checksum 29 = .ok (.iload 5, 2) := by decide +kernel
theorem dX12_checksum_31 : decode cX12_checksum 31 = .ok (.iaload, 1) := by decide +kernel
theorem dX12_checksum_32 : decode cX12_checksum 32 = .ok (.istore 6, 2) := by decide +kernel
theorem dX12_checksum_34 : decode cX12_checksum 34 = .ok (.ldc2_w 333, 3) := by decide +kernel
theorem dX12_checksum_37 : decode cX12_checksum 37 = .ok (.lload_n 1, 1) := by decide +kernel
theorem dX12_checksum_38 : decode cX12_checksum 38 = .ok (.lmul, 1) := by decide +kernel
theorem dX12_checksum_39 : decode cX12_checksum 39 = .ok (.iload 6, 2) := by decide +kernel
theorem dX12_checksum_41 : decode cX12_checksum 41 = .ok (.i2l, 1) := by decide +kernel
theorem dX12_checksum_42 : decode cX12_checksum 42 = .ok (.ladd, 1) := by decide +kernel
theorem dX12_checksum_43 : decode cX12_checksum 43 = .ok (.lstore_n 1, 1) := by decide +kernel
theorem dX12_checksum_44 : decode cX12_checksum 44 = .ok (.iinc 5 1, 3) := by decide +kernel
theorem dX12_checksum_47 : decode cX12_checksum 47 = .ok (.goto (-26), 3) := by decide +kernel
theorem dX12_checksum_50 : decode cX12_checksum 50 = .ok (.iconst 0, 1) := by decide +kernel
theorem dX12_checksum_51 : decode cX12_checksum 51 = .ok (.istore_n 3, 1) := by decide +kernel
theorem dX12_checksum_52 : decode cX12_checksum 52 = .ok (.iload_n 3, 1) := by decide +kernel
theorem dX12_checksum_53 : decode cX12_checksum 53 = .ok (.aload_n 0, 1) := by decide +kernel
theorem dX12_checksum_54 : decode cX12_checksum 54 = .ok (.getfield 38, 3) := by decide +kernel
theorem dX12_checksum_57 : decode cX12_checksum 57 = .ok (.if_icmp .ge 39, 3) := by decide +kernel
theorem dX12_checksum_60 : decode cX12_checksum 60 = .ok (.ldc2_w 333, 3) := by decide +kernel
theorem dX12_checksum_63 : decode cX12_checksum 63 = .ok (.lload_n 1, 1) := by decide +kernel
theorem dX12_checksum_64 : decode cX12_checksum 64 = .ok (.lmul, 1) := by decide +kernel
theorem dX12_checksum_65 : decode cX12_checksum 65 = .ok (.aload_n 0, 1) := by decide +kernel
theorem dX12_checksum_66 : decode cX12_checksum 66 = .ok (.getfield 34, 3) := by decide +kernel
theorem dX12_checksum_69 : decode cX12_checksum 69 = .ok (.iload_n 3, 1) := by decide +kernel
theorem dX12_checksum_70 : decode cX12_checksum 70 = .ok (.aaload, 1) := by decide +kernel
theorem dX12_checksum_71 : decode cX12_checksum 71 = .ok (.ifnonnull 7, 3) := by decide +kernel
theorem dX12_checksum_74 : decode cX12_checksum 74 = .ok (.iconst (-1), 1) := by decide +kernel
theorem dX12_checksum_75 : decode cX12_checksum 75 = .ok (.goto 12, 3) := by decide +kernel
theorem dX12_checksum_78 : decode cX12_checksum 78 = .ok (.aload_n 0, 1) := by decide +kernel
theorem dX12_checksum_79 : decode cX12_checksum 79 = .ok (.getfield 34, 3) := by decide +kernel
theorem dX12_checksum_82 : decode cX12_checksum 82 = .ok (.iload_n 3, 1) := by decide +kernel
theorem dX12_checksum_83 : decode cX12_checksum 83 = .ok (.aaload, 1) := by decide +kernel
theorem dX12_checksum_84 : decode cX12_checksum 84 = .ok (.getfield 142, 3) := by decide +kernel
theorem dX12_checksum_87 : decode cX12_checksum 87 = .ok (.i2l, 1) := by decide +kernel
theorem dX12_checksum_88 : decode cX12_checksum 88 = .ok (.ladd, 1) := by decide +kernel
theorem dX12_checksum_89 : decode cX12_checksum 89 = .ok (.lstore_n 1, 1) := by decide +kernel
theorem dX12_checksum_90 : decode cX12_checksum 90 = .ok (.iinc 3 1, 3) := by decide +kernel
theorem dX12_checksum_93 : decode cX12_checksum 93 = .ok (.goto (-41), 3) := by decide +kernel
theorem dX12_checksum_96 : decode cX12_checksum 96 = .ok (.ldc2_w 333, 3) := by decide +kernel
theorem dX12_checksum_99 : decode cX12_checksum 99 = .ok (.lload_n 1, 1) := by decide +kernel
theorem dX12_checksum_100 : decode cX12_checksum 100 = .ok (.lmul, 1) := by decide +kernel
theorem dX12_checksum_101 : decode cX12_checksum 101 = .ok (.aload_n 0, 1) := by decide +kernel
theorem dX12_checksum_102 : decode cX12_checksum 102 = .ok (.getfield 205, 3) := by decide +kernel
theorem dX12_checksum_105 : decode cX12_checksum 105 = .ok (.i2l, 1) := by decide +kernel
theorem dX12_checksum_106 : decode cX12_checksum 106 = .ok (.ladd, 1) := by decide +kernel
theorem dX12_checksum_107 : decode cX12_checksum 107 = .ok (.lstore_n 1, 1) := by decide +kernel
theorem dX12_checksum_108 : decode cX12_checksum 108 = .ok (.ldc2_w 333, 3) := by decide +kernel
theorem dX12_checksum_111 : decode cX12_checksum 111 = .ok (.lload_n 1, 1) := by decide +kernel
theorem dX12_checksum_112 : decode cX12_checksum 112 = .ok (.lmul, 1) := by decide +kernel
theorem dX12_checksum_113 : decode cX12_checksum 113 = .ok (.aload_n 0, 1) := by decide +kernel
theorem dX12_checksum_114 : decode cX12_checksum 114 = .ok (.getfield 208, 3) := by decide +kernel
theorem dX12_checksum_117 : decode cX12_checksum 117 = .ok (.i2l, 1) := by decide +kernel
theorem dX12_checksum_118 : decode cX12_checksum 118 = .ok (.ladd, 1) := by decide +kernel
theorem dX12_checksum_119 : decode cX12_checksum 119 = .ok (.lstore_n 1, 1) := by decide +kernel
theorem dX12_checksum_120 : decode cX12_checksum 120 = .ok (.ldc2_w 333, 3) := by decide +kernel
theorem dX12_checksum_123 : decode cX12_checksum 123 = .ok (.lload_n 1, 1) := by decide +kernel
theorem dX12_checksum_124 : decode cX12_checksum 124 = .ok (.lmul, 1) := by decide +kernel
theorem dX12_checksum_125 : decode cX12_checksum 125 = .ok (.aload_n 0, 1) := by decide +kernel
theorem dX12_checksum_126 : decode cX12_checksum 126 = .ok (.getfield 276, 3) := by decide +kernel
theorem dX12_checksum_129 : decode cX12_checksum 129 = .ok (.i2l, 1) := by decide +kernel
theorem dX12_checksum_130 : decode cX12_checksum 130 = .ok (.ladd, 1) := by decide +kernel
theorem dX12_checksum_131 : decode cX12_checksum 131 = .ok (.lstore_n 1, 1) := by decide +kernel
theorem dX12_checksum_132 : decode cX12_checksum 132 = .ok (.ldc2_w 333, 3) := by decide +kernel
theorem dX12_checksum_135 : decode cX12_checksum 135 = .ok (.lload_n 1, 1) := by decide +kernel
theorem dX12_checksum_136 : decode cX12_checksum 136 = .ok (.lmul, 1) := by decide +kernel
theorem dX12_checksum_137 : decode cX12_checksum 137 = .ok (.aload_n 0, 1) := by decide +kernel
theorem dX12_checksum_138 : decode cX12_checksum 138 = .ok (.getfield 116, 3) := by decide +kernel
theorem dX12_checksum_141 : decode cX12_checksum 141 = .ok (.i2l, 1) := by decide +kernel
theorem dX12_checksum_142 : decode cX12_checksum 142 = .ok (.ladd, 1) := by decide +kernel
theorem dX12_checksum_143 : decode cX12_checksum 143 = .ok (.lstore_n 1, 1) := by decide +kernel
theorem dX12_checksum_144 : decode cX12_checksum 144 = .ok (.ldc2_w 333, 3) := by decide +kernel
theorem dX12_checksum_147 : decode cX12_checksum 147 = .ok (.lload_n 1, 1) := by decide +kernel
theorem dX12_checksum_148 : decode cX12_checksum 148 = .ok (.lmul, 1) := by decide +kernel
theorem dX12_checksum_149 : decode cX12_checksum 149 = .ok (.aload_n 0, 1) := by decide +kernel
theorem dX12_checksum_150 : decode cX12_checksum 150 = .ok (.invokevirtual 288, 3) := by decide +kernel
theorem dX12_checksum_153 : decode cX12_checksum 153 = .ok (.i2l, 1) := by decide +kernel
theorem dX12_checksum_154 : decode cX12_checksum 154 = .ok (.ladd, 1) := by decide +kernel
theorem dX12_checksum_155 : decode cX12_checksum 155 = .ok (.lstore_n 1, 1) := by decide +kernel
theorem dX12_checksum_156 : decode cX12_checksum 156 = .ok (.aload_n 0, 1) := by decide +kernel
theorem dX12_checksum_157 : decode cX12_checksum 157 = .ok (.getfield 49, 3) := by decide +kernel
theorem dX12_checksum_160 : decode cX12_checksum 160 = .ok (.astore_n 3, 1) := by decide +kernel
theorem dX12_checksum_161 : decode cX12_checksum 161 = .ok (.aload_n 3, 1) := by decide +kernel
theorem dX12_checksum_162 : decode cX12_checksum 162 = .ok (.arraylength, 1) := by decide +kernel
theorem dX12_checksum_163 : decode cX12_checksum 163 = .ok (.istore 4, 2) := by decide +kernel
theorem dX12_checksum_165 : decode cX12_checksum 165 = .ok (.iconst 0, 1) := by decide +kernel
theorem dX12_checksum_166 : decode cX12_checksum 166 = .ok (.istore 5, 2) := by decide +kernel
theorem dX12_checksum_168 : decode cX12_checksum 168 = .ok (.iload 5, 2) := by decide +kernel
theorem dX12_checksum_170 : decode cX12_checksum 170 = .ok (.iload 4, 2) := by decide +kernel
theorem dX12_checksum_172 : decode cX12_checksum 172 = .ok (.if_icmp .ge 24, 3) := by decide +kernel
theorem dX12_checksum_175 : decode cX12_checksum 175 = .ok (.aload_n 3, 1) := by decide +kernel
theorem dX12_checksum_176 : decode cX12_checksum 176 = .ok (.iload 5, 2) := by decide +kernel
theorem dX12_checksum_178 : decode cX12_checksum 178 = .ok (.laload, 1) := by decide +kernel
theorem dX12_checksum_179 : decode cX12_checksum 179 = .ok (.lstore 6, 2) := by decide +kernel
theorem dX12_checksum_181 : decode cX12_checksum 181 = .ok (.ldc2_w 333, 3) := by decide +kernel
theorem dX12_checksum_184 : decode cX12_checksum 184 = .ok (.lload_n 1, 1) := by decide +kernel
theorem dX12_checksum_185 : decode cX12_checksum 185 = .ok (.lmul, 1) := by decide +kernel
theorem dX12_checksum_186 : decode cX12_checksum 186 = .ok (.lload 6, 2) := by decide +kernel
theorem dX12_checksum_188 : decode cX12_checksum 188 = .ok (.ladd, 1) := by decide +kernel
theorem dX12_checksum_189 : decode cX12_checksum 189 = .ok (.lstore_n 1, 1) := by decide +kernel
theorem dX12_checksum_190 : decode cX12_checksum 190 = .ok (.iinc 5 1, 3) := by decide +kernel
theorem dX12_checksum_193 : decode cX12_checksum 193 = .ok (.goto (-25), 3) := by decide +kernel
theorem dX12_checksum_196 : decode cX12_checksum 196 = .ok (.lload_n 1, 1) := by decide +kernel
theorem dX12_checksum_197 : decode cX12_checksum 197 = .ok (.lreturn, 1) := by decide +kernel
theorem dX12_isSound_0 : decode cX12_isSound 0 = .ok (.aload_n 0, 1) := by decide +kernel
theorem dX12_isSound_1 : decode cX12_isSound 1 = .ok (.iconst 0, 1) := by decide +kernel
theorem dX12_isSound_2 : decode cX12_isSound 2 = .ok (.putfield 66, 3) := by decide +kernel
theorem dX12_isSound_5 : decode cX12_isSound 5 = .ok (.iconst 1, 1) := by decide +kernel
theorem dX12_isSound_6 : decode cX12_isSound 6 = .ok (.ireturn, 1) := by decide +kernel
theorem dJx00060_init_a7421_0 : decode cJx00060_init_a7421 0 = .ok (.aload_n 0, 1) := by decide +kernel
theorem dJx00060_init_a7421_1 : decode cJx00060_init_a7421 1 = .ok (.aload_n 1, 1) := by decide +kernel
theorem dJx00060_init_a7421_2 : decode cJx00060_init_a7421 2 = .ok (.invokespecial 7, 3) := by decide +kernel
theorem dJx00060_init_a7421_5 : decode cJx00060_init_a7421 5 = .ok (.return_, 1) := by decide +kernel
theorem dJ11_isValidCodePoint_9a6ad_0 : decode cJ11_isValidCodePoint_9a6ad 0 = .ok (.iload_n 0, 1) := by decide +kernel
theorem dJ11_isValidCodePoint_9a6ad_1 : decode cJ11_isValidCodePoint_9a6ad 1 = .ok (.bipush 16, 2) := by decide +kernel
theorem dJ11_isValidCodePoint_9a6ad_3 : decode cJ11_isValidCodePoint_9a6ad 3 = .ok (.iushr, 1) := by decide +kernel
theorem dJ11_isValidCodePoint_9a6ad_4 : decode cJ11_isValidCodePoint_9a6ad 4 = .ok (.istore_n 1, 1) := by decide +kernel
theorem dJ11_isValidCodePoint_9a6ad_5 : decode cJ11_isValidCodePoint_9a6ad 5 = .ok (.iload_n 1, 1) := by decide +kernel
theorem dJ11_isValidCodePoint_9a6ad_6 : decode cJ11_isValidCodePoint_9a6ad 6 = .ok (.bipush 17, 2) := by decide +kernel
theorem dJ11_isValidCodePoint_9a6ad_8 : decode cJ11_isValidCodePoint_9a6ad 8 = .ok (.if_icmp .ge 7, 3) := by decide +kernel
theorem dJ11_isValidCodePoint_9a6ad_11 : decode cJ11_isValidCodePoint_9a6ad 11 = .ok (.iconst 1, 1) := by decide +kernel
theorem dJ11_isValidCodePoint_9a6ad_12 : decode cJ11_isValidCodePoint_9a6ad 12 = .ok (.goto 4, 3) := by decide +kernel
theorem dJ11_isValidCodePoint_9a6ad_15 : decode cJ11_isValidCodePoint_9a6ad 15 = .ok (.iconst 0, 1) := by decide +kernel
theorem dJ11_isValidCodePoint_9a6ad_16 : decode cJ11_isValidCodePoint_9a6ad 16 = .ok (.ireturn, 1) := by decide +kernel
theorem dJ11_highSurrogate_5068e_0 : decode cJ11_highSurrogate_5068e 0 = .ok (.iload_n 0, 1) := by decide +kernel
theorem dJ11_highSurrogate_5068e_1 : decode cJ11_highSurrogate_5068e 1 = .ok (.bipush 10, 2) := by decide +kernel
theorem dJ11_highSurrogate_5068e_3 : decode cJ11_highSurrogate_5068e 3 = .ok (.iushr, 1) := by decide +kernel
theorem dJ11_highSurrogate_5068e_4 : decode cJ11_highSurrogate_5068e 4 = .ok (.ldc 110, 2) := by decide +kernel
theorem dJ11_highSurrogate_5068e_6 : decode cJ11_highSurrogate_5068e 6 = .ok (.iadd, 1) := by decide +kernel
theorem dJ11_highSurrogate_5068e_7 : decode cJ11_highSurrogate_5068e 7 = .ok (.i2c, 1) := by decide +kernel
theorem dJ11_highSurrogate_5068e_8 : decode cJ11_highSurrogate_5068e 8 = .ok (.ireturn, 1) := by decide +kernel
theorem dJ11_lowSurrogate_5068e_0 : decode cJ11_lowSurrogate_5068e 0 = .ok (.iload_n 0, 1) := by decide +kernel
theorem dJ11_lowSurrogate_5068e_1 : decode cJ11_lowSurrogate_5068e 1 = .ok (.sipush 1023, 3) := by decide +kernel
theorem dJ11_lowSurrogate_5068e_4 : decode cJ11_lowSurrogate_5068e 4 = .ok (.iand, 1) := by decide +kernel
theorem dJ11_lowSurrogate_5068e_5 : decode cJ11_lowSurrogate_5068e 5 = .ok (.ldc 76, 2) := by decide +kernel
theorem dJ11_lowSurrogate_5068e_7 : decode cJ11_lowSurrogate_5068e 7 = .ok (.iadd, 1) := by decide +kernel
theorem dJ11_lowSurrogate_5068e_8 : decode cJ11_lowSurrogate_5068e 8 = .ok (.i2c, 1) := by decide +kernel
theorem dJ11_lowSurrogate_5068e_9 : decode cJ11_lowSurrogate_5068e 9 = .ok (.ireturn, 1) := by decide +kernel
theorem dJxf58ca_isNaN_12338_0 : decode cJxf58ca_isNaN_12338 0 = .ok (.fload_n 0, 1) := by decide +kernel
theorem dJxf58ca_isNaN_12338_1 : decode cJxf58ca_isNaN_12338 1 = .ok (.fload_n 0, 1) := by decide +kernel
theorem dJxf58ca_isNaN_12338_2 : decode cJxf58ca_isNaN_12338 2 = .ok (.fcmp .l, 1) := by decide +kernel
theorem dJxf58ca_isNaN_12338_3 : decode cJxf58ca_isNaN_12338 3 = .ok (.ifCond .eq 7, 3) := by decide +kernel
theorem dJxf58ca_isNaN_12338_6 : decode cJxf58ca_isNaN_12338 6 = .ok (.iconst 1, 1) := by decide +kernel
theorem dJxf58ca_isNaN_12338_7 : decode cJxf58ca_isNaN_12338 7 = .ok (.goto 4, 3) := by decide +kernel
theorem dJxf58ca_isNaN_12338_10 : decode cJxf58ca_isNaN_12338 10 = .ok (.iconst 0, 1) := by decide +kernel
theorem dJxf58ca_isNaN_12338_11 : decode cJxf58ca_isNaN_12338 11 = .ok (.ireturn, 1) := by decide +kernel
theorem dJxf58ca_floatToIntBits_5c35a_0 : decode cJxf58ca_floatToIntBits_5c35a 0 = .ok (.fload_n 0, 1) := by decide +kernel
theorem dJxf58ca_floatToIntBits_5c35a_1 : decode cJxf58ca_floatToIntBits_5c35a 1 = .ok (.invokestatic 59, 3) := by decide +kernel
theorem dJxf58ca_floatToIntBits_5c35a_4 : decode cJxf58ca_floatToIntBits_5c35a 4 = .ok (.ifCond .ne 8, 3) := by decide +kernel
theorem dJxf58ca_floatToIntBits_5c35a_7 : decode cJxf58ca_floatToIntBits_5c35a 7 = .ok (.fload_n 0, 1) := by decide +kernel
theorem dJxf58ca_floatToIntBits_5c35a_8 : decode cJxf58ca_floatToIntBits_5c35a 8 = .ok (.invokestatic 74, 3) := by decide +kernel
theorem dJxf58ca_floatToIntBits_5c35a_11 : decode cJxf58ca_floatToIntBits_5c35a 11 = .ok (.ireturn, 1) := by decide +kernel
theorem dJxf58ca_floatToIntBits_5c35a_12 : decode cJxf58ca_floatToIntBits_5c35a 12 = .ok (.ldc 77, 2) := by decide +kernel
theorem dJxf58ca_floatToIntBits_5c35a_14 : decode cJxf58ca_floatToIntBits_5c35a 14 = .ok (.ireturn, 1) := by decide +kernel
theorem dJ6_valueOf_2dffe_0 : decode cJ6_valueOf_2dffe 0 = .ok (.iload_n 0, 1) := by decide +kernel
theorem dJ6_valueOf_2dffe_1 : decode cJ6_valueOf_2dffe 1 = .ok (.bipush (-128), 2) := by decide +kernel
theorem dJ6_valueOf_2dffe_3 : decode cJ6_valueOf_2dffe 3 = .ok (.if_icmp .lt 20, 3) := by decide +kernel
theorem dJ6_valueOf_2dffe_6 : decode cJ6_valueOf_2dffe 6 = .ok (.iload_n 0, 1) := by decide +kernel
theorem dJ6_valueOf_2dffe_7 : decode cJ6_valueOf_2dffe 7 = .ok (.getstatic 191, 3) := by decide +kernel
theorem dJ6_valueOf_2dffe_10 : decode cJ6_valueOf_2dffe 10 = .ok (.if_icmp .gt 13, 3) := by decide +kernel
theorem dJ6_valueOf_2dffe_13 : decode cJ6_valueOf_2dffe 13 = .ok (.getstatic 195, 3) := by decide +kernel
theorem dJ6_valueOf_2dffe_16 : decode cJ6_valueOf_2dffe 16 = .ok (.iload_n 0, 1) := by decide +kernel
theorem dJ6_valueOf_2dffe_17 : decode cJ6_valueOf_2dffe 17 = .ok (.sipush 128, 3) := by decide +kernel
theorem dJ6_valueOf_2dffe_20 : decode cJ6_valueOf_2dffe 20 = .ok (.iadd, 1) := by decide +kernel
theorem dJ6_valueOf_2dffe_21 : decode cJ6_valueOf_2dffe 21 = .ok (.aaload, 1) := by decide +kernel
theorem dJ6_valueOf_2dffe_22 : decode cJ6_valueOf_2dffe 22 = .ok (.areturn, 1) := by decide +kernel
theorem dJ6_valueOf_2dffe_23 : decode cJ6_valueOf_2dffe 23 = .ok (.new 1, 3) := by decide +kernel
theorem dJ6_valueOf_2dffe_26 : decode cJ6_valueOf_2dffe 26 = .ok (.dup, 1) := by decide +kernel
theorem dJ6_valueOf_2dffe_27 : decode cJ6_valueOf_2dffe 27 = .ok (.iload_n 0, 1) := by decide +kernel
theorem dJ6_valueOf_2dffe_28 : decode cJ6_valueOf_2dffe 28 = .ok (.invokespecial 199, 3) := by decide +kernel
theorem dJ6_valueOf_2dffe_31 : decode cJ6_valueOf_2dffe 31 = .ok (.areturn, 1) := by decide +kernel
theorem dJ6_init_d00df_0 : decode cJ6_init_d00df 0 = .ok (.aload_n 0, 1) := by decide +kernel
theorem dJ6_init_d00df_1 : decode cJ6_init_d00df 1 = .ok (.invokespecial 202, 3) := by decide +kernel
theorem dJ6_init_d00df_4 : decode cJ6_init_d00df 4 = .ok (.aload_n 0, 1) := by decide +kernel
theorem dJ6_init_d00df_5 : decode cJ6_init_d00df 5 = .ok (.iload_n 1, 1) := by decide +kernel
theorem dJ6_init_d00df_6 : decode cJ6_init_d00df 6 = .ok (.putfield 205, 3) := by decide +kernel
theorem dJ6_init_d00df_9 : decode cJ6_init_d00df 9 = .ok (.return_, 1) := by decide +kernel
theorem dJ6_intValue_8abf5_0 : decode cJ6_intValue_8abf5 0 = .ok (.aload_n 0, 1) := by decide +kernel
theorem dJ6_intValue_8abf5_1 : decode cJ6_intValue_8abf5 1 = .ok (.getfield 205, 3) := by decide +kernel
theorem dJ6_intValue_8abf5_4 : decode cJ6_intValue_8abf5 4 = .ok (.ireturn, 1) := by decide +kernel
theorem dJ9_abs_0f7a4_0 : decode cJ9_abs_0f7a4 0 = .ok (.iload_n 0, 1) := by decide +kernel
theorem dJ9_abs_0f7a4_1 : decode cJ9_abs_0f7a4 1 = .ok (.ifCond .ge 8, 3) := by decide +kernel
theorem dJ9_abs_0f7a4_4 : decode cJ9_abs_0f7a4 4 = .ok (.iload_n 0, 1) := by decide +kernel
theorem dJ9_abs_0f7a4_5 : decode cJ9_abs_0f7a4 5 = .ok (.ineg, 1) := by decide +kernel
theorem dJ9_abs_0f7a4_6 : decode cJ9_abs_0f7a4 6 = .ok (.goto 4, 3) := by decide +kernel
theorem dJ9_abs_0f7a4_9 : decode cJ9_abs_0f7a4 9 = .ok (.iload_n 0, 1) := by decide +kernel
theorem dJ9_abs_0f7a4_10 : decode cJ9_abs_0f7a4 10 = .ok (.ireturn, 1) := by decide +kernel
theorem dJ9_max_7cf53_0 : decode cJ9_max_7cf53 0 = .ok (.iload_n 0, 1) := by decide +kernel
theorem dJ9_max_7cf53_1 : decode cJ9_max_7cf53 1 = .ok (.iload_n 1, 1) := by decide +kernel
theorem dJ9_max_7cf53_2 : decode cJ9_max_7cf53 2 = .ok (.if_icmp .lt 7, 3) := by decide +kernel
theorem dJ9_max_7cf53_5 : decode cJ9_max_7cf53 5 = .ok (.iload_n 0, 1) := by decide +kernel
theorem dJ9_max_7cf53_6 : decode cJ9_max_7cf53 6 = .ok (.goto 4, 3) := by decide +kernel
theorem dJ9_max_7cf53_9 : decode cJ9_max_7cf53 9 = .ok (.iload_n 1, 1) := by decide +kernel
theorem dJ9_max_7cf53_10 : decode cJ9_max_7cf53 10 = .ok (.ireturn, 1) := by decide +kernel
theorem dJ9_min_7cf53_0 : decode cJ9_min_7cf53 0 = .ok (.iload_n 0, 1) := by decide +kernel
theorem dJ9_min_7cf53_1 : decode cJ9_min_7cf53 1 = .ok (.iload_n 1, 1) := by decide +kernel
theorem dJ9_min_7cf53_2 : decode cJ9_min_7cf53 2 = .ok (.if_icmp .gt 7, 3) := by decide +kernel
theorem dJ9_min_7cf53_5 : decode cJ9_min_7cf53 5 = .ok (.iload_n 0, 1) := by decide +kernel
theorem dJ9_min_7cf53_6 : decode cJ9_min_7cf53 6 = .ok (.goto 4, 3) := by decide +kernel
theorem dJ9_min_7cf53_9 : decode cJ9_min_7cf53 9 = .ok (.iload_n 1, 1) := by decide +kernel
theorem dJ9_min_7cf53_10 : decode cJ9_min_7cf53 10 = .ok (.ireturn, 1) := by decide +kernel
theorem dJxd2413_init_da8c8_0 : decode cJxd2413_init_da8c8 0 = .ok (.aload_n 0, 1) := by decide +kernel
theorem dJxd2413_init_da8c8_1 : decode cJxd2413_init_da8c8 1 = .ok (.invokespecial 1, 3) := by decide +kernel
theorem dJxd2413_init_da8c8_4 : decode cJxd2413_init_da8c8 4 = .ok (.return_, 1) := by decide +kernel
theorem dJ0_length_8abf5_0 : decode cJ0_length_8abf5 0 = .ok (.aload_n 0, 1) := by decide +kernel
theorem dJ0_length_8abf5_1 : decode cJ0_length_8abf5 1 = .ok (.getfield 9, 3) := by decide +kernel
theorem dJ0_length_8abf5_4 : decode cJ0_length_8abf5 4 = .ok (.arraylength, 1) := by decide +kernel
theorem dJ0_length_8abf5_5 : decode cJ0_length_8abf5 5 = .ok (.aload_n 0, 1) := by decide +kernel
theorem dJ0_length_8abf5_6 : decode cJ0_length_8abf5 6 = .ok (.invokevirtual 335, 3) := by decide +kernel
theorem dJ0_length_8abf5_9 : decode cJ0_length_8abf5 9 = .ok (.ishr, 1) := by decide +kernel
theorem dJ0_length_8abf5_10 : decode cJ0_length_8abf5 10 = .ok (.ireturn, 1) := by decide +kernel
theorem dJ0_indexOf_0f7a4_0 : decode cJ0_indexOf_0f7a4 0 = .ok (.aload_n 0, 1) := by decide +kernel
theorem dJ0_indexOf_0f7a4_1 : decode cJ0_indexOf_0f7a4 1 = .ok (.iload_n 1, 1) := by decide +kernel
theorem dJ0_indexOf_0f7a4_2 : decode cJ0_indexOf_0f7a4 2 = .ok (.iconst 0, 1) := by decide +kernel
theorem dJ0_indexOf_0f7a4_3 : decode cJ0_indexOf_0f7a4 3 = .ok (.invokevirtual 633, 3) := by decide +kernel
theorem dJ0_indexOf_0f7a4_6 : decode cJ0_indexOf_0f7a4 6 = .ok (.ireturn, 1) := by decide +kernel
theorem dJ0_indexOf_7cf53_0 : decode cJ0_indexOf_7cf53 0 = .ok (.aload_n 0, 1) := by decide +kernel
theorem dJ0_indexOf_7cf53_1 : decode cJ0_indexOf_7cf53 1 = .ok (.invokevirtual 492, 3) := by decide +kernel
theorem dJ0_indexOf_7cf53_4 : decode cJ0_indexOf_7cf53 4 = .ok (.ifCond .eq 19, 3) := by decide +kernel
theorem dJ0_indexOf_7cf53_7 : decode cJ0_indexOf_7cf53 7 = .ok (.aload_n 0, 1) := by decide +kernel
theorem dJ0_indexOf_7cf53_8 : decode cJ0_indexOf_7cf53 8 = .ok (.getfield 9, 3) := by decide +kernel
theorem dJ0_indexOf_7cf53_11 : decode cJ0_indexOf_7cf53 11 = .ok (.iload_n 1, 1) := by decide +kernel
theorem dJ0_indexOf_7cf53_12 : decode cJ0_indexOf_7cf53 12 = .ok (.iload_n 2, 1) := by decide +kernel
theorem dJ0_indexOf_7cf53_13 : decode cJ0_indexOf_7cf53 13 = .ok (.aload_n 0, 1) := by decide +kernel
theorem dJ0_indexOf_7cf53_14 : decode cJ0_indexOf_7cf53 14 = .ok (.invokevirtual 505, 3) := by decide +kernel
theorem dJ0_indexOf_7cf53_17 : decode cJ0_indexOf_7cf53 17 = .ok (.invokestatic 637, 3) := by decide +kernel
theorem dJ0_indexOf_7cf53_20 : decode cJ0_indexOf_7cf53 20 = .ok (.goto 16, 3) := by decide +kernel
theorem dJ0_indexOf_7cf53_23 : decode cJ0_indexOf_7cf53 23 = .ok (.aload_n 0, 1) := by decide +kernel
theorem dJ0_indexOf_7cf53_24 : decode cJ0_indexOf_7cf53 24 = .ok (.getfield 9, 3) := by decide +kernel
theorem dJ0_indexOf_7cf53_27 : decode cJ0_indexOf_7cf53 27 = .ok (.iload_n 1, 1) := by decide +kernel
theorem dJ0_indexOf_7cf53_28 : decode cJ0_indexOf_7cf53 28 = .ok (.iload_n 2, 1) := by decide +kernel
theorem dJ0_indexOf_7cf53_29 : decode cJ0_indexOf_7cf53 29 = .ok (.aload_n 0, 1) := by decide +kernel
theorem dJ0_indexOf_7cf53_30 : decode cJ0_indexOf_7cf53 30 = .ok (.invokevirtual 505, 3) := by decide +kernel
theorem dJ0_indexOf_7cf53_33 : decode cJ0_indexOf_7cf53 33 = .ok (.invokestatic 640, 3) := by decide +kernel
theorem dJ0_indexOf_7cf53_36 : decode cJ0_indexOf_7cf53 36 = .ok (.ireturn, 1) := by decide +kernel
theorem dJ0_coder_7d493_0 : decode cJ0_coder_7d493 0 = .ok (.getstatic 38, 3) := by decide +kernel
theorem dJ0_coder_7d493_3 : decode cJ0_coder_7d493 3 = .ok (.ifCond .eq 10, 3) := by decide +kernel
theorem dJ0_coder_7d493_6 : decode cJ0_coder_7d493 6 = .ok (.aload_n 0, 1) := by decide +kernel
theorem dJ0_coder_7d493_7 : decode cJ0_coder_7d493 7 = .ok (.getfield 15, 3) := by decide +kernel
theorem dJ0_coder_7d493_10 : decode cJ0_coder_7d493 10 = .ok (.goto 4, 3) := by decide +kernel
theorem dJ0_coder_7d493_13 : decode cJ0_coder_7d493 13 = .ok (.iconst 1, 1) := by decide +kernel
theorem dJ0_coder_7d493_14 : decode cJ0_coder_7d493 14 = .ok (.ireturn, 1) := by decide +kernel
theorem dJ0_isLatin1_aae02_0 : decode cJ0_isLatin1_aae02 0 = .ok (.getstatic 38, 3) := by decide +kernel
theorem dJ0_isLatin1_aae02_3 : decode cJ0_isLatin1_aae02 3 = .ok (.ifCond .eq 14, 3) := by decide +kernel
theorem dJ0_isLatin1_aae02_6 : decode cJ0_isLatin1_aae02 6 = .ok (.aload_n 0, 1) := by decide +kernel
theorem dJ0_isLatin1_aae02_7 : decode cJ0_isLatin1_aae02 7 = .ok (.getfield 15, 3) := by decide +kernel
theorem dJ0_isLatin1_aae02_10 : decode cJ0_isLatin1_aae02 10 = .ok (.ifCond .ne 7, 3) := by decide +kernel
theorem dJ0_isLatin1_aae02_13 : decode cJ0_isLatin1_aae02 13 = .ok (.iconst 1, 1) := by decide +kernel
theorem dJ0_isLatin1_aae02_14 : decode cJ0_isLatin1_aae02 14 = .ok (.goto 4, 3) := by decide +kernel
theorem dJ0_isLatin1_aae02_17 : decode cJ0_isLatin1_aae02 17 = .ok (.iconst 0, 1) := by decide +kernel
theorem dJ0_isLatin1_aae02_18 : decode cJ0_isLatin1_aae02 18 = .ok (.ireturn, 1) := by decide +kernel
theorem dJ0_checkBoundsBeginEnd_23922_0 : decode cJ0_checkBoundsBeginEnd_23922 0 = .ok (.iload_n 0, 1) := by decide +kernel
theorem dJ0_checkBoundsBeginEnd_23922_1 : decode cJ0_checkBoundsBeginEnd_23922 1 = .ok (.iload_n 1, 1) := by decide +kernel
theorem dJ0_checkBoundsBeginEnd_23922_2 : decode cJ0_checkBoundsBeginEnd_23922 2 = .ok (.iload_n 2, 1) := by decide +kernel
theorem dJ0_checkBoundsBeginEnd_23922_3 : decode cJ0_checkBoundsBeginEnd_23922 3 = .ok (.getstatic 1053, 3) := by decide +kernel
theorem dJ0_checkBoundsBeginEnd_23922_6 : decode cJ0_checkBoundsBeginEnd_23922 6 = .ok (.invokestatic 1062, 3) := by decide +kernel
theorem dJ0_checkBoundsBeginEnd_23922_9 : decode cJ0_checkBoundsBeginEnd_23922 9 = .ok (.pop, 1) := by decide +kernel
theorem dJ0_checkBoundsBeginEnd_23922_10 : decode cJ0_checkBoundsBeginEnd_23922 10 = .ok (.return_, 1) := by decide +kernel
theorem dJ1_canEncode_9a6ad_0 : decode cJ1_canEncode_9a6ad 0 = .ok (.iload_n 0, 1) := by decide +kernel
theorem dJ1_canEncode_9a6ad_1 : decode cJ1_canEncode_9a6ad 1 = .ok (.ifCond .lt 14, 3) := by decide +kernel
theorem dJ1_canEncode_9a6ad_4 : decode cJ1_canEncode_9a6ad 4 = .ok (.iload_n 0, 1) := by decide +kernel
theorem dJ1_canEncode_9a6ad_5 : decode cJ1_canEncode_9a6ad 5 = .ok (.sipush 255, 3) := by decide +kernel
theorem dJ1_canEncode_9a6ad_8 : decode cJ1_canEncode_9a6ad 8 = .ok (.if_icmp .gt 7, 3) := by decide +kernel
theorem dJ1_canEncode_9a6ad_11 : decode cJ1_canEncode_9a6ad 11 = .ok (.iconst 1, 1) := by decide +kernel
theorem dJ1_canEncode_9a6ad_12 : decode cJ1_canEncode_9a6ad 12 = .ok (.goto 4, 3) := by decide +kernel
theorem dJ1_canEncode_9a6ad_15 : decode cJ1_canEncode_9a6ad 15 = .ok (.iconst 0, 1) := by decide +kernel
theorem dJ1_canEncode_9a6ad_16 : decode cJ1_canEncode_9a6ad 16 = .ok (.ireturn, 1) := by decide +kernel
theorem dJ1_indexOf_4cfef_0 : decode cJ1_indexOf_4cfef 0 = .ok (.iload_n 1, 1) := by decide +kernel
theorem dJ1_indexOf_4cfef_1 : decode cJ1_indexOf_4cfef 1 = .ok (.invokestatic 88, 3) := by decide +kernel
theorem dJ1_indexOf_4cfef_4 : decode cJ1_indexOf_4cfef 4 = .ok (.ifCond .ne 5, 3) := by decide +kernel
theorem dJ1_indexOf_4cfef_7 : decode cJ1_indexOf_4cfef 7 = .ok (.iconst (-1), 1) := by decide +kernel
theorem dJ1_indexOf_4cfef_8 : decode cJ1_indexOf_4cfef 8 = .ok (.ireturn, 1) := by decide +kernel
theorem dJ1_indexOf_4cfef_9 : decode cJ1_indexOf_4cfef 9 = .ok (.iload_n 2, 1) := by decide +kernel
theorem dJ1_indexOf_4cfef_10 : decode cJ1_indexOf_4cfef 10 = .ok (.iconst 0, 1) := by decide +kernel
theorem dJ1_indexOf_4cfef_11 : decode cJ1_indexOf_4cfef 11 = .ok (.invokestatic 92, 3) := by decide +kernel
theorem dJ1_indexOf_4cfef_14 : decode cJ1_indexOf_4cfef 14 = .ok (.istore_n 2, 1) := by decide +kernel
theorem dJ1_indexOf_4cfef_15 : decode cJ1_indexOf_4cfef 15 = .ok (.iload_n 3, 1) := by decide +kernel
theorem dJ1_indexOf_4cfef_16 : decode cJ1_indexOf_4cfef 16 = .ok (.aload_n 0, 1) := by decide +kernel
theorem dJ1_indexOf_4cfef_17 : decode cJ1_indexOf_4cfef 17 = .ok (.arraylength, 1) := by decide +kernel
theorem dJ1_indexOf_4cfef_18 : decode cJ1_indexOf_4cfef 18 = .ok (.invokestatic 38, 3) := by decide +kernel
theorem dJ1_indexOf_4cfef_21 : decode cJ1_indexOf_4cfef 21 = .ok (.istore_n 3, 1) := by decide +kernel
theorem dJ1_indexOf_4cfef_22 : decode cJ1_indexOf_4cfef 22 = .ok (.iload_n 2, 1) := by decide +kernel
theorem dJ1_indexOf_4cfef_23 : decode cJ1_indexOf_4cfef 23 = .ok (.iload_n 3, 1) := by decide +kernel
theorem dJ1_indexOf_4cfef_24 : decode cJ1_indexOf_4cfef 24 = .ok (.if_icmp .lt 5, 3) := by decide +kernel
theorem dJ1_indexOf_4cfef_27 : decode cJ1_indexOf_4cfef 27 = .ok (.iconst (-1), 1) := by decide +kernel
theorem dJ1_indexOf_4cfef_28 : decode cJ1_indexOf_4cfef 28 = .ok (.ireturn, 1) := by decide +kernel
theorem dJ1_indexOf_4cfef_29 : decode cJ1_indexOf_4cfef 29 = .ok (.aload_n 0, 1) := by decide +kernel
theorem dJ1_indexOf_4cfef_30 : decode cJ1_indexOf_4cfef 30 = .ok (.iload_n 1, 1) := by decide +kernel
theorem dJ1_indexOf_4cfef_31 : decode cJ1_indexOf_4cfef 31 = .ok (.iload_n 2, 1) := by decide +kernel
theorem dJ1_indexOf_4cfef_32 : decode cJ1_indexOf_4cfef 32 = .ok (.iload_n 3, 1) := by decide +kernel
theorem dJ1_indexOf_4cfef_33 : decode cJ1_indexOf_4cfef 33 = .ok (.invokestatic 95, 3) := by decide +kernel
theorem dJ1_indexOf_4cfef_36 : decode cJ1_indexOf_4cfef 36 = .ok (.ireturn, 1) := by decide +kernel
theorem dJ1_indexOfChar_4cfef_0 : decode cJ1_indexOfChar_4cfef 0 = .ok (.iload_n 1, 1) := by decide +kernel
theorem dJ1_indexOfChar_4cfef_1 : decode cJ1_indexOfChar_4cfef 1 = .ok (.i2b, 1) := by decide +kernel
theorem dJ1_indexOfChar_4cfef_2 : decode cJ1_indexOfChar_4cfef 2 = .ok (.istore 4, 2) := by decide +kernel
theorem dJ1_indexOfChar_4cfef_4 : decode cJ1_indexOfChar_4cfef 4 = .ok (.iload_n 2, 1) := by decide +kernel
theorem dJ1_indexOfChar_4cfef_5 : decode cJ1_indexOfChar_4cfef 5 = .ok (.istore 5, 2) := by decide +kernel
theorem dJ1_indexOfChar_4cfef_7 : decode cJ1_indexOfChar_4cfef 7 = .ok (.iload 5, 2) := by decide +kernel
theorem dJ1_indexOfChar_4cfef_9 : decode cJ1_indexOfChar_4cfef 9 = .ok (.iload_n 3, 1) := by decide +kernel
theorem dJ1_indexOfChar_4cfef_10 : decode cJ1_indexOfChar_4cfef 10 = .ok (.if_icmp .ge 21, 3) := by decide +kernel
theorem dJ1_indexOfChar_4cfef_13 : decode cJ1_indexOfChar_4cfef 13 = .ok (.aload_n 0, 1) := by decide +kernel
theorem dJ1_indexOfChar_4cfef_14 : decode cJ1_indexOfChar_4cfef 14 = .ok (.iload 5, 2) := by decide +kernel
theorem dJ1_indexOfChar_4cfef_16 : decode cJ1_indexOfChar_4cfef 16 = .ok (.baload, 1) := by decide +kernel
theorem dJ1_indexOfChar_4cfef_17 : decode cJ1_indexOfChar_4cfef 17 = .ok (.iload 4, 2) := by decide +kernel
theorem dJ1_indexOfChar_4cfef_19 : decode cJ1_indexOfChar_4cfef 19 = .ok (.if_icmp .ne 6, 3) := by decide +kernel
theorem dJ1_indexOfChar_4cfef_22 : decode cJ1_indexOfChar_4cfef 22 = .ok (.iload 5, 2) := by decide +kernel
theorem dJ1_indexOfChar_4cfef_24 : decode cJ1_indexOfChar_4cfef 24 = .ok (.ireturn, 1) := by decide +kernel
theorem dJ1_indexOfChar_4cfef_25 : decode cJ1_indexOfChar_4cfef 25 = .ok (.iinc 5 1, 3) := by decide +kernel
theorem dJ1_indexOfChar_4cfef_28 : decode cJ1_indexOfChar_4cfef 28 = .ok (.goto (-21), 3) := by decide +kernel
theorem dJ1_indexOfChar_4cfef_31 : decode cJ1_indexOfChar_4cfef 31 = .ok (.iconst (-1), 1) := by decide +kernel
theorem dJ1_indexOfChar_4cfef_32 : decode cJ1_indexOfChar_4cfef 32 = .ok (.ireturn, 1) := by decide +kernel
theorem dJ2_getChar_3b067_0 : decode cJ2_getChar_3b067 0 = .ok (.getstatic 44, 3) := by decide +kernel
theorem dJ2_getChar_3b067_3 : decode cJ2_getChar_3b067 3 = .ok (.ifCond .ne 25, 3) := by decide +kernel
theorem dJ2_getChar_3b067_6 : decode cJ2_getChar_3b067 6 = .ok (.iload_n 1, 1) := by decide +kernel
theorem dJ2_getChar_3b067_7 : decode cJ2_getChar_3b067 7 = .ok (.ifCond .lt 11, 3) := by decide +kernel
theorem dJ2_getChar_3b067_10 : decode cJ2_getChar_3b067 10 = .ok (.iload_n 1, 1) := by decide +kernel
theorem dJ2_getChar_3b067_11 : decode cJ2_getChar_3b067 11 = .ok (.aload_n 0, 1) := by decide +kernel
theorem dJ2_getChar_3b067_12 : decode cJ2_getChar_3b067 12 = .ok (.invokestatic 48, 3) := by decide +kernel
theorem dJ2_getChar_3b067_15 : decode cJ2_getChar_3b067 15 = .ok (.if_icmp .lt 13, 3) := by decide +kernel
theorem dJ2_getChar_3b067_18 : decode cJ2_getChar_3b067 18 = .ok (.new 52, 3) := by decide +kernel
theorem dJ2_getChar_3b067_21 : decode cJ2_getChar_3b067 21 = .ok (.dup, 1) := by decide +kernel
theorem dJ2_getChar_3b067_22 : decode cJ2_getChar_3b067 22 = .ok (.ldc 54, 2) := by decide +kernel
theorem dJ2_getChar_3b067_24 : decode cJ2_getChar_3b067 24 = .ok (.invokespecial 56, 3) := by decide +kernel
theorem dJ2_getChar_3b067_27 : decode cJ2_getChar_3b067 27 = .ok (.athrow, 1) := by decide +kernel
theorem dJ2_getChar_3b067_28 : decode cJ2_getChar_3b067 28 = .ok (.iload_n 1, 1) := by decide +kernel
theorem dJ2_getChar_3b067_29 : decode cJ2_getChar_3b067 29 = .ok (.iconst 1, 1) := by decide +kernel
theorem dJ2_getChar_3b067_30 : decode cJ2_getChar_3b067 30 = .ok (.ishl, 1) := by decide +kernel
theorem dJ2_getChar_3b067_31 : decode cJ2_getChar_3b067 31 = .ok (.istore_n 1, 1) := by decide +kernel
theorem dJ2_getChar_3b067_32 : decode cJ2_getChar_3b067 32 = .ok (.aload_n 0, 1) := by decide +kernel
theorem dJ2_getChar_3b067_33 : decode cJ2_getChar_3b067 33 = .ok (.iload_n 1, 1) := by decide +kernel
theorem dJ2_getChar_3b067_34 : decode cJ2_getChar_3b067 34 = .ok (.iinc 1 1, 3) := by decide +kernel
theorem dJ2_getChar_3b067_37 : decode cJ2_getChar_3b067 37 = .ok (.baload, 1) := by decide +kernel
theorem dJ2_getChar_3b067_38 : decode cJ2_getChar_3b067 38 = .ok (.sipush 255, 3) := by decide +kernel
theorem dJ2_getChar_3b067_41 : decode cJ2_getChar_3b067 41 = .ok (.iand, 1) := by decide +kernel
theorem dJ2_getChar_3b067_42 : decode cJ2_getChar_3b067 42 = .ok (.getstatic 59, 3) := by decide +kernel
theorem dJ2_getChar_3b067_45 : decode cJ2_getChar_3b067 45 = .ok (.ishl, 1) := by decide +kernel
theorem dJ2_getChar_3b067_46 : decode cJ2_getChar_3b067 46 = .ok (.aload_n 0, 1) := by decide +kernel
theorem dJ2_getChar_3b067_47 : decode cJ2_getChar_3b067 47 = .ok (.iload_n 1, 1) := by decide +kernel
theorem dJ2_getChar_3b067_48 : decode cJ2_getChar_3b067 48 = .ok (.baload, 1) := by decide +kernel
theorem dJ2_getChar_3b067_49 : decode cJ2_getChar_3b067 49 = .ok (.sipush 255, 3) := by decide +kernel
theorem dJ2_getChar_3b067_52 : decode cJ2_getChar_3b067 52 = .ok (.iand, 1) := by decide +kernel
theorem dJ2_getChar_3b067_53 : decode cJ2_getChar_3b067 53 = .ok (.getstatic 63, 3) := by decide +kernel
theorem dJ2_getChar_3b067_56 : decode cJ2_getChar_3b067 56 = .ok (.ishl, 1) := by decide +kernel
theorem dJ2_getChar_3b067_57 : decode cJ2_getChar_3b067 57 = .ok (.ior, 1) := by decide +kernel
theorem dJ2_getChar_3b067_58 : decode cJ2_getChar_3b067 58 = .ok (.i2c, 1) := by decide +kernel
theorem dJ2_getChar_3b067_59 : decode cJ2_getChar_3b067 59 = .ok (.ireturn, 1) := by decide +kernel
theorem dJ2_length_9d52b_0 : decode cJ2_length_9d52b 0 = .ok (.aload_n 0, 1) := by decide +kernel
theorem dJ2_length_9d52b_1 : decode cJ2_length_9d52b 1 = .ok (.arraylength, 1) := by decide +kernel
theorem dJ2_length_9d52b_2 : decode cJ2_length_9d52b 2 = .ok (.iconst 1, 1) := by decide +kernel
theorem dJ2_length_9d52b_3 : decode cJ2_length_9d52b 3 = .ok (.ishr, 1) := by decide +kernel
theorem dJ2_length_9d52b_4 : decode cJ2_length_9d52b 4 = .ok (.ireturn, 1) := by decide +kernel
theorem dJ2_indexOf_4cfef_0 : decode cJ2_indexOf_4cfef 0 = .ok (.iload_n 2, 1) := by decide +kernel
theorem dJ2_indexOf_4cfef_1 : decode cJ2_indexOf_4cfef 1 = .ok (.iconst 0, 1) := by decide +kernel
theorem dJ2_indexOf_4cfef_2 : decode cJ2_indexOf_4cfef 2 = .ok (.invokestatic 224, 3) := by decide +kernel
theorem dJ2_indexOf_4cfef_5 : decode cJ2_indexOf_4cfef 5 = .ok (.istore_n 2, 1) := by decide +kernel
theorem dJ2_indexOf_4cfef_6 : decode cJ2_indexOf_4cfef 6 = .ok (.iload_n 3, 1) := by decide +kernel
theorem dJ2_indexOf_4cfef_7 : decode cJ2_indexOf_4cfef 7 = .ok (.aload_n 0, 1) := by decide +kernel
theorem dJ2_indexOf_4cfef_8 : decode cJ2_indexOf_4cfef 8 = .ok (.arraylength, 1) := by decide +kernel
theorem dJ2_indexOf_4cfef_9 : decode cJ2_indexOf_4cfef 9 = .ok (.iconst 1, 1) := by decide +kernel
theorem dJ2_indexOf_4cfef_10 : decode cJ2_indexOf_4cfef 10 = .ok (.ishr, 1) := by decide +kernel
theorem dJ2_indexOf_4cfef_11 : decode cJ2_indexOf_4cfef 11 = .ok (.invokestatic 183, 3) := by decide +kernel
theorem dJ2_indexOf_4cfef_14 : decode cJ2_indexOf_4cfef 14 = .ok (.istore_n 3, 1) := by decide +kernel
theorem dJ2_indexOf_4cfef_15 : decode cJ2_indexOf_4cfef 15 = .ok (.iload_n 2, 1) := by decide +kernel
theorem dJ2_indexOf_4cfef_16 : decode cJ2_indexOf_4cfef 16 = .ok (.iload_n 3, 1) := by decide +kernel
theorem dJ2_indexOf_4cfef_17 : decode cJ2_indexOf_4cfef 17 = .ok (.if_icmp .lt 5, 3) := by decide +kernel
theorem dJ2_indexOf_4cfef_20 : decode cJ2_indexOf_4cfef 20 = .ok (.iconst (-1), 1) := by decide +kernel
theorem dJ2_indexOf_4cfef_21 : decode cJ2_indexOf_4cfef 21 = .ok (.ireturn, 1) := by decide +kernel
theorem dJ2_indexOf_4cfef_22 : decode cJ2_indexOf_4cfef 22 = .ok (.iload_n 1, 1) := by decide +kernel
theorem dJ2_indexOf_4cfef_23 : decode cJ2_indexOf_4cfef 23 = .ok (.ldc 227, 2) := by decide +kernel
theorem dJ2_indexOf_4cfef_25 : decode cJ2_indexOf_4cfef 25 = .ok (.if_icmp .ge 11, 3) := by decide +kernel
theorem dJ2_indexOf_4cfef_28 : decode cJ2_indexOf_4cfef 28 = .ok (.aload_n 0, 1) := by decide +kernel
theorem dJ2_indexOf_4cfef_29 : decode cJ2_indexOf_4cfef 29 = .ok (.iload_n 1, 1) := by decide +kernel
theorem dJ2_indexOf_4cfef_30 : decode cJ2_indexOf_4cfef 30 = .ok (.iload_n 2, 1) := by decide +kernel
theorem dJ2_indexOf_4cfef_31 : decode cJ2_indexOf_4cfef 31 = .ok (.iload_n 3, 1) := by decide +kernel
theorem dJ2_indexOf_4cfef_32 : decode cJ2_indexOf_4cfef 32 = .ok (.invokestatic 228, 3) := by decide +kernel
theorem dJ2_indexOf_4cfef_35 : decode cJ2_indexOf_4cfef 35 = .ok (.ireturn, 1) := by decide +kernel
theorem dJ2_indexOf_4cfef_36 : decode cJ2_indexOf_4cfef 36 = .ok (.aload_n 0, 1) := by decide +kernel
theorem dJ2_indexOf_4cfef_37 : decode cJ2_indexOf_4cfef 37 = .ok (.iload_n 1, 1) := by decide +kernel
theorem dJ2_indexOf_4cfef_38 : decode cJ2_indexOf_4cfef 38 = .ok (.iload_n 2, 1) := by decide +kernel
theorem dJ2_indexOf_4cfef_39 : decode cJ2_indexOf_4cfef 39 = .ok (.iload_n 3, 1) := by decide +kernel
theorem dJ2_indexOf_4cfef_40 : decode cJ2_indexOf_4cfef 40 = .ok (.invokestatic 232, 3) := by decide +kernel
theorem dJ2_indexOf_4cfef_43 : decode cJ2_indexOf_4cfef 43 = .ok (.ireturn, 1) := by decide +kernel
theorem dJ2_indexOfChar_4cfef_0 : decode cJ2_indexOfChar_4cfef 0 = .ok (.iload_n 2, 1) := by decide +kernel
theorem dJ2_indexOfChar_4cfef_1 : decode cJ2_indexOfChar_4cfef 1 = .ok (.iload_n 3, 1) := by decide +kernel
theorem dJ2_indexOfChar_4cfef_2 : decode cJ2_indexOfChar_4cfef 2 = .ok (.aload_n 0, 1) := by decide +kernel
theorem dJ2_indexOfChar_4cfef_3 : decode cJ2_indexOfChar_4cfef 3 = .ok (.invokestatic 96, 3) := by decide +kernel
theorem dJ2_indexOfChar_4cfef_6 : decode cJ2_indexOfChar_4cfef 6 = .ok (.aload_n 0, 1) := by decide +kernel
theorem dJ2_indexOfChar_4cfef_7 : decode cJ2_indexOfChar_4cfef 7 = .ok (.iload_n 1, 1) := by decide +kernel
theorem dJ2_indexOfChar_4cfef_8 : decode cJ2_indexOfChar_4cfef 8 = .ok (.iload_n 2, 1) := by decide +kernel
theorem dJ2_indexOfChar_4cfef_9 : decode cJ2_indexOfChar_4cfef 9 = .ok (.iload_n 3, 1) := by decide +kernel
theorem dJ2_indexOfChar_4cfef_10 : decode cJ2_indexOfChar_4cfef 10 = .ok (.invokestatic 244, 3) := by decide +kernel
theorem dJ2_indexOfChar_4cfef_13 : decode cJ2_indexOfChar_4cfef 13 = .ok (.ireturn, 1) := by decide +kernel
theorem dJ2_indexOfCharUnsafe_4cfef_0 : decode cJ2_indexOfCharUnsafe_4cfef 0 = .ok (.iload_n 2, 1) := by decide +kernel
theorem dJ2_indexOfCharUnsafe_4cfef_1 : decode cJ2_indexOfCharUnsafe_4cfef 1 = .ok (.istore 4, 2) := by decide +kernel
theorem dJ2_indexOfCharUnsafe_4cfef_3 : decode cJ2_indexOfCharUnsafe_4cfef 3 = .ok (.iload 4, 2) := by decide +kernel
theorem dJ2_indexOfCharUnsafe_4cfef_5 : decode cJ2_indexOfCharUnsafe_4cfef 5 = .ok (.iload_n 3, 1) := by decide +kernel
theorem dJ2_indexOfCharUnsafe_4cfef_6 : decode cJ2_indexOfCharUnsafe_4cfef 6 = .ok (.if_icmp .ge 22, 3) := by decide +kernel
theorem dJ2_indexOfCharUnsafe_4cfef_9 : decode cJ2_indexOfCharUnsafe_4cfef 9 = .ok (.aload_n 0, 1) := by decide +kernel
theorem dJ2_indexOfCharUnsafe_4cfef_10 : decode cJ2_indexOfCharUnsafe_4cfef 10 = .ok (.iload 4, 2) := by decide +kernel
theorem dJ2_indexOfCharUnsafe_4cfef_12 : decode cJ2_indexOfCharUnsafe_4cfef 12 = .ok (.invokestatic 71, 3) := by decide +kernel
theorem dJ2_indexOfCharUnsafe_4cfef_15 : decode cJ2_indexOfCharUnsafe_4cfef 15 = .ok (.iload_n 1, 1) := by decide +kernel
theorem dJ2_indexOfCharUnsafe_4cfef_16 : decode cJ2_indexOfCharUnsafe_4cfef 16 = .ok (.if_icmp .ne 6, 3) := by decide +kernel
theorem dJ2_indexOfCharUnsafe_4cfef_19 : decode cJ2_indexOfCharUnsafe_4cfef 19 = .ok (.iload 4, 2) := by decide +kernel
theorem dJ2_indexOfCharUnsafe_4cfef_21 : decode cJ2_indexOfCharUnsafe_4cfef 21 = .ok (.ireturn, 1) := by decide +kernel
theorem dJ2_indexOfCharUnsafe_4cfef_22 : decode cJ2_indexOfCharUnsafe_4cfef 22 = .ok (.iinc 4 1, 3) := by decide +kernel
theorem dJ2_indexOfCharUnsafe_4cfef_25 : decode cJ2_indexOfCharUnsafe_4cfef 25 = .ok (.goto (-22), 3) := by decide +kernel
theorem dJ2_indexOfCharUnsafe_4cfef_28 : decode cJ2_indexOfCharUnsafe_4cfef 28 = .ok (.iconst (-1), 1) := by decide +kernel
theorem dJ2_indexOfCharUnsafe_4cfef_29 : decode cJ2_indexOfCharUnsafe_4cfef 29 = .ok (.ireturn, 1) := by decide +kernel
theorem dJ2_indexOfSupplementary_4cfef_0 : decode cJ2_indexOfSupplementary_4cfef 0 = .ok (.iload_n 1, 1) := by decide +kernel
theorem dJ2_indexOfSupplementary_4cfef_1 : decode cJ2_indexOfSupplementary_4cfef 1 = .ok (.invokestatic 164, 3) := by decide +kernel
theorem dJ2_indexOfSupplementary_4cfef_4 : decode cJ2_indexOfSupplementary_4cfef 4 = .ok (.ifCond .eq 65, 3) := by decide +kernel
theorem dJ2_indexOfSupplementary_4cfef_7 : decode cJ2_indexOfSupplementary_4cfef 7 = .ok (.iload_n 1, 1) := by decide +kernel
theorem dJ2_indexOfSupplementary_4cfef_8 : decode cJ2_indexOfSupplementary_4cfef 8 = .ok (.invokestatic 157, 3) := by decide +kernel
theorem dJ2_indexOfSupplementary_4cfef_11 : decode cJ2_indexOfSupplementary_4cfef 11 = .ok (.istore 4, 2) := by decide +kernel
theorem dJ2_indexOfSupplementary_4cfef_13 : decode cJ2_indexOfSupplementary_4cfef 13 = .ok (.iload_n 1, 1) := by decide +kernel
theorem dJ2_indexOfSupplementary_4cfef_14 : decode cJ2_indexOfSupplementary_4cfef 14 = .ok (.invokestatic 161, 3) := by decide +kernel
theorem dJ2_indexOfSupplementary_4cfef_17 : decode cJ2_indexOfSupplementary_4cfef 17 = .ok (.istore 5, 2) := by decide +kernel
theorem dJ2_indexOfSupplementary_4cfef_19 : decode cJ2_indexOfSupplementary_4cfef 19 = .ok (.iload_n 2, 1) := by decide +kernel
theorem dJ2_indexOfSupplementary_4cfef_20 : decode cJ2_indexOfSupplementary_4cfef 20 = .ok (.iload_n 3, 1) := by decide +kernel
theorem dJ2_indexOfSupplementary_4cfef_21 : decode cJ2_indexOfSupplementary_4cfef 21 = .ok (.aload_n 0, 1) := by decide +kernel
theorem dJ2_indexOfSupplementary_4cfef_22 : decode cJ2_indexOfSupplementary_4cfef 22 = .ok (.invokestatic 96, 3) := by decide +kernel
theorem dJ2_indexOfSupplementary_4cfef_25 : decode cJ2_indexOfSupplementary_4cfef 25 = .ok (.iload_n 2, 1) := by decide +kernel
theorem dJ2_indexOfSupplementary_4cfef_26 : decode cJ2_indexOfSupplementary_4cfef 26 = .ok (.istore 6, 2) := by decide +kernel
theorem dJ2_indexOfSupplementary_4cfef_28 : decode cJ2_indexOfSupplementary_4cfef 28 = .ok (.iload 6, 2) := by decide +kernel
theorem dJ2_indexOfSupplementary_4cfef_30 : decode cJ2_indexOfSupplementary_4cfef 30 = .ok (.iload_n 3, 1) := by decide +kernel
theorem dJ2_indexOfSupplementary_4cfef_31 : decode cJ2_indexOfSupplementary_4cfef 31 = .ok (.iconst 1, 1) := by decide +kernel
theorem dJ2_indexOfSupplementary_4cfef_32 : decode cJ2_indexOfSupplementary_4cfef 32 = .ok (.isub, 1) := by decide +kernel
theorem dJ2_indexOfSupplementary_4cfef_33 : decode cJ2_indexOfSupplementary_4cfef 33 = .ok (.if_icmp .ge 36, 3) := by decide +kernel
theorem dJ2_indexOfSupplementary_4cfef_36 : decode cJ2_indexOfSupplementary_4cfef 36 = .ok (.aload_n 0, 1) := by decide +kernel
theorem dJ2_indexOfSupplementary_4cfef_37 : decode cJ2_indexOfSupplementary_4cfef 37 = .ok (.iload 6, 2) := by decide +kernel
theorem dJ2_indexOfSupplementary_4cfef_39 : decode cJ2_indexOfSupplementary_4cfef 39 = .ok (.invokestatic 71, 3) := by decide +kernel
theorem dJ2_indexOfSupplementary_4cfef_42 : decode cJ2_indexOfSupplementary_4cfef 42 = .ok (.iload 4, 2) := by decide +kernel
theorem dJ2_indexOfSupplementary_4cfef_44 : decode cJ2_indexOfSupplementary_4cfef 44 = .ok (.if_icmp .ne 19, 3) := by decide +kernel
theorem dJ2_indexOfSupplementary_4cfef_47 : decode cJ2_indexOfSupplementary_4cfef 47 = .ok (.aload_n 0, 1) := by decide +kernel
theorem dJ2_indexOfSupplementary_4cfef_48 : decode cJ2_indexOfSupplementary_4cfef 48 = .ok (.iload 6, 2) := by decide +kernel
theorem dJ2_indexOfSupplementary_4cfef_50 : decode cJ2_indexOfSupplementary_4cfef 50 = .ok (.iconst 1, 1) := by decide +kernel
theorem dJ2_indexOfSupplementary_4cfef_51 : decode cJ2_indexOfSupplementary_4cfef 51 = .ok (.iadd, 1) := by decide +kernel
theorem dJ2_indexOfSupplementary_4cfef_52 : decode cJ2_indexOfSupplementary_4cfef 52 = .ok (.invokestatic 71, 3) := by decide +kernel
theorem dJ2_indexOfSupplementary_4cfef_55 : decode cJ2_indexOfSupplementary_4cfef 55 = .ok (.iload 5, 2) := by decide +kernel
theorem dJ2_indexOfSupplementary_4cfef_57 : decode cJ2_indexOfSupplementary_4cfef 57 = .ok (.if_icmp .ne 6, 3) := by decide +kernel
theorem dJ2_indexOfSupplementary_4cfef_60 : decode cJ2_indexOfSupplementary_4cfef 60 = .ok (.iload 6, 2) := by decide +kernel
theorem dJ2_indexOfSupplementary_4cfef_62 : decode cJ2_indexOfSupplementary_4cfef 62 = .ok (.ireturn, 1) := by decide +kernel
theorem dJ2_indexOfSupplementary_4cfef_63 : decode cJ2_indexOfSupplementary_4cfef 63 = .ok (.iinc 6 1, 3) := by decide +kernel
theorem dJ2_indexOfSupplementary_4cfef_66 : decode cJ2_indexOfSupplementary_4cfef 66 = .ok (.goto (-38), 3) := by decide +kernel
theorem dJ2_indexOfSupplementary_4cfef_69 : decode cJ2_indexOfSupplementary_4cfef 69 = .ok (.iconst (-1), 1) := by decide +kernel
theorem dJ2_indexOfSupplementary_4cfef_70 : decode cJ2_indexOfSupplementary_4cfef 70 = .ok (.ireturn, 1) := by decide +kernel
theorem dJ2_checkBoundsBeginEnd_d044e_0 : decode cJ2_checkBoundsBeginEnd_d044e 0 = .ok (.iload_n 0, 1) := by decide +kernel
theorem dJ2_checkBoundsBeginEnd_d044e_1 : decode cJ2_checkBoundsBeginEnd_d044e 1 = .ok (.iload_n 1, 1) := by decide +kernel
theorem dJ2_checkBoundsBeginEnd_d044e_2 : decode cJ2_checkBoundsBeginEnd_d044e 2 = .ok (.aload_n 2, 1) := by decide +kernel
theorem dJ2_checkBoundsBeginEnd_d044e_3 : decode cJ2_checkBoundsBeginEnd_d044e 3 = .ok (.invokestatic 48, 3) := by decide +kernel
theorem dJ2_checkBoundsBeginEnd_d044e_6 : decode cJ2_checkBoundsBeginEnd_d044e 6 = .ok (.invokestatic 241, 3) := by decide +kernel
theorem dJ2_checkBoundsBeginEnd_d044e_9 : decode cJ2_checkBoundsBeginEnd_d044e 9 = .ok (.return_, 1) := by decide +kernel
theorem dJxa1e45_init_da8c8_0 : decode cJxa1e45_init_da8c8 0 = .ok (.aload_n 0, 1) := by decide +kernel
theorem dJxa1e45_init_da8c8_1 : decode cJxa1e45_init_da8c8 1 = .ok (.invokespecial 1, 3) := by decide +kernel
theorem dJxa1e45_init_da8c8_4 : decode cJxa1e45_init_da8c8 4 = .ok (.return_, 1) := by decide +kernel
theorem dJxc12de_init_da8c8_0 : decode cJxc12de_init_da8c8 0 = .ok (.aload_n 0, 1) := by decide +kernel
theorem dJxc12de_init_da8c8_1 : decode cJxc12de_init_da8c8 1 = .ok (.invokespecial 1, 3) := by decide +kernel
theorem dJxc12de_init_da8c8_4 : decode cJxc12de_init_da8c8 4 = .ok (.aload_n 0, 1) := by decide +kernel
theorem dJxc12de_init_da8c8_5 : decode cJxc12de_init_da8c8 5 = .ok (.iconst 0, 1) := by decide +kernel
theorem dJxc12de_init_da8c8_6 : decode cJxc12de_init_da8c8 6 = .ok (.putfield 7, 3) := by decide +kernel
theorem dJxc12de_init_da8c8_9 : decode cJxc12de_init_da8c8 9 = .ok (.return_, 1) := by decide +kernel
theorem dJx4a65c_init_da8c8_0 : decode cJx4a65c_init_da8c8 0 = .ok (.aload_n 0, 1) := by decide +kernel
theorem dJx4a65c_init_da8c8_1 : decode cJx4a65c_init_da8c8 1 = .ok (.invokespecial 1, 3) := by decide +kernel
theorem dJx4a65c_init_da8c8_4 : decode cJx4a65c_init_da8c8 4 = .ok (.aload_n 0, 1) := by decide +kernel
theorem dJx4a65c_init_da8c8_5 : decode cJx4a65c_init_da8c8 5 = .ok (.getstatic 39, 3) := by decide +kernel
theorem dJx4a65c_init_da8c8_8 : decode cJx4a65c_init_da8c8 8 = .ok (.putfield 9, 3) := by decide +kernel
theorem dJx4a65c_init_da8c8_11 : decode cJx4a65c_init_da8c8 11 = .ok (.return_, 1) := by decide +kernel
theorem dJx4a65c_grow_92f84_0 : decode cJx4a65c_grow_92f84 0 = .ok (.aload_n 0, 1) := by decide +kernel
theorem dJx4a65c_grow_92f84_1 : decode cJx4a65c_grow_92f84 1 = .ok (.getfield 9, 3) := by decide +kernel
theorem dJx4a65c_grow_92f84_4 : decode cJx4a65c_grow_92f84 4 = .ok (.arraylength, 1) := by decide +kernel
theorem dJx4a65c_grow_92f84_5 : decode cJx4a65c_grow_92f84 5 = .ok (.istore_n 2, 1) := by decide +kernel
theorem dJx4a65c_grow_92f84_6 : decode cJx4a65c_grow_92f84 6 = .ok (.iload_n 2, 1) := by decide +kernel
theorem dJx4a65c_grow_92f84_7 : decode cJx4a65c_grow_92f84 7 = .ok (.ifCond .gt 13, 3) := by decide +kernel
theorem dJx4a65c_grow_92f84_10 : decode cJx4a65c_grow_92f84 10 = .ok (.aload_n 0, 1) := by decide +kernel
theorem dJx4a65c_grow_92f84_11 : decode cJx4a65c_grow_92f84 11 = .ok (.getfield 9, 3) := by decide +kernel
theorem dJx4a65c_grow_92f84_14 : decode cJx4a65c_grow_92f84 14 = .ok (.getstatic 39, 3) := by decide +kernel
theorem dJx4a65c_grow_92f84_17 : decode cJx4a65c_grow_92f84 17 = .ok (.if_acmp .eq 28, 3) := by decide +kernel
theorem dJx4a65c_grow_92f84_20 : decode cJx4a65c_grow_92f84 20 = .ok (.iload_n 2, 1) := by decide +kernel
theorem dJx4a65c_grow_92f84_21 : decode cJx4a65c_grow_92f84 21 = .ok (.iload_n 1, 1) := by decide +kernel
theorem dJx4a65c_grow_92f84_22 : decode cJx4a65c_grow_92f84 22 = .ok (.iload_n 2, 1) := by decide +kernel
theorem dJx4a65c_grow_92f84_23 : decode cJx4a65c_grow_92f84 23 = .ok (.isub, 1) := by decide +kernel
theorem dJx4a65c_grow_92f84_24 : decode cJx4a65c_grow_92f84 24 = .ok (.iload_n 2, 1) := by decide +kernel
theorem dJx4a65c_grow_92f84_25 : decode cJx4a65c_grow_92f84 25 = .ok (.iconst 1, 1) := by decide +kernel
theorem dJx4a65c_grow_92f84_26 : decode cJx4a65c_grow_92f84 26 = .ok (.ishr, 1) := by decide +kernel
theorem dJx4a65c_grow_92f84_27 : decode cJx4a65c_grow_92f84 27 = .ok (.invokestatic 73, 3) := by decide +kernel
theorem dJx4a65c_grow_92f84_30 : decode cJx4a65c_grow_92f84 30 = .ok (.istore_n 3, 1) := by decide +kernel
theorem dJx4a65c_grow_92f84_31 : decode cJx4a65c_grow_92f84 31 = .ok (.aload_n 0, 1) := by decide +kernel
theorem dJx4a65c_grow_92f84_32 : decode cJx4a65c_grow_92f84 32 = .ok (.aload_n 0, 1) := by decide +kernel
theorem dJx4a65c_grow_92f84_33 : decode cJx4a65c_grow_92f84 33 = .ok (.getfield 9, 3) := by decide +kernel
theorem dJx4a65c_grow_92f84_36 : decode cJx4a65c_grow_92f84 36 = .ok (.iload_n 3, 1) := by decide +kernel
theorem dJx4a65c_grow_92f84_37 : decode cJx4a65c_grow_92f84 37 = .ok (.invokestatic 66, 3) := by decide +kernel
theorem dJx4a65c_grow_92f84_40 : decode cJx4a65c_grow_92f84 40 = .ok (.dup_x1, 1) := by decide +kernel
theorem dJx4a65c_grow_92f84_41 : decode cJx4a65c_grow_92f84 41 = .ok (.putfield 9, 3) := by decide +kernel
theorem dJx4a65c_grow_92f84_44 : decode cJx4a65c_grow_92f84 44 = .ok (.areturn, 1) := by decide +kernel
theorem dJx4a65c_grow_92f84_45 : decode cJx4a65c_grow_92f84 45 = .ok (.aload_n 0, 1) := by decide +kernel
theorem dJx4a65c_grow_92f84_46 : decode cJx4a65c_grow_92f84 46 = .ok (.bipush 10, 2) := by decide +kernel
theorem dJx4a65c_grow_92f84_48 : decode cJx4a65c_grow_92f84 48 = .ok (.iload_n 1, 1) := by decide +kernel
theorem dJx4a65c_grow_92f84_49 : decode cJx4a65c_grow_92f84 49 = .ok (.invokestatic 79, 3) := by decide +kernel
theorem dJx4a65c_grow_92f84_52 : decode cJx4a65c_grow_92f84 52 = .ok (.anewarray 7, 3) := by decide +kernel
theorem dJx4a65c_grow_92f84_55 : decode cJx4a65c_grow_92f84 55 = .ok (.dup_x1, 1) := by decide +kernel
theorem dJx4a65c_grow_92f84_56 : decode cJx4a65c_grow_92f84 56 = .ok (.putfield 9, 3) := by decide +kernel
theorem dJx4a65c_grow_92f84_59 : decode cJx4a65c_grow_92f84 59 = .ok (.areturn, 1) := by decide +kernel
theorem dJx4a65c_grow_d5877_0 : decode cJx4a65c_grow_d5877 0 = .ok (.aload_n 0, 1) := by decide +kernel
theorem dJx4a65c_grow_d5877_1 : decode cJx4a65c_grow_d5877 1 = .ok (.aload_n 0, 1) := by decide +kernel
theorem dJx4a65c_grow_d5877_2 : decode cJx4a65c_grow_d5877 2 = .ok (.getfield 48, 3) := by decide +kernel
theorem dJx4a65c_grow_d5877_5 : decode cJx4a65c_grow_d5877 5 = .ok (.iconst 1, 1) := by decide +kernel
theorem dJx4a65c_grow_d5877_6 : decode cJx4a65c_grow_d5877 6 = .ok (.iadd, 1) := by decide +kernel
theorem dJx4a65c_grow_d5877_7 : decode cJx4a65c_grow_d5877 7 = .ok (.invokevirtual 69, 3) := by decide +kernel
theorem dJx4a65c_grow_d5877_10 : decode cJx4a65c_grow_d5877 10 = .ok (.areturn, 1) := by decide +kernel
theorem dJx4a65c_size_8abf5_0 : decode cJx4a65c_size_8abf5 0 = .ok (.aload_n 0, 1) := by decide +kernel
theorem dJx4a65c_size_8abf5_1 : decode cJx4a65c_size_8abf5 1 = .ok (.getfield 48, 3) := by decide +kernel
theorem dJx4a65c_size_8abf5_4 : decode cJx4a65c_size_8abf5 4 = .ok (.ireturn, 1) := by decide +kernel
theorem dJx4a65c_elementData_915e3_0 : decode cJx4a65c_elementData_915e3 0 = .ok (.aload_n 0, 1) := by decide +kernel
theorem dJx4a65c_elementData_915e3_1 : decode cJx4a65c_elementData_915e3 1 = .ok (.getfield 9, 3) := by decide +kernel
theorem dJx4a65c_elementData_915e3_4 : decode cJx4a65c_elementData_915e3 4 = .ok (.iload_n 1, 1) := by decide +kernel
theorem dJx4a65c_elementData_915e3_5 : decode cJx4a65c_elementData_915e3 5 = .ok (.aaload, 1) := by decide +kernel
theorem dJx4a65c_elementData_915e3_6 : decode cJx4a65c_elementData_915e3 6 = .ok (.areturn, 1) := by decide +kernel
theorem dJx4a65c_get_915e3_0 : decode cJx4a65c_get_915e3 0 = .ok (.iload_n 1, 1) := by decide +kernel
theorem dJx4a65c_get_915e3_1 : decode cJx4a65c_get_915e3 1 = .ok (.aload_n 0, 1) := by decide +kernel
theorem dJx4a65c_get_915e3_2 : decode cJx4a65c_get_915e3 2 = .ok (.getfield 48, 3) := by decide +kernel
theorem dJx4a65c_get_915e3_5 : decode cJx4a65c_get_915e3 5 = .ok (.invokestatic 118, 3) := by decide +kernel
theorem dJx4a65c_get_915e3_8 : decode cJx4a65c_get_915e3 8 = .ok (.pop, 1) := by decide +kernel
theorem dJx4a65c_get_915e3_9 : decode cJx4a65c_get_915e3 9 = .ok (.aload_n 0, 1) := by decide +kernel
theorem dJx4a65c_get_915e3_10 : decode cJx4a65c_get_915e3 10 = .ok (.iload_n 1, 1) := by decide +kernel
theorem dJx4a65c_get_915e3_11 : decode cJx4a65c_get_915e3 11 = .ok (.invokevirtual 123, 3) := by decide +kernel
theorem dJx4a65c_get_915e3_14 : decode cJx4a65c_get_915e3 14 = .ok (.areturn, 1) := by decide +kernel
theorem dJx4a65c_add_72be8_0 : decode cJx4a65c_add_72be8 0 = .ok (.iload_n 3, 1) := by decide +kernel
theorem dJx4a65c_add_72be8_1 : decode cJx4a65c_add_72be8 1 = .ok (.aload_n 2, 1) := by decide +kernel
theorem dJx4a65c_add_72be8_2 : decode cJx4a65c_add_72be8 2 = .ok (.arraylength, 1) := by decide +kernel
theorem dJx4a65c_add_72be8_3 : decode cJx4a65c_add_72be8 3 = .ok (.if_icmp .ne 8, 3) := by decide +kernel
theorem dJx4a65c_add_72be8_6 : decode cJx4a65c_add_72be8 6 = .ok (.aload_n 0, 1) := by decide +kernel
theorem dJx4a65c_add_72be8_7 : decode cJx4a65c_add_72be8 7 = .ok (.invokevirtual 129, 3) := by decide +kernel
theorem dJx4a65c_add_72be8_10 : decode cJx4a65c_add_72be8 10 = .ok (.astore_n 2, 1) := by decide +kernel
theorem dJx4a65c_add_72be8_11 : decode cJx4a65c_add_72be8 11 = .ok (.aload_n 2, 1) := by decide +kernel
theorem dJx4a65c_add_72be8_12 : decode cJx4a65c_add_72be8 12 = .ok (.iload_n 3, 1) := by decide +kernel
theorem dJx4a65c_add_72be8_13 : decode cJx4a65c_add_72be8 13 = .ok (.aload_n 1, 1) := by decide +kernel
theorem dJx4a65c_add_72be8_14 : decode cJx4a65c_add_72be8 14 = .ok (.aastore, 1) := by decide +kernel
theorem dJx4a65c_add_72be8_15 : decode cJx4a65c_add_72be8 15 = .ok (.aload_n 0, 1) := by decide +kernel
theorem dJx4a65c_add_72be8_16 : decode cJx4a65c_add_72be8 16 = .ok (.iload_n 3, 1) := by decide +kernel
theorem dJx4a65c_add_72be8_17 : decode cJx4a65c_add_72be8 17 = .ok (.iconst 1, 1) := by decide +kernel
theorem dJx4a65c_add_72be8_18 : decode cJx4a65c_add_72be8 18 = .ok (.iadd, 1) := by decide +kernel
theorem dJx4a65c_add_72be8_19 : decode cJx4a65c_add_72be8 19 = .ok (.putfield 48, 3) := by decide +kernel
theorem dJx4a65c_add_72be8_22 : decode cJx4a65c_add_72be8 22 = .ok (.return_, 1) := by decide +kernel
theorem dJx4a65c_add_9ea2d_0 : decode cJx4a65c_add_9ea2d 0 = .ok (.aload_n 0, 1) := by decide +kernel
theorem dJx4a65c_add_9ea2d_1 : decode cJx4a65c_add_9ea2d 1 = .ok (.dup, 1) := by decide +kernel
theorem dJx4a65c_add_9ea2d_2 : decode cJx4a65c_add_9ea2d 2 = .ok (.getfield 63, 3) := by decide +kernel
theorem dJx4a65c_add_9ea2d_5 : decode cJx4a65c_add_9ea2d 5 = .ok (.iconst 1, 1) := by decide +kernel
theorem dJx4a65c_add_9ea2d_6 : decode cJx4a65c_add_9ea2d 6 = .ok (.iadd, 1) := by decide +kernel
theorem dJx4a65c_add_9ea2d_7 : decode cJx4a65c_add_9ea2d 7 = .ok (.putfield 63, 3) := by decide +kernel
theorem dJx4a65c_add_9ea2d_10 : decode cJx4a65c_add_9ea2d 10 = .ok (.aload_n 0, 1) := by decide +kernel
theorem dJx4a65c_add_9ea2d_11 : decode cJx4a65c_add_9ea2d 11 = .ok (.aload_n 1, 1) := by decide +kernel
theorem dJx4a65c_add_9ea2d_12 : decode cJx4a65c_add_9ea2d 12 = .ok (.aload_n 0, 1) := by decide +kernel
theorem dJx4a65c_add_9ea2d_13 : decode cJx4a65c_add_9ea2d 13 = .ok (.getfield 9, 3) := by decide +kernel
theorem dJx4a65c_add_9ea2d_16 : decode cJx4a65c_add_9ea2d 16 = .ok (.aload_n 0, 1) := by decide +kernel
theorem dJx4a65c_add_9ea2d_17 : decode cJx4a65c_add_9ea2d 17 = .ok (.getfield 48, 3) := by decide +kernel
theorem dJx4a65c_add_9ea2d_20 : decode cJx4a65c_add_9ea2d 20 = .ok (.invokevirtual 131, 3) := by decide +kernel
theorem dJx4a65c_add_9ea2d_23 : decode cJx4a65c_add_9ea2d 23 = .ok (.iconst 1, 1) := by decide +kernel
theorem dJx4a65c_add_9ea2d_24 : decode cJx4a65c_add_9ea2d 24 = .ok (.ireturn, 1) := by decide +kernel
theorem dJx4a65c_remove_915e3_0 : decode cJx4a65c_remove_915e3 0 = .ok (.iload_n 1, 1) := by decide +kernel
theorem dJx4a65c_remove_915e3_1 : decode cJx4a65c_remove_915e3 1 = .ok (.aload_n 0, 1) := by decide +kernel
theorem dJx4a65c_remove_915e3_2 : decode cJx4a65c_remove_915e3 2 = .ok (.getfield 48, 3) := by decide +kernel
theorem dJx4a65c_remove_915e3_5 : decode cJx4a65c_remove_915e3 5 = .ok (.invokestatic 118, 3) := by decide +kernel
theorem dJx4a65c_remove_915e3_8 : decode cJx4a65c_remove_915e3 8 = .ok (.pop, 1) := by decide +kernel
theorem dJx4a65c_remove_915e3_9 : decode cJx4a65c_remove_915e3 9 = .ok (.aload_n 0, 1) := by decide +kernel
theorem dJx4a65c_remove_915e3_10 : decode cJx4a65c_remove_915e3 10 = .ok (.getfield 9, 3) := by decide +kernel
theorem dJx4a65c_remove_915e3_13 : decode cJx4a65c_remove_915e3 13 = .ok (.astore_n 2, 1) := by decide +kernel
theorem dJx4a65c_remove_915e3_14 : decode cJx4a65c_remove_915e3 14 = .ok (.aload_n 2, 1) := by decide +kernel
theorem dJx4a65c_remove_915e3_15 : decode cJx4a65c_remove_915e3 15 = .ok (.iload_n 1, 1) := by decide +kernel
theorem dJx4a65c_remove_915e3_16 : decode cJx4a65c_remove_915e3 16 = .ok (.aaload, 1) := by decide +kernel
theorem dJx4a65c_remove_915e3_17 : decode cJx4a65c_remove_915e3 17 = .ok (.astore_n 3, 1) := by decide +kernel
theorem dJx4a65c_remove_915e3_18 : decode cJx4a65c_remove_915e3 18 = .ok (.aload_n 0, 1) := by decide +kernel
theorem dJx4a65c_remove_915e3_19 : decode cJx4a65c_remove_915e3 19 = .ok (.aload_n 2, 1) := by decide +kernel
theorem dJx4a65c_remove_915e3_20 : decode cJx4a65c_remove_915e3 20 = .ok (.iload_n 1, 1) := by decide +kernel
theorem dJx4a65c_remove_915e3_21 : decode cJx4a65c_remove_915e3 21 = .ok (.invokevirtual 144, 3) := by decide +kernel
theorem dJx4a65c_remove_915e3_24 : decode cJx4a65c_remove_915e3 24 = .ok (.aload_n 3, 1) := by decide +kernel
theorem dJx4a65c_remove_915e3_25 : decode cJx4a65c_remove_915e3 25 = .ok (.areturn, 1) := by decide +kernel
theorem dJx4a65c_fastRemove_b59b0_0 : decode cJx4a65c_fastRemove_b59b0 0 = .ok (.aload_n 0, 1) := by decide +kernel
theorem dJx4a65c_fastRemove_b59b0_1 : decode cJx4a65c_fastRemove_b59b0 1 = .ok (.dup, 1) := by decide +kernel
theorem dJx4a65c_fastRemove_b59b0_2 : decode cJx4a65c_fastRemove_b59b0 2 = .ok (.getfield 63, 3) := by decide +kernel
theorem dJx4a65c_fastRemove_b59b0_5 : decode cJx4a65c_fastRemove_b59b0 5 = .ok (.iconst 1, 1) := by decide +kernel
theorem dJx4a65c_fastRemove_b59b0_6 : decode cJx4a65c_fastRemove_b59b0 6 = .ok (.iadd, 1) := by decide +kernel
theorem dJx4a65c_fastRemove_b59b0_7 : decode cJx4a65c_fastRemove_b59b0 7 = .ok (.putfield 63, 3) := by decide +kernel
theorem dJx4a65c_fastRemove_b59b0_10 : decode cJx4a65c_fastRemove_b59b0 10 = .ok (.aload_n 0, 1) := by decide +kernel
theorem dJx4a65c_fastRemove_b59b0_11 : decode cJx4a65c_fastRemove_b59b0 11 = .ok (.getfield 48, 3) := by decide +kernel
theorem dJx4a65c_fastRemove_b59b0_14 : decode cJx4a65c_fastRemove_b59b0 14 = .ok (.iconst 1, 1) := by decide +kernel
theorem dJx4a65c_fastRemove_b59b0_15 : decode cJx4a65c_fastRemove_b59b0 15 = .ok (.isub, 1) := by decide +kernel
theorem dJx4a65c_fastRemove_b59b0_16 : decode cJx4a65c_fastRemove_b59b0 16 = .ok (.dup, 1) := by decide +kernel
theorem dJx4a65c_fastRemove_b59b0_17 : decode cJx4a65c_fastRemove_b59b0 17 = .ok (.istore_n 3, 1) := by decide +kernel
theorem dJx4a65c_fastRemove_b59b0_18 : decode cJx4a65c_fastRemove_b59b0 18 = .ok (.iload_n 2, 1) := by decide +kernel
theorem dJx4a65c_fastRemove_b59b0_19 : decode cJx4a65c_fastRemove_b59b0 19 = .ok (.if_icmp .le 15, 3) := by decide +kernel
theorem dJx4a65c_fastRemove_b59b0_22 : decode cJx4a65c_fastRemove_b59b0 22 = .ok (.aload_n 1, 1) := by decide +kernel
theorem dJx4a65c_fastRemove_b59b0_23 : decode cJx4a65c_fastRemove_b59b0 23 = .ok (.iload_n 2, 1) := by decide +kernel
theorem dJx4a65c_fastRemove_b59b0_24 : decode cJx4a65c_fastRemove_b59b0 24 = .ok (.iconst 1, 1) := by decide +kernel
theorem dJx4a65c_fastRemove_b59b0_25 : decode cJx4a65c_fastRemove_b59b0 25 = .ok (.iadd, 1) := by decide +kernel
theorem dJx4a65c_fastRemove_b59b0_26 : decode cJx4a65c_fastRemove_b59b0 26 = .ok (.aload_n 1, 1) := by decide +kernel
theorem dJx4a65c_fastRemove_b59b0_27 : decode cJx4a65c_fastRemove_b59b0 27 = .ok (.iload_n 2, 1) := by decide +kernel
theorem dJx4a65c_fastRemove_b59b0_28 : decode cJx4a65c_fastRemove_b59b0 28 = .ok (.iload_n 3, 1) := by decide +kernel
theorem dJx4a65c_fastRemove_b59b0_29 : decode cJx4a65c_fastRemove_b59b0 29 = .ok (.iload_n 2, 1) := by decide +kernel
theorem dJx4a65c_fastRemove_b59b0_30 : decode cJx4a65c_fastRemove_b59b0 30 = .ok (.isub, 1) := by decide +kernel
theorem dJx4a65c_fastRemove_b59b0_31 : decode cJx4a65c_fastRemove_b59b0 31 = .ok (.invokestatic 112, 3) := by decide +kernel
theorem dJx4a65c_fastRemove_b59b0_34 : decode cJx4a65c_fastRemove_b59b0 34 = .ok (.aload_n 1, 1) := by decide +kernel
theorem dJx4a65c_fastRemove_b59b0_35 : decode cJx4a65c_fastRemove_b59b0 35 = .ok (.aload_n 0, 1) := by decide +kernel
theorem dJx4a65c_fastRemove_b59b0_36 : decode cJx4a65c_fastRemove_b59b0 36 = .ok (.iload_n 3, 1) := by decide +kernel
theorem dJx4a65c_fastRemove_b59b0_37 : decode cJx4a65c_fastRemove_b59b0 37 = .ok (.dup_x1, 1) := by decide +kernel
theorem dJx4a65c_fastRemove_b59b0_38 : decode cJx4a65c_fastRemove_b59b0 38 = .ok (.putfield 48, 3) := by decide +kernel
theorem dJx4a65c_fastRemove_b59b0_41 : decode cJx4a65c_fastRemove_b59b0 41 = .ok (.aconst_null, 1) := by decide +kernel
theorem dJx4a65c_fastRemove_b59b0_42 : decode cJx4a65c_fastRemove_b59b0 42 = .ok (.aastore, 1) := by decide +kernel
theorem dJx4a65c_fastRemove_b59b0_43 : decode cJx4a65c_fastRemove_b59b0 43 = .ok (.return_, 1) := by decide +kernel
theorem dJ7_copyOf_1904c_0 : decode cJ7_copyOf_1904c 0 = .ok (.aload_n 0, 1) := by decide +kernel
theorem dJ7_copyOf_1904c_1 : decode cJ7_copyOf_1904c 1 = .ok (.iload_n 1, 1) := by decide +kernel
theorem dJ7_copyOf_1904c_2 : decode cJ7_copyOf_1904c 2 = .ok (.aload_n 0, 1) := by decide +kernel
theorem dJ7_copyOf_1904c_3 : decode cJ7_copyOf_1904c 3 = .ok (.invokevirtual 86, 3) := by decide +kernel
theorem dJ7_copyOf_1904c_6 : decode cJ7_copyOf_1904c 6 = .ok (.invokestatic 300, 3) := by decide +kernel
theorem dJ7_copyOf_1904c_9 : decode cJ7_copyOf_1904c 9 = .ok (.areturn, 1) := by decide +kernel
theorem dJ7_copyOf_6403c_0 : decode cJ7_copyOf_6403c 0 = .ok (.aload_n 2, 1) := by decide +kernel
theorem dJ7_copyOf_6403c_1 : decode cJ7_copyOf_6403c 1 = .ok (.ldc 110, 2) := by decide +kernel
theorem dJ7_copyOf_6403c_3 : decode cJ7_copyOf_6403c 3 = .ok (.if_acmp .ne 10, 3) := by decide +kernel
theorem dJ7_copyOf_6403c_6 : decode cJ7_copyOf_6403c 6 = .ok (.iload_n 1, 1) := by decide +kernel
theorem dJ7_copyOf_6403c_7 : decode cJ7_copyOf_6403c 7 = .ok (.anewarray 2, 3) := by decide +kernel
theorem dJ7_copyOf_6403c_10 : decode cJ7_copyOf_6403c 10 = .ok (.goto 14, 3) := by decide +kernel
theorem dJ7_copyOf_6403c_13 : decode cJ7_copyOf_6403c 13 = .ok (.aload_n 2, 1) := by decide +kernel
theorem dJ7_copyOf_6403c_14 : decode cJ7_copyOf_6403c 14 = .ok (.invokevirtual 90, 3) := by decide +kernel
theorem dJ7_copyOf_6403c_17 : decode cJ7_copyOf_6403c 17 = .ok (.iload_n 1, 1) := by decide +kernel
theorem dJ7_copyOf_6403c_18 : decode cJ7_copyOf_6403c 18 = .ok (.invokestatic 95, 3) := by decide +kernel
theorem dJ7_copyOf_6403c_21 : decode cJ7_copyOf_6403c 21 = .ok (.checkcast 110, 3) := by decide +kernel
theorem dJ7_copyOf_6403c_24 : decode cJ7_copyOf_6403c 24 = .ok (.astore_n 3, 1) := by decide +kernel
theorem dJ7_copyOf_6403c_25 : decode cJ7_copyOf_6403c 25 = .ok (.aload_n 0, 1) := by decide +kernel
theorem dJ7_copyOf_6403c_26 : decode cJ7_copyOf_6403c 26 = .ok (.iconst 0, 1) := by decide +kernel
theorem dJ7_copyOf_6403c_27 : decode cJ7_copyOf_6403c 27 = .ok (.aload_n 3, 1) := by decide +kernel
theorem dJ7_copyOf_6403c_28 : decode cJ7_copyOf_6403c 28 = .ok (.iconst 0, 1) := by decide +kernel
theorem dJ7_copyOf_6403c_29 : decode cJ7_copyOf_6403c 29 = .ok (.aload_n 0, 1) := by decide +kernel
theorem dJ7_copyOf_6403c_30 : decode cJ7_copyOf_6403c 30 = .ok (.arraylength, 1) := by decide +kernel
theorem dJ7_copyOf_6403c_31 : decode cJ7_copyOf_6403c 31 = .ok (.iload_n 1, 1) := by decide +kernel
theorem dJ7_copyOf_6403c_32 : decode cJ7_copyOf_6403c 32 = .ok (.invokestatic 304, 3) := by decide +kernel
theorem dJ7_copyOf_6403c_35 : decode cJ7_copyOf_6403c 35 = .ok (.invokestatic 150, 3) := by decide +kernel
theorem dJ7_copyOf_6403c_38 : decode cJ7_copyOf_6403c 38 = .ok (.aload_n 3, 1) := by decide +kernel
theorem dJ7_copyOf_6403c_39 : decode cJ7_copyOf_6403c 39 = .ok (.areturn, 1) := by decide +kernel
theorem dJ15_checkIndex_7cf53_0 : decode cJ15_checkIndex_7cf53 0 = .ok (.iload_n 0, 1) := by decide +kernel
theorem dJ15_checkIndex_7cf53_1 : decode cJ15_checkIndex_7cf53 1 = .ok (.iload_n 1, 1) := by decide +kernel
theorem dJ15_checkIndex_7cf53_2 : decode cJ15_checkIndex_7cf53 2 = .ok (.aconst_null, 1) := by decide +kernel
theorem dJ15_checkIndex_7cf53_3 : decode cJ15_checkIndex_7cf53 3 = .ok (.invokestatic 105, 3) := by decide +kernel
theorem dJ15_checkIndex_7cf53_6 : decode cJ15_checkIndex_7cf53 6 = .ok (.ireturn, 1) := by decide +kernel
theorem dJ8_newLength_cabcc_0 : decode cJ8_newLength_cabcc 0 = .ok (.iload_n 0, 1) := by decide +kernel
theorem dJ8_newLength_cabcc_1 : decode cJ8_newLength_cabcc 1 = .ok (.iload_n 1, 1) := by decide +kernel
theorem dJ8_newLength_cabcc_2 : decode cJ8_newLength_cabcc 2 = .ok (.iload_n 2, 1) := by decide +kernel
theorem dJ8_newLength_cabcc_3 : decode cJ8_newLength_cabcc 3 = .ok (.invokestatic 194, 3) := by decide +kernel
theorem dJ8_newLength_cabcc_6 : decode cJ8_newLength_cabcc 6 = .ok (.iadd, 1) := by decide +kernel
theorem dJ8_newLength_cabcc_7 : decode cJ8_newLength_cabcc 7 = .ok (.istore_n 3, 1) := by decide +kernel
theorem dJ8_newLength_cabcc_8 : decode cJ8_newLength_cabcc 8 = .ok (.iconst 0, 1) := by decide +kernel
theorem dJ8_newLength_cabcc_9 : decode cJ8_newLength_cabcc 9 = .ok (.iload_n 3, 1) := by decide +kernel
theorem dJ8_newLength_cabcc_10 : decode cJ8_newLength_cabcc 10 = .ok (.if_icmp .ge 11, 3) := by decide +kernel
theorem dJ8_newLength_cabcc_13 : decode cJ8_newLength_cabcc 13 = .ok (.iload_n 3, 1) := by decide +kernel
theorem dJ8_newLength_cabcc_14 : decode cJ8_newLength_cabcc 14 = .ok (.ldc 200, 2) := by decide +kernel
theorem dJ8_newLength_cabcc_16 : decode cJ8_newLength_cabcc 16 = .ok (.if_icmp .gt 5, 3) := by decide +kernel
theorem dJ8_newLength_cabcc_19 : decode cJ8_newLength_cabcc 19 = .ok (.iload_n 3, 1) := by decide +kernel
theorem dJ8_newLength_cabcc_20 : decode cJ8_newLength_cabcc 20 = .ok (.ireturn, 1) := by decide +kernel
theorem dJ8_newLength_cabcc_21 : decode cJ8_newLength_cabcc 21 = .ok (.iload_n 0, 1) := by decide +kernel
theorem dJ8_newLength_cabcc_22 : decode cJ8_newLength_cabcc 22 = .ok (.iload_n 1, 1) := by decide +kernel
theorem dJ8_newLength_cabcc_23 : decode cJ8_newLength_cabcc 23 = .ok (.invokestatic 201, 3) := by decide +kernel
theorem dJ8_newLength_cabcc_26 : decode cJ8_newLength_cabcc 26 = .ok (.ireturn, 1) := by decide +kernel
theorem dJ8_hugeLength_7cf53_0 : decode cJ8_hugeLength_7cf53 0 = .ok (.iload_n 0, 1) := by decide +kernel
theorem dJ8_hugeLength_7cf53_1 : decode cJ8_hugeLength_7cf53 1 = .ok (.iload_n 1, 1) := by decide +kernel
theorem dJ8_hugeLength_7cf53_2 : decode cJ8_hugeLength_7cf53 2 = .ok (.iadd, 1) := by decide +kernel
theorem dJ8_hugeLength_7cf53_3 : decode cJ8_hugeLength_7cf53 3 = .ok (.istore_n 2, 1) := by decide +kernel
theorem dJ8_hugeLength_7cf53_4 : decode cJ8_hugeLength_7cf53 4 = .ok (.iload_n 2, 1) := by decide +kernel
theorem dJ8_hugeLength_7cf53_5 : decode cJ8_hugeLength_7cf53 5 = .ok (.ifCond .ge 44, 3) := by decide +kernel
theorem dJ8_hugeLength_7cf53_8 : decode cJ8_hugeLength_7cf53 8 = .ok (.new 204, 3) := by decide +kernel
theorem dJ8_hugeLength_7cf53_11 : decode cJ8_hugeLength_7cf53 11 = .ok (.dup, 1) := by decide +kernel
theorem dJ8_hugeLength_7cf53_12 : decode cJ8_hugeLength_7cf53 12 = .ok (.new 89, 3) := by decide +kernel
theorem dJ8_hugeLength_7cf53_15 : decode cJ8_hugeLength_7cf53 15 = .ok (.dup, 1) := by decide +kernel
theorem dJ8_hugeLength_7cf53_16 : decode cJ8_hugeLength_7cf53 16 = .ok (.invokespecial 91, 3) := by decide +kernel
theorem dJ8_hugeLength_7cf53_19 : decode cJ8_hugeLength_7cf53 19 = .ok (.ldc 206, 2) := by decide +kernel
theorem dJ8_hugeLength_7cf53_21 : decode cJ8_hugeLength_7cf53 21 = .ok (.invokevirtual 94, 3) := by decide +kernel
theorem dJ8_hugeLength_7cf53_24 : decode cJ8_hugeLength_7cf53 24 = .ok (.iload_n 0, 1) := by decide +kernel
theorem dJ8_hugeLength_7cf53_25 : decode cJ8_hugeLength_7cf53 25 = .ok (.invokevirtual 98, 3) := by decide +kernel
theorem dJ8_hugeLength_7cf53_28 : decode cJ8_hugeLength_7cf53 28 = .ok (.ldc 208, 2) := by decide +kernel
theorem dJ8_hugeLength_7cf53_30 : decode cJ8_hugeLength_7cf53 30 = .ok (.invokevirtual 94, 3) := by decide +kernel
theorem dJ8_hugeLength_7cf53_33 : decode cJ8_hugeLength_7cf53 33 = .ok (.iload_n 1, 1) := by decide +kernel
theorem dJ8_hugeLength_7cf53_34 : decode cJ8_hugeLength_7cf53 34 = .ok (.invokevirtual 98, 3) := by decide +kernel
theorem dJ8_hugeLength_7cf53_37 : decode cJ8_hugeLength_7cf53 37 = .ok (.ldc 210, 2) := by decide +kernel
theorem dJ8_hugeLength_7cf53_39 : decode cJ8_hugeLength_7cf53 39 = .ok (.invokevirtual 94, 3) := by decide +kernel
theorem dJ8_hugeLength_7cf53_42 : decode cJ8_hugeLength_7cf53 42 = .ok (.invokevirtual 101, 3) := by decide +kernel
theorem dJ8_hugeLength_7cf53_45 : decode cJ8_hugeLength_7cf53 45 = .ok (.invokespecial 212, 3) := by decide +kernel
theorem dJ8_hugeLength_7cf53_48 : decode cJ8_hugeLength_7cf53 48 = .ok (.athrow, 1) := by decide +kernel
theorem dJ8_hugeLength_7cf53_49 : decode cJ8_hugeLength_7cf53 49 = .ok (.iload_n 2, 1) := by decide +kernel
theorem dJ8_hugeLength_7cf53_50 : decode cJ8_hugeLength_7cf53 50 = .ok (.ldc 200, 2) := by decide +kernel
theorem dJ8_hugeLength_7cf53_52 : decode cJ8_hugeLength_7cf53 52 = .ok (.if_icmp .gt 6, 3) := by decide +kernel
theorem dJ8_hugeLength_7cf53_55 : decode cJ8_hugeLength_7cf53 55 = .ok (.ldc 200, 2) := by decide +kernel
theorem dJ8_hugeLength_7cf53_57 : decode cJ8_hugeLength_7cf53 57 = .ok (.ireturn, 1) := by decide +kernel
theorem dJ8_hugeLength_7cf53_58 : decode cJ8_hugeLength_7cf53 58 = .ok (.iload_n 2, 1) := by decide +kernel
theorem dJ8_hugeLength_7cf53_59 : decode cJ8_hugeLength_7cf53 59 = .ok (.ireturn, 1) := by decide +kernel
theorem dJ3_checkIndex_8e157_0 : decode cJ3_checkIndex_8e157 0 = .ok (.iload_n 0, 1) := by decide +kernel
theorem dJ3_checkIndex_8e157_1 : decode cJ3_checkIndex_8e157 1 = .ok (.ifCond .lt 8, 3) := by decide +kernel
theorem dJ3_checkIndex_8e157_4 : decode cJ3_checkIndex_8e157 4 = .ok (.iload_n 0, 1) := by decide +kernel
theorem dJ3_checkIndex_8e157_5 : decode cJ3_checkIndex_8e157 5 = .ok (.iload_n 1, 1) := by decide +kernel
theorem dJ3_checkIndex_8e157_6 : decode cJ3_checkIndex_8e157 6 = .ok (.if_icmp .lt 10, 3) := by decide +kernel
theorem dJ3_checkIndex_8e157_9 : decode cJ3_checkIndex_8e157 9 = .ok (.aload_n 2, 1) := by decide +kernel
theorem dJ3_checkIndex_8e157_10 : decode cJ3_checkIndex_8e157 10 = .ok (.iload_n 0, 1) := by decide +kernel
theorem dJ3_checkIndex_8e157_11 : decode cJ3_checkIndex_8e157 11 = .ok (.iload_n 1, 1) := by decide +kernel
theorem dJ3_checkIndex_8e157_12 : decode cJ3_checkIndex_8e157 12 = .ok (.invokestatic 95, 3) := by decide +kernel
theorem dJ3_checkIndex_8e157_15 : decode cJ3_checkIndex_8e157 15 = .ok (.athrow, 1) := by decide +kernel
theorem dJ3_checkIndex_8e157_16 : decode cJ3_checkIndex_8e157 16 = .ok (.iload_n 0, 1) := by decide +kernel
theorem dJ3_checkIndex_8e157_17 : decode cJ3_checkIndex_8e157 17 = .ok (.ireturn, 1) := by decide +kernel
theorem dJ3_checkFromToIndex_8c36e_0 : decode cJ3_checkFromToIndex_8c36e 0 = .ok (.iload_n 0, 1) := by decide +kernel
theorem dJ3_checkFromToIndex_8c36e_1 : decode cJ3_checkFromToIndex_8c36e 1 = .ok (.ifCond .lt 13, 3) := by decide +kernel
theorem dJ3_checkFromToIndex_8c36e_4 : decode cJ3_checkFromToIndex_8c36e 4 = .ok (.iload_n 0, 1) := by decide +kernel
theorem dJ3_checkFromToIndex_8c36e_5 : decode cJ3_checkFromToIndex_8c36e 5 = .ok (.iload_n 1, 1) := by decide +kernel
theorem dJ3_checkFromToIndex_8c36e_6 : decode cJ3_checkFromToIndex_8c36e 6 = .ok (.if_icmp .gt 8, 3) := by decide +kernel
theorem dJ3_checkFromToIndex_8c36e_9 : decode cJ3_checkFromToIndex_8c36e 9 = .ok (.iload_n 1, 1) := by decide +kernel
theorem dJ3_checkFromToIndex_8c36e_10 : decode cJ3_checkFromToIndex_8c36e 10 = .ok (.iload_n 2, 1) := by decide +kernel
theorem dJ3_checkFromToIndex_8c36e_11 : decode cJ3_checkFromToIndex_8c36e 11 = .ok (.if_icmp .le 11, 3) := by decide +kernel
theorem dJ3_checkFromToIndex_8c36e_14 : decode cJ3_checkFromToIndex_8c36e 14 = .ok (.aload_n 3, 1) := by decide +kernel
theorem dJ3_checkFromToIndex_8c36e_15 : decode cJ3_checkFromToIndex_8c36e 15 = .ok (.iload_n 0, 1) := by decide +kernel
theorem dJ3_checkFromToIndex_8c36e_16 : decode cJ3_checkFromToIndex_8c36e 16 = .ok (.iload_n 1, 1) := by decide +kernel
theorem dJ3_checkFromToIndex_8c36e_17 : decode cJ3_checkFromToIndex_8c36e 17 = .ok (.iload_n 2, 1) := by decide +kernel
theorem dJ3_checkFromToIndex_8c36e_18 : decode cJ3_checkFromToIndex_8c36e 18 = .ok (.invokestatic 99, 3) := by decide +kernel
theorem dJ3_checkFromToIndex_8c36e_21 : decode cJ3_checkFromToIndex_8c36e 21 = .ok (.athrow, 1) := by decide +kernel
theorem dJ3_checkFromToIndex_8c36e_22 : decode cJ3_checkFromToIndex_8c36e 22 = .ok (.iload_n 0, 1) := by decide +kernel
theorem dJ3_checkFromToIndex_8c36e_23 : decode cJ3_checkFromToIndex_8c36e 23 = .ok (.ireturn, 1) := by decide +kernel
theorem dL_addFile_0 : decode cL_addFile 0 = .ok (.aload_n 2, 1) := by decide +kernel
theorem dL_addFile_1 : decode cL_addFile 1 = .ok (.iconst 0, 1) := by decide +kernel
theorem dL_addFile_2 : decode cL_addFile 2 = .ok (.aload_n 0, 1) := by decide +kernel
theorem dL_addFile_3 : decode cL_addFile 3 = .ok (.iload_n 1, 1) := by decide +kernel
theorem dL_addFile_4 : decode cL_addFile 4 = .ok (.invokevirtual 7, 3) := by decide +kernel
theorem dL_addFile_7 : decode cL_addFile 7 = .ok (.i2l, 1) := by decide +kernel
theorem dL_addFile_8 : decode cL_addFile 8 = .ok (.lastore, 1) := by decide +kernel
theorem dL_addFile_9 : decode cL_addFile 9 = .ok (.goto 9, 3) := by decide +kernel
theorem dL_addFile_12 : decode cL_addFile 12 = .ok (.astore_n 3, 1) := by decide +kernel
theorem dL_addFile_13 : decode cL_addFile 13 = .ok (.iconst 1, 1) := by decide +kernel
theorem dL_addFile_14 : decode cL_addFile 14 = .ok (.ireturn, 1) := by decide +kernel
theorem dL_addFile_15 : decode cL_addFile 15 = .ok (.astore_n 3, 1) := by decide +kernel
theorem dL_addFile_16 : decode cL_addFile 16 = .ok (.iconst 2, 1) := by decide +kernel
theorem dL_addFile_17 : decode cL_addFile 17 = .ok (.ireturn, 1) := by decide +kernel
theorem dL_addFile_18 : decode cL_addFile 18 = .ok (.iconst 0, 1) := by decide +kernel
theorem dL_addFile_19 : decode cL_addFile 19 = .ok (.ireturn, 1) := by decide +kernel
theorem dL_setFrames_0 : decode cL_setFrames 0 = .ok (.aload_n 2, 1) := by decide +kernel
theorem dL_setFrames_1 : decode cL_setFrames 1 = .ok (.iconst 0, 1) := by decide +kernel
theorem dL_setFrames_2 : decode cL_setFrames 2 = .ok (.aload_n 0, 1) := by decide +kernel
theorem dL_setFrames_3 : decode cL_setFrames 3 = .ok (.iload_n 1, 1) := by decide +kernel
theorem dL_setFrames_4 : decode cL_setFrames 4 = .ok (.invokevirtual 17, 3) := by decide +kernel
theorem dL_setFrames_7 : decode cL_setFrames 7 = .ok (.i2l, 1) := by decide +kernel
theorem dL_setFrames_8 : decode cL_setFrames 8 = .ok (.lastore, 1) := by decide +kernel
theorem dL_setFrames_9 : decode cL_setFrames 9 = .ok (.goto 12, 3) := by decide +kernel
theorem dL_setFrames_12 : decode cL_setFrames 12 = .ok (.astore_n 3, 1) := by decide +kernel
theorem dL_setFrames_13 : decode cL_setFrames 13 = .ok (.iconst 1, 1) := by decide +kernel
theorem dL_setFrames_14 : decode cL_setFrames 14 = .ok (.ireturn, 1) := by decide +kernel
theorem dL_setFrames_15 : decode cL_setFrames 15 = .ok (.astore_n 3, 1) := by decide +kernel
theorem dL_setFrames_16 : decode cL_setFrames 16 = .ok (.iconst 2, 1) := by decide +kernel
theorem dL_setFrames_17 : decode cL_setFrames 17 = .ok (.ireturn, 1) := by decide +kernel
theorem dL_setFrames_18 : decode cL_setFrames 18 = .ok (.astore_n 3, 1) := by decide +kernel
theorem dL_setFrames_19 : decode cL_setFrames 19 = .ok (.iconst 3, 1) := by decide +kernel
theorem dL_setFrames_20 : decode cL_setFrames 20 = .ok (.ireturn, 1) := by decide +kernel
theorem dL_setFrames_21 : decode cL_setFrames 21 = .ok (.iconst 0, 1) := by decide +kernel
theorem dL_setFrames_22 : decode cL_setFrames 22 = .ok (.ireturn, 1) := by decide +kernel
theorem dL_setPolicy_0 : decode cL_setPolicy 0 = .ok (.aload_n 2, 1) := by decide +kernel
theorem dL_setPolicy_1 : decode cL_setPolicy 1 = .ok (.iconst 0, 1) := by decide +kernel
theorem dL_setPolicy_2 : decode cL_setPolicy 2 = .ok (.aload_n 0, 1) := by decide +kernel
theorem dL_setPolicy_3 : decode cL_setPolicy 3 = .ok (.iload_n 1, 1) := by decide +kernel
theorem dL_setPolicy_4 : decode cL_setPolicy 4 = .ok (.invokevirtual 24, 3) := by decide +kernel
theorem dL_setPolicy_7 : decode cL_setPolicy 7 = .ok (.i2l, 1) := by decide +kernel
theorem dL_setPolicy_8 : decode cL_setPolicy 8 = .ok (.lastore, 1) := by decide +kernel
theorem dL_setPolicy_9 : decode cL_setPolicy 9 = .ok (.goto 6, 3) := by decide +kernel
theorem dL_setPolicy_12 : decode cL_setPolicy 12 = .ok (.astore_n 3, 1) := by decide +kernel
theorem dL_setPolicy_13 : decode cL_setPolicy 13 = .ok (.iconst 1, 1) := by decide +kernel
theorem dL_setPolicy_14 : decode cL_setPolicy 14 = .ok (.ireturn, 1) := by decide +kernel
theorem dL_setPolicy_15 : decode cL_setPolicy 15 = .ok (.iconst 0, 1) := by decide +kernel
theorem dL_setPolicy_16 : decode cL_setPolicy 16 = .ok (.ireturn, 1) := by decide +kernel
theorem dL_setLimit_0 : decode cL_setLimit 0 = .ok (.aload_n 2, 1) := by decide +kernel
theorem dL_setLimit_1 : decode cL_setLimit 1 = .ok (.iconst 0, 1) := by decide +kernel
theorem dL_setLimit_2 : decode cL_setLimit 2 = .ok (.aload_n 0, 1) := by decide +kernel
theorem dL_setLimit_3 : decode cL_setLimit 3 = .ok (.iload_n 1, 1) := by decide +kernel
theorem dL_setLimit_4 : decode cL_setLimit 4 = .ok (.invokevirtual 28, 3) := by decide +kernel
theorem dL_setLimit_7 : decode cL_setLimit 7 = .ok (.i2l, 1) := by decide +kernel
theorem dL_setLimit_8 : decode cL_setLimit 8 = .ok (.lastore, 1) := by decide +kernel
theorem dL_setLimit_9 : decode cL_setLimit 9 = .ok (.goto 6, 3) := by decide +kernel
theorem dL_setLimit_12 : decode cL_setLimit 12 = .ok (.astore_n 3, 1) := by decide +kernel
theorem dL_setLimit_13 : decode cL_setLimit 13 = .ok (.iconst 1, 1) := by decide +kernel
theorem dL_setLimit_14 : decode cL_setLimit 14 = .ok (.ireturn, 1) := by decide +kernel
theorem dL_setLimit_15 : decode cL_setLimit 15 = .ok (.iconst 0, 1) := by decide +kernel
theorem dL_setLimit_16 : decode cL_setLimit 16 = .ok (.ireturn, 1) := by decide +kernel
theorem dL_setWindow_0 : decode cL_setWindow 0 = .ok (.aload_n 2, 1) := by decide +kernel
theorem dL_setWindow_1 : decode cL_setWindow 1 = .ok (.iconst 0, 1) := by decide +kernel
theorem dL_setWindow_2 : decode cL_setWindow 2 = .ok (.aload_n 0, 1) := by decide +kernel
theorem dL_setWindow_3 : decode cL_setWindow 3 = .ok (.iload_n 1, 1) := by decide +kernel
theorem dL_setWindow_4 : decode cL_setWindow 4 = .ok (.invokevirtual 31, 3) := by decide +kernel
theorem dL_setWindow_7 : decode cL_setWindow 7 = .ok (.i2l, 1) := by decide +kernel
theorem dL_setWindow_8 : decode cL_setWindow 8 = .ok (.lastore, 1) := by decide +kernel
theorem dL_setWindow_9 : decode cL_setWindow 9 = .ok (.goto 6, 3) := by decide +kernel
theorem dL_setWindow_12 : decode cL_setWindow 12 = .ok (.astore_n 3, 1) := by decide +kernel
theorem dL_setWindow_13 : decode cL_setWindow 13 = .ok (.iconst 1, 1) := by decide +kernel
theorem dL_setWindow_14 : decode cL_setWindow 14 = .ok (.ireturn, 1) := by decide +kernel
theorem dL_setWindow_15 : decode cL_setWindow 15 = .ok (.iconst 0, 1) := by decide +kernel
theorem dL_setWindow_16 : decode cL_setWindow 16 = .ok (.ireturn, 1) := by decide +kernel
theorem dL_setTenant_0 : decode cL_setTenant 0 = .ok (.aload_n 2, 1) := by decide +kernel
theorem dL_setTenant_1 : decode cL_setTenant 1 = .ok (.iconst 0, 1) := by decide +kernel
theorem dL_setTenant_2 : decode cL_setTenant 2 = .ok (.aload_n 0, 1) := by decide +kernel
theorem dL_setTenant_3 : decode cL_setTenant 3 = .ok (.iload_n 1, 1) := by decide +kernel
theorem dL_setTenant_4 : decode cL_setTenant 4 = .ok (.invokevirtual 34, 3) := by decide +kernel
theorem dL_setTenant_7 : decode cL_setTenant 7 = .ok (.i2l, 1) := by decide +kernel
theorem dL_setTenant_8 : decode cL_setTenant 8 = .ok (.lastore, 1) := by decide +kernel
theorem dL_setTenant_9 : decode cL_setTenant 9 = .ok (.goto 6, 3) := by decide +kernel
theorem dL_setTenant_12 : decode cL_setTenant 12 = .ok (.astore_n 3, 1) := by decide +kernel
theorem dL_setTenant_13 : decode cL_setTenant 13 = .ok (.iconst 1, 1) := by decide +kernel
theorem dL_setTenant_14 : decode cL_setTenant 14 = .ok (.ireturn, 1) := by decide +kernel
theorem dL_setTenant_15 : decode cL_setTenant 15 = .ok (.iconst 0, 1) := by decide +kernel
theorem dL_setTenant_16 : decode cL_setTenant 16 = .ok (.ireturn, 1) := by decide +kernel
theorem dL_read_0 : decode cL_read 0 = .ok (.aload_n 3, 1) := by decide +kernel
theorem dL_read_1 : decode cL_read 1 = .ok (.iconst 0, 1) := by decide +kernel
theorem dL_read_2 : decode cL_read 2 = .ok (.aload_n 0, 1) := by decide +kernel
theorem dL_read_3 : decode cL_read 3 = .ok (.iload_n 1, 1) := by decide +kernel
theorem dL_read_4 : decode cL_read 4 = .ok (.iload_n 2, 1) := by decide +kernel
theorem dL_read_5 : decode cL_read 5 = .ok (.invokevirtual 37, 3) := by decide +kernel
theorem dL_read_8 : decode cL_read 8 = .ok (.i2l, 1) := by decide +kernel
theorem dL_read_9 : decode cL_read 9 = .ok (.lastore, 1) := by decide +kernel
theorem dL_read_10 : decode cL_read 10 = .ok (.goto 15, 3) := by decide +kernel
theorem dL_read_13 : decode cL_read 13 = .ok (.astore 4, 2) := by decide +kernel
theorem dL_read_15 : decode cL_read 15 = .ok (.iconst 1, 1) := by decide +kernel
theorem dL_read_16 : decode cL_read 16 = .ok (.ireturn, 1) := by decide +kernel
theorem dL_read_17 : decode cL_read 17 = .ok (.astore 4, 2) := by decide +kernel
theorem dL_read_19 : decode cL_read 19 = .ok (.iconst 2, 1) := by decide +kernel
theorem dL_read_20 : decode cL_read 20 = .ok (.ireturn, 1) := by decide +kernel
theorem dL_read_21 : decode cL_read 21 = .ok (.astore 4, 2) := by decide +kernel
theorem dL_read_23 : decode cL_read 23 = .ok (.iconst 3, 1) := by decide +kernel
theorem dL_read_24 : decode cL_read 24 = .ok (.ireturn, 1) := by decide +kernel
theorem dL_read_25 : decode cL_read 25 = .ok (.iconst 0, 1) := by decide +kernel
theorem dL_read_26 : decode cL_read 26 = .ok (.ireturn, 1) := by decide +kernel
theorem dL_write_0 : decode cL_write 0 = .ok (.aload 4, 2) := by decide +kernel
theorem dL_write_2 : decode cL_write 2 = .ok (.iconst 0, 1) := by decide +kernel
theorem dL_write_3 : decode cL_write 3 = .ok (.aload_n 0, 1) := by decide +kernel
theorem dL_write_4 : decode cL_write 4 = .ok (.iload_n 1, 1) := by decide +kernel
theorem dL_write_5 : decode cL_write 5 = .ok (.iload_n 2, 1) := by decide +kernel
theorem dL_write_6 : decode cL_write 6 = .ok (.iload_n 3, 1) := by decide +kernel
theorem dL_write_7 : decode cL_write 7 = .ok (.invokevirtual 41, 3) := by decide +kernel
theorem dL_write_10 : decode cL_write 10 = .ok (.i2l, 1) := by decide +kernel
theorem dL_write_11 : decode cL_write 11 = .ok (.lastore, 1) := by decide +kernel
theorem dL_write_12 : decode cL_write 12 = .ok (.goto 19, 3) := by decide +kernel
theorem dL_write_15 : decode cL_write 15 = .ok (.astore 5, 2) := by decide +kernel
theorem dL_write_17 : decode cL_write 17 = .ok (.iconst 1, 1) := by decide +kernel
theorem dL_write_18 : decode cL_write 18 = .ok (.ireturn, 1) := by decide +kernel
theorem dL_write_19 : decode cL_write 19 = .ok (.astore 5, 2) := by decide +kernel
theorem dL_write_21 : decode cL_write 21 = .ok (.iconst 2, 1) := by decide +kernel
theorem dL_write_22 : decode cL_write 22 = .ok (.ireturn, 1) := by decide +kernel
theorem dL_write_23 : decode cL_write 23 = .ok (.astore 5, 2) := by decide +kernel
theorem dL_write_25 : decode cL_write 25 = .ok (.iconst 3, 1) := by decide +kernel
theorem dL_write_26 : decode cL_write 26 = .ok (.ireturn, 1) := by decide +kernel
theorem dL_write_27 : decode cL_write 27 = .ok (.astore 5, 2) := by decide +kernel
theorem dL_write_29 : decode cL_write 29 = .ok (.iconst 4, 1) := by decide +kernel
theorem dL_write_30 : decode cL_write 30 = .ok (.ireturn, 1) := by decide +kernel
theorem dL_write_31 : decode cL_write 31 = .ok (.iconst 0, 1) := by decide +kernel
theorem dL_write_32 : decode cL_write 32 = .ok (.ireturn, 1) := by decide +kernel
theorem dL_pin_0 : decode cL_pin 0 = .ok (.aload_n 3, 1) := by decide +kernel
theorem dL_pin_1 : decode cL_pin 1 = .ok (.iconst 0, 1) := by decide +kernel
theorem dL_pin_2 : decode cL_pin 2 = .ok (.aload_n 0, 1) := by decide +kernel
theorem dL_pin_3 : decode cL_pin 3 = .ok (.iload_n 1, 1) := by decide +kernel
theorem dL_pin_4 : decode cL_pin 4 = .ok (.iload_n 2, 1) := by decide +kernel
theorem dL_pin_5 : decode cL_pin 5 = .ok (.invokevirtual 45, 3) := by decide +kernel
theorem dL_pin_8 : decode cL_pin 8 = .ok (.i2l, 1) := by decide +kernel
theorem dL_pin_9 : decode cL_pin 9 = .ok (.lastore, 1) := by decide +kernel
theorem dL_pin_10 : decode cL_pin 10 = .ok (.goto 11, 3) := by decide +kernel
theorem dL_pin_13 : decode cL_pin 13 = .ok (.astore 4, 2) := by decide +kernel
theorem dL_pin_15 : decode cL_pin 15 = .ok (.iconst 1, 1) := by decide +kernel
theorem dL_pin_16 : decode cL_pin 16 = .ok (.ireturn, 1) := by decide +kernel
theorem dL_pin_17 : decode cL_pin 17 = .ok (.astore 4, 2) := by decide +kernel
theorem dL_pin_19 : decode cL_pin 19 = .ok (.iconst 2, 1) := by decide +kernel
theorem dL_pin_20 : decode cL_pin 20 = .ok (.ireturn, 1) := by decide +kernel
theorem dL_pin_21 : decode cL_pin 21 = .ok (.iconst 0, 1) := by decide +kernel
theorem dL_pin_22 : decode cL_pin 22 = .ok (.ireturn, 1) := by decide +kernel
theorem dL_unpin_0 : decode cL_unpin 0 = .ok (.aload_n 3, 1) := by decide +kernel
theorem dL_unpin_1 : decode cL_unpin 1 = .ok (.iconst 0, 1) := by decide +kernel
theorem dL_unpin_2 : decode cL_unpin 2 = .ok (.aload_n 0, 1) := by decide +kernel
theorem dL_unpin_3 : decode cL_unpin 3 = .ok (.iload_n 1, 1) := by decide +kernel
theorem dL_unpin_4 : decode cL_unpin 4 = .ok (.iload_n 2, 1) := by decide +kernel
theorem dL_unpin_5 : decode cL_unpin 5 = .ok (.invokevirtual 50, 3) := by decide +kernel
theorem dL_unpin_8 : decode cL_unpin 8 = .ok (.i2l, 1) := by decide +kernel
theorem dL_unpin_9 : decode cL_unpin 9 = .ok (.lastore, 1) := by decide +kernel
theorem dL_unpin_10 : decode cL_unpin 10 = .ok (.goto 11, 3) := by decide +kernel
theorem dL_unpin_13 : decode cL_unpin 13 = .ok (.astore 4, 2) := by decide +kernel
theorem dL_unpin_15 : decode cL_unpin 15 = .ok (.iconst 1, 1) := by decide +kernel
theorem dL_unpin_16 : decode cL_unpin 16 = .ok (.ireturn, 1) := by decide +kernel
theorem dL_unpin_17 : decode cL_unpin 17 = .ok (.astore 4, 2) := by decide +kernel
theorem dL_unpin_19 : decode cL_unpin 19 = .ok (.iconst 2, 1) := by decide +kernel
theorem dL_unpin_20 : decode cL_unpin 20 = .ok (.ireturn, 1) := by decide +kernel
theorem dL_unpin_21 : decode cL_unpin 21 = .ok (.iconst 0, 1) := by decide +kernel
theorem dL_unpin_22 : decode cL_unpin 22 = .ok (.ireturn, 1) := by decide +kernel
theorem dL_frameOf_0 : decode cL_frameOf 0 = .ok (.aload_n 3, 1) := by decide +kernel
theorem dL_frameOf_1 : decode cL_frameOf 1 = .ok (.iconst 0, 1) := by decide +kernel
theorem dL_frameOf_2 : decode cL_frameOf 2 = .ok (.aload_n 0, 1) := by decide +kernel
theorem dL_frameOf_3 : decode cL_frameOf 3 = .ok (.iload_n 1, 1) := by decide +kernel
theorem dL_frameOf_4 : decode cL_frameOf 4 = .ok (.iload_n 2, 1) := by decide +kernel
theorem dL_frameOf_5 : decode cL_frameOf 5 = .ok (.invokevirtual 53, 3) := by decide +kernel
theorem dL_frameOf_8 : decode cL_frameOf 8 = .ok (.i2l, 1) := by decide +kernel
theorem dL_frameOf_9 : decode cL_frameOf 9 = .ok (.lastore, 1) := by decide +kernel
theorem dL_frameOf_10 : decode cL_frameOf 10 = .ok (.goto 7, 3) := by decide +kernel
theorem dL_frameOf_13 : decode cL_frameOf 13 = .ok (.astore 4, 2) := by decide +kernel
theorem dL_frameOf_15 : decode cL_frameOf 15 = .ok (.iconst 1, 1) := by decide +kernel
theorem dL_frameOf_16 : decode cL_frameOf 16 = .ok (.ireturn, 1) := by decide +kernel
theorem dL_frameOf_17 : decode cL_frameOf 17 = .ok (.iconst 0, 1) := by decide +kernel
theorem dL_frameOf_18 : decode cL_frameOf 18 = .ok (.ireturn, 1) := by decide +kernel
theorem dL_isDirty_0 : decode cL_isDirty 0 = .ok (.aload_n 3, 1) := by decide +kernel
theorem dL_isDirty_1 : decode cL_isDirty 1 = .ok (.iconst 0, 1) := by decide +kernel
theorem dL_isDirty_2 : decode cL_isDirty 2 = .ok (.aload_n 0, 1) := by decide +kernel
theorem dL_isDirty_3 : decode cL_isDirty 3 = .ok (.iload_n 1, 1) := by decide +kernel
theorem dL_isDirty_4 : decode cL_isDirty 4 = .ok (.iload_n 2, 1) := by decide +kernel
theorem dL_isDirty_5 : decode cL_isDirty 5 = .ok (.invokevirtual 56, 3) := by decide +kernel
theorem dL_isDirty_8 : decode cL_isDirty 8 = .ok (.ifCond .eq 7, 3) := by decide +kernel
theorem dL_isDirty_11 : decode cL_isDirty 11 = .ok (.lconst 1, 1) := by decide +kernel
theorem dL_isDirty_12 : decode cL_isDirty 12 = .ok (.goto 4, 3) := by decide +kernel
theorem dL_isDirty_15 : decode cL_isDirty 15 = .ok (.lconst 0, 1) := by decide +kernel
theorem dL_isDirty_16 : decode cL_isDirty 16 = .ok (.lastore, 1) := by decide +kernel
theorem dL_isDirty_17 : decode cL_isDirty 17 = .ok (.goto 7, 3) := by decide +kernel
theorem dL_isDirty_20 : decode cL_isDirty 20 = .ok (.astore 4, 2) := by decide +kernel
theorem dL_isDirty_22 : decode cL_isDirty 22 = .ok (.iconst 1, 1) := by decide +kernel
theorem dL_isDirty_23 : decode cL_isDirty 23 = .ok (.ireturn, 1) := by decide +kernel
theorem dL_isDirty_24 : decode cL_isDirty 24 = .ok (.iconst 0, 1) := by decide +kernel
theorem dL_isDirty_25 : decode cL_isDirty 25 = .ok (.ireturn, 1) := by decide +kernel
theorem dL_onPlace_0 : decode cL_onPlace 0 = .ok (.aload_n 3, 1) := by decide +kernel
theorem dL_onPlace_1 : decode cL_onPlace 1 = .ok (.iconst 0, 1) := by decide +kernel
theorem dL_onPlace_2 : decode cL_onPlace 2 = .ok (.aload_n 0, 1) := by decide +kernel
theorem dL_onPlace_3 : decode cL_onPlace 3 = .ok (.iload_n 1, 1) := by decide +kernel
theorem dL_onPlace_4 : decode cL_onPlace 4 = .ok (.iload_n 2, 1) := by decide +kernel
theorem dL_onPlace_5 : decode cL_onPlace 5 = .ok (.invokevirtual 60, 3) := by decide +kernel
theorem dL_onPlace_8 : decode cL_onPlace 8 = .ok (.i2l, 1) := by decide +kernel
theorem dL_onPlace_9 : decode cL_onPlace 9 = .ok (.lastore, 1) := by decide +kernel
theorem dL_onPlace_10 : decode cL_onPlace 10 = .ok (.goto 7, 3) := by decide +kernel
theorem dL_onPlace_13 : decode cL_onPlace 13 = .ok (.astore 4, 2) := by decide +kernel
theorem dL_onPlace_15 : decode cL_onPlace 15 = .ok (.iconst 1, 1) := by decide +kernel
theorem dL_onPlace_16 : decode cL_onPlace 16 = .ok (.ireturn, 1) := by decide +kernel
theorem dL_onPlace_17 : decode cL_onPlace 17 = .ok (.iconst 0, 1) := by decide +kernel
theorem dL_onPlace_18 : decode cL_onPlace 18 = .ok (.ireturn, 1) := by decide +kernel
theorem dL_begin_0 : decode cL_begin 0 = .ok (.aload_n 1, 1) := by decide +kernel
theorem dL_begin_1 : decode cL_begin 1 = .ok (.iconst 0, 1) := by decide +kernel
theorem dL_begin_2 : decode cL_begin 2 = .ok (.aload_n 0, 1) := by decide +kernel
theorem dL_begin_3 : decode cL_begin 3 = .ok (.invokevirtual 63, 3) := by decide +kernel
theorem dL_begin_6 : decode cL_begin 6 = .ok (.i2l, 1) := by decide +kernel
theorem dL_begin_7 : decode cL_begin 7 = .ok (.lastore, 1) := by decide +kernel
theorem dL_begin_8 : decode cL_begin 8 = .ok (.goto 6, 3) := by decide +kernel
theorem dL_begin_11 : decode cL_begin 11 = .ok (.astore_n 2, 1) := by decide +kernel
theorem dL_begin_12 : decode cL_begin 12 = .ok (.iconst 1, 1) := by decide +kernel
theorem dL_begin_13 : decode cL_begin 13 = .ok (.ireturn, 1) := by decide +kernel
theorem dL_begin_14 : decode cL_begin 14 = .ok (.iconst 0, 1) := by decide +kernel
theorem dL_begin_15 : decode cL_begin 15 = .ok (.ireturn, 1) := by decide +kernel
theorem dL_commit_0 : decode cL_commit 0 = .ok (.aload_n 1, 1) := by decide +kernel
theorem dL_commit_1 : decode cL_commit 1 = .ok (.iconst 0, 1) := by decide +kernel
theorem dL_commit_2 : decode cL_commit 2 = .ok (.aload_n 0, 1) := by decide +kernel
theorem dL_commit_3 : decode cL_commit 3 = .ok (.invokevirtual 67, 3) := by decide +kernel
theorem dL_commit_6 : decode cL_commit 6 = .ok (.i2l, 1) := by decide +kernel
theorem dL_commit_7 : decode cL_commit 7 = .ok (.lastore, 1) := by decide +kernel
theorem dL_commit_8 : decode cL_commit 8 = .ok (.goto 6, 3) := by decide +kernel
theorem dL_commit_11 : decode cL_commit 11 = .ok (.astore_n 2, 1) := by decide +kernel
theorem dL_commit_12 : decode cL_commit 12 = .ok (.iconst 1, 1) := by decide +kernel
theorem dL_commit_13 : decode cL_commit 13 = .ok (.ireturn, 1) := by decide +kernel
theorem dL_commit_14 : decode cL_commit 14 = .ok (.iconst 0, 1) := by decide +kernel
theorem dL_commit_15 : decode cL_commit 15 = .ok (.ireturn, 1) := by decide +kernel
theorem dL_abort_0 : decode cL_abort 0 = .ok (.aload_n 1, 1) := by decide +kernel
theorem dL_abort_1 : decode cL_abort 1 = .ok (.iconst 0, 1) := by decide +kernel
theorem dL_abort_2 : decode cL_abort 2 = .ok (.aload_n 0, 1) := by decide +kernel
theorem dL_abort_3 : decode cL_abort 3 = .ok (.invokevirtual 70, 3) := by decide +kernel
theorem dL_abort_6 : decode cL_abort 6 = .ok (.i2l, 1) := by decide +kernel
theorem dL_abort_7 : decode cL_abort 7 = .ok (.lastore, 1) := by decide +kernel
theorem dL_abort_8 : decode cL_abort 8 = .ok (.goto 6, 3) := by decide +kernel
theorem dL_abort_11 : decode cL_abort 11 = .ok (.astore_n 2, 1) := by decide +kernel
theorem dL_abort_12 : decode cL_abort 12 = .ok (.iconst 1, 1) := by decide +kernel
theorem dL_abort_13 : decode cL_abort 13 = .ok (.ireturn, 1) := by decide +kernel
theorem dL_abort_14 : decode cL_abort 14 = .ok (.iconst 0, 1) := by decide +kernel
theorem dL_abort_15 : decode cL_abort 15 = .ok (.ireturn, 1) := by decide +kernel
theorem dL_checkpoint_0 : decode cL_checkpoint 0 = .ok (.aload_n 1, 1) := by decide +kernel
theorem dL_checkpoint_1 : decode cL_checkpoint 1 = .ok (.iconst 0, 1) := by decide +kernel
theorem dL_checkpoint_2 : decode cL_checkpoint 2 = .ok (.aload_n 0, 1) := by decide +kernel
theorem dL_checkpoint_3 : decode cL_checkpoint 3 = .ok (.invokevirtual 73, 3) := by decide +kernel
theorem dL_checkpoint_6 : decode cL_checkpoint 6 = .ok (.i2l, 1) := by decide +kernel
theorem dL_checkpoint_7 : decode cL_checkpoint 7 = .ok (.lastore, 1) := by decide +kernel
theorem dL_checkpoint_8 : decode cL_checkpoint 8 = .ok (.goto 6, 3) := by decide +kernel
theorem dL_checkpoint_11 : decode cL_checkpoint 11 = .ok (.astore_n 2, 1) := by decide +kernel
theorem dL_checkpoint_12 : decode cL_checkpoint 12 = .ok (.iconst 1, 1) := by decide +kernel
theorem dL_checkpoint_13 : decode cL_checkpoint 13 = .ok (.ireturn, 1) := by decide +kernel
theorem dL_checkpoint_14 : decode cL_checkpoint 14 = .ok (.iconst 0, 1) := by decide +kernel
theorem dL_checkpoint_15 : decode cL_checkpoint 15 = .ok (.ireturn, 1) := by decide +kernel
theorem dL_sync_0 : decode cL_sync 0 = .ok (.aload_n 2, 1) := by decide +kernel
theorem dL_sync_1 : decode cL_sync 1 = .ok (.iconst 0, 1) := by decide +kernel
theorem dL_sync_2 : decode cL_sync 2 = .ok (.aload_n 0, 1) := by decide +kernel
theorem dL_sync_3 : decode cL_sync 3 = .ok (.iload_n 1, 1) := by decide +kernel
theorem dL_sync_4 : decode cL_sync 4 = .ok (.invokevirtual 76, 3) := by decide +kernel
theorem dL_sync_7 : decode cL_sync 7 = .ok (.i2l, 1) := by decide +kernel
theorem dL_sync_8 : decode cL_sync 8 = .ok (.lastore, 1) := by decide +kernel
theorem dL_sync_9 : decode cL_sync 9 = .ok (.goto 9, 3) := by decide +kernel
theorem dL_sync_12 : decode cL_sync 12 = .ok (.astore_n 3, 1) := by decide +kernel
theorem dL_sync_13 : decode cL_sync 13 = .ok (.iconst 1, 1) := by decide +kernel
theorem dL_sync_14 : decode cL_sync 14 = .ok (.ireturn, 1) := by decide +kernel
theorem dL_sync_15 : decode cL_sync 15 = .ok (.astore_n 3, 1) := by decide +kernel
theorem dL_sync_16 : decode cL_sync 16 = .ok (.iconst 2, 1) := by decide +kernel
theorem dL_sync_17 : decode cL_sync 17 = .ok (.ireturn, 1) := by decide +kernel
theorem dL_sync_18 : decode cL_sync 18 = .ok (.iconst 0, 1) := by decide +kernel
theorem dL_sync_19 : decode cL_sync 19 = .ok (.ireturn, 1) := by decide +kernel
theorem dL_failAt_0 : decode cL_failAt 0 = .ok (.aload_n 2, 1) := by decide +kernel
theorem dL_failAt_1 : decode cL_failAt 1 = .ok (.iconst 0, 1) := by decide +kernel
theorem dL_failAt_2 : decode cL_failAt 2 = .ok (.aload_n 0, 1) := by decide +kernel
theorem dL_failAt_3 : decode cL_failAt 3 = .ok (.iload_n 1, 1) := by decide +kernel
theorem dL_failAt_4 : decode cL_failAt 4 = .ok (.invokevirtual 79, 3) := by decide +kernel
theorem dL_failAt_7 : decode cL_failAt 7 = .ok (.i2l, 1) := by decide +kernel
theorem dL_failAt_8 : decode cL_failAt 8 = .ok (.lastore, 1) := by decide +kernel
theorem dL_failAt_9 : decode cL_failAt 9 = .ok (.goto 9, 3) := by decide +kernel
theorem dL_failAt_12 : decode cL_failAt 12 = .ok (.astore_n 3, 1) := by decide +kernel
theorem dL_failAt_13 : decode cL_failAt 13 = .ok (.iconst 1, 1) := by decide +kernel
theorem dL_failAt_14 : decode cL_failAt 14 = .ok (.ireturn, 1) := by decide +kernel
theorem dL_failAt_15 : decode cL_failAt 15 = .ok (.astore_n 3, 1) := by decide +kernel
theorem dL_failAt_16 : decode cL_failAt 16 = .ok (.iconst 2, 1) := by decide +kernel
theorem dL_failAt_17 : decode cL_failAt 17 = .ok (.ireturn, 1) := by decide +kernel
theorem dL_failAt_18 : decode cL_failAt 18 = .ok (.iconst 0, 1) := by decide +kernel
theorem dL_failAt_19 : decode cL_failAt 19 = .ok (.ireturn, 1) := by decide +kernel
theorem dL_fail_0 : decode cL_fail 0 = .ok (.aload_n 1, 1) := by decide +kernel
theorem dL_fail_1 : decode cL_fail 1 = .ok (.iconst 0, 1) := by decide +kernel
theorem dL_fail_2 : decode cL_fail 2 = .ok (.aload_n 0, 1) := by decide +kernel
theorem dL_fail_3 : decode cL_fail 3 = .ok (.invokevirtual 82, 3) := by decide +kernel
theorem dL_fail_6 : decode cL_fail 6 = .ok (.i2l, 1) := by decide +kernel
theorem dL_fail_7 : decode cL_fail 7 = .ok (.lastore, 1) := by decide +kernel
theorem dL_fail_8 : decode cL_fail 8 = .ok (.goto 6, 3) := by decide +kernel
theorem dL_fail_11 : decode cL_fail 11 = .ok (.astore_n 2, 1) := by decide +kernel
theorem dL_fail_12 : decode cL_fail 12 = .ok (.iconst 1, 1) := by decide +kernel
theorem dL_fail_13 : decode cL_fail 13 = .ok (.ireturn, 1) := by decide +kernel
theorem dL_fail_14 : decode cL_fail 14 = .ok (.iconst 0, 1) := by decide +kernel
theorem dL_fail_15 : decode cL_fail 15 = .ok (.ireturn, 1) := by decide +kernel
theorem dL_powerOn_0 : decode cL_powerOn 0 = .ok (.aload_n 1, 1) := by decide +kernel
theorem dL_powerOn_1 : decode cL_powerOn 1 = .ok (.iconst 0, 1) := by decide +kernel
theorem dL_powerOn_2 : decode cL_powerOn 2 = .ok (.aload_n 0, 1) := by decide +kernel
theorem dL_powerOn_3 : decode cL_powerOn 3 = .ok (.invokevirtual 85, 3) := by decide +kernel
theorem dL_powerOn_6 : decode cL_powerOn 6 = .ok (.i2l, 1) := by decide +kernel
theorem dL_powerOn_7 : decode cL_powerOn 7 = .ok (.lastore, 1) := by decide +kernel
theorem dL_powerOn_8 : decode cL_powerOn 8 = .ok (.goto 6, 3) := by decide +kernel
theorem dL_powerOn_11 : decode cL_powerOn 11 = .ok (.astore_n 2, 1) := by decide +kernel
theorem dL_powerOn_12 : decode cL_powerOn 12 = .ok (.iconst 1, 1) := by decide +kernel
theorem dL_powerOn_13 : decode cL_powerOn 13 = .ok (.ireturn, 1) := by decide +kernel
theorem dL_powerOn_14 : decode cL_powerOn 14 = .ok (.iconst 0, 1) := by decide +kernel
theorem dL_powerOn_15 : decode cL_powerOn 15 = .ok (.ireturn, 1) := by decide +kernel
theorem dL_damage_0 : decode cL_damage 0 = .ok (.aload 4, 2) := by decide +kernel
theorem dL_damage_2 : decode cL_damage 2 = .ok (.iconst 0, 1) := by decide +kernel
theorem dL_damage_3 : decode cL_damage 3 = .ok (.aload_n 0, 1) := by decide +kernel
theorem dL_damage_4 : decode cL_damage 4 = .ok (.iload_n 1, 1) := by decide +kernel
theorem dL_damage_5 : decode cL_damage 5 = .ok (.iload_n 2, 1) := by decide +kernel
theorem dL_damage_6 : decode cL_damage 6 = .ok (.iload_n 3, 1) := by decide +kernel
theorem dL_damage_7 : decode cL_damage 7 = .ok (.invokevirtual 88, 3) := by decide +kernel
theorem dL_damage_10 : decode cL_damage 10 = .ok (.i2l, 1) := by decide +kernel
theorem dL_damage_11 : decode cL_damage 11 = .ok (.lastore, 1) := by decide +kernel
theorem dL_damage_12 : decode cL_damage 12 = .ok (.goto 15, 3) := by decide +kernel
theorem dL_damage_15 : decode cL_damage 15 = .ok (.astore 5, 2) := by decide +kernel
theorem dL_damage_17 : decode cL_damage 17 = .ok (.iconst 1, 1) := by decide +kernel
theorem dL_damage_18 : decode cL_damage 18 = .ok (.ireturn, 1) := by decide +kernel
theorem dL_damage_19 : decode cL_damage 19 = .ok (.astore 5, 2) := by decide +kernel
theorem dL_damage_21 : decode cL_damage 21 = .ok (.iconst 2, 1) := by decide +kernel
theorem dL_damage_22 : decode cL_damage 22 = .ok (.ireturn, 1) := by decide +kernel
theorem dL_damage_23 : decode cL_damage 23 = .ok (.astore 5, 2) := by decide +kernel
theorem dL_damage_25 : decode cL_damage 25 = .ok (.iconst 3, 1) := by decide +kernel
theorem dL_damage_26 : decode cL_damage 26 = .ok (.ireturn, 1) := by decide +kernel
theorem dL_damage_27 : decode cL_damage 27 = .ok (.iconst 0, 1) := by decide +kernel
theorem dL_damage_28 : decode cL_damage 28 = .ok (.ireturn, 1) := by decide +kernel
theorem dL_scrub_0 : decode cL_scrub 0 = .ok (.aload_n 2, 1) := by decide +kernel
theorem dL_scrub_1 : decode cL_scrub 1 = .ok (.iconst 0, 1) := by decide +kernel
theorem dL_scrub_2 : decode cL_scrub 2 = .ok (.aload_n 0, 1) := by decide +kernel
theorem dL_scrub_3 : decode cL_scrub 3 = .ok (.iload_n 1, 1) := by decide +kernel
theorem dL_scrub_4 : decode cL_scrub 4 = .ok (.invokevirtual 91, 3) := by decide +kernel
theorem dL_scrub_7 : decode cL_scrub 7 = .ok (.i2l, 1) := by decide +kernel
theorem dL_scrub_8 : decode cL_scrub 8 = .ok (.lastore, 1) := by decide +kernel
theorem dL_scrub_9 : decode cL_scrub 9 = .ok (.goto 6, 3) := by decide +kernel
theorem dL_scrub_12 : decode cL_scrub 12 = .ok (.astore_n 3, 1) := by decide +kernel
theorem dL_scrub_13 : decode cL_scrub 13 = .ok (.iconst 1, 1) := by decide +kernel
theorem dL_scrub_14 : decode cL_scrub 14 = .ok (.ireturn, 1) := by decide +kernel
theorem dL_scrub_15 : decode cL_scrub 15 = .ok (.iconst 0, 1) := by decide +kernel
theorem dL_scrub_16 : decode cL_scrub 16 = .ok (.ireturn, 1) := by decide +kernel
theorem dL_keepImage_0 : decode cL_keepImage 0 = .ok (.aload_n 2, 1) := by decide +kernel
theorem dL_keepImage_1 : decode cL_keepImage 1 = .ok (.iconst 0, 1) := by decide +kernel
theorem dL_keepImage_2 : decode cL_keepImage 2 = .ok (.aload_n 0, 1) := by decide +kernel
theorem dL_keepImage_3 : decode cL_keepImage 3 = .ok (.iload_n 1, 1) := by decide +kernel
theorem dL_keepImage_4 : decode cL_keepImage 4 = .ok (.invokevirtual 94, 3) := by decide +kernel
theorem dL_keepImage_7 : decode cL_keepImage 7 = .ok (.i2l, 1) := by decide +kernel
theorem dL_keepImage_8 : decode cL_keepImage 8 = .ok (.lastore, 1) := by decide +kernel
theorem dL_keepImage_9 : decode cL_keepImage 9 = .ok (.goto 9, 3) := by decide +kernel
theorem dL_keepImage_12 : decode cL_keepImage 12 = .ok (.astore_n 3, 1) := by decide +kernel
theorem dL_keepImage_13 : decode cL_keepImage 13 = .ok (.iconst 1, 1) := by decide +kernel
theorem dL_keepImage_14 : decode cL_keepImage 14 = .ok (.ireturn, 1) := by decide +kernel
theorem dL_keepImage_15 : decode cL_keepImage 15 = .ok (.astore_n 3, 1) := by decide +kernel
theorem dL_keepImage_16 : decode cL_keepImage 16 = .ok (.iconst 2, 1) := by decide +kernel
theorem dL_keepImage_17 : decode cL_keepImage 17 = .ok (.ireturn, 1) := by decide +kernel
theorem dL_keepImage_18 : decode cL_keepImage 18 = .ok (.iconst 0, 1) := by decide +kernel
theorem dL_keepImage_19 : decode cL_keepImage 19 = .ok (.ireturn, 1) := by decide +kernel
theorem dL_layBack_0 : decode cL_layBack 0 = .ok (.aload_n 3, 1) := by decide +kernel
theorem dL_layBack_1 : decode cL_layBack 1 = .ok (.iconst 0, 1) := by decide +kernel
theorem dL_layBack_2 : decode cL_layBack 2 = .ok (.aload_n 0, 1) := by decide +kernel
theorem dL_layBack_3 : decode cL_layBack 3 = .ok (.iload_n 1, 1) := by decide +kernel
theorem dL_layBack_4 : decode cL_layBack 4 = .ok (.iload_n 2, 1) := by decide +kernel
theorem dL_layBack_5 : decode cL_layBack 5 = .ok (.invokevirtual 97, 3) := by decide +kernel
theorem dL_layBack_8 : decode cL_layBack 8 = .ok (.i2l, 1) := by decide +kernel
theorem dL_layBack_9 : decode cL_layBack 9 = .ok (.lastore, 1) := by decide +kernel
theorem dL_layBack_10 : decode cL_layBack 10 = .ok (.goto 11, 3) := by decide +kernel
theorem dL_layBack_13 : decode cL_layBack 13 = .ok (.astore 4, 2) := by decide +kernel
theorem dL_layBack_15 : decode cL_layBack 15 = .ok (.iconst 1, 1) := by decide +kernel
theorem dL_layBack_16 : decode cL_layBack 16 = .ok (.ireturn, 1) := by decide +kernel
theorem dL_layBack_17 : decode cL_layBack 17 = .ok (.astore 4, 2) := by decide +kernel
theorem dL_layBack_19 : decode cL_layBack 19 = .ok (.iconst 2, 1) := by decide +kernel
theorem dL_layBack_20 : decode cL_layBack 20 = .ok (.ireturn, 1) := by decide +kernel
theorem dL_layBack_21 : decode cL_layBack 21 = .ok (.iconst 0, 1) := by decide +kernel
theorem dL_layBack_22 : decode cL_layBack 22 = .ok (.ireturn, 1) := by decide +kernel
theorem dL_getWear_0 : decode cL_getWear 0 = .ok (.aload_n 2, 1) := by decide +kernel
theorem dL_getWear_1 : decode cL_getWear 1 = .ok (.iconst 0, 1) := by decide +kernel
theorem dL_getWear_2 : decode cL_getWear 2 = .ok (.aload_n 0, 1) := by decide +kernel
theorem dL_getWear_3 : decode cL_getWear 3 = .ok (.iload_n 1, 1) := by decide +kernel
theorem dL_getWear_4 : decode cL_getWear 4 = .ok (.invokevirtual 100, 3) := by decide +kernel
theorem dL_getWear_7 : decode cL_getWear 7 = .ok (.i2l, 1) := by decide +kernel
theorem dL_getWear_8 : decode cL_getWear 8 = .ok (.lastore, 1) := by decide +kernel
theorem dL_getWear_9 : decode cL_getWear 9 = .ok (.goto 6, 3) := by decide +kernel
theorem dL_getWear_12 : decode cL_getWear 12 = .ok (.astore_n 3, 1) := by decide +kernel
theorem dL_getWear_13 : decode cL_getWear 13 = .ok (.iconst 1, 1) := by decide +kernel
theorem dL_getWear_14 : decode cL_getWear 14 = .ok (.ireturn, 1) := by decide +kernel
theorem dL_getWear_15 : decode cL_getWear 15 = .ok (.iconst 0, 1) := by decide +kernel
theorem dL_getWear_16 : decode cL_getWear 16 = .ok (.ireturn, 1) := by decide +kernel
theorem dL_getBill_0 : decode cL_getBill 0 = .ok (.aload_n 2, 1) := by decide +kernel
theorem dL_getBill_1 : decode cL_getBill 1 = .ok (.iconst 0, 1) := by decide +kernel
theorem dL_getBill_2 : decode cL_getBill 2 = .ok (.aload_n 0, 1) := by decide +kernel
theorem dL_getBill_3 : decode cL_getBill 3 = .ok (.iload_n 1, 1) := by decide +kernel
theorem dL_getBill_4 : decode cL_getBill 4 = .ok (.invokevirtual 103, 3) := by decide +kernel
theorem dL_getBill_7 : decode cL_getBill 7 = .ok (.lastore, 1) := by decide +kernel
theorem dL_getBill_8 : decode cL_getBill 8 = .ok (.goto 6, 3) := by decide +kernel
theorem dL_getBill_11 : decode cL_getBill 11 = .ok (.astore_n 3, 1) := by decide +kernel
theorem dL_getBill_12 : decode cL_getBill 12 = .ok (.iconst 1, 1) := by decide +kernel
theorem dL_getBill_13 : decode cL_getBill 13 = .ok (.ireturn, 1) := by decide +kernel
theorem dL_getBill_14 : decode cL_getBill 14 = .ok (.iconst 0, 1) := by decide +kernel
theorem dL_getBill_15 : decode cL_getBill 15 = .ok (.ireturn, 1) := by decide +kernel
theorem dL_missesBy_0 : decode cL_missesBy 0 = .ok (.aload_n 3, 1) := by decide +kernel
theorem dL_missesBy_1 : decode cL_missesBy 1 = .ok (.iconst 0, 1) := by decide +kernel
theorem dL_missesBy_2 : decode cL_missesBy 2 = .ok (.aload_n 0, 1) := by decide +kernel
theorem dL_missesBy_3 : decode cL_missesBy 3 = .ok (.iload_n 1, 1) := by decide +kernel
theorem dL_missesBy_4 : decode cL_missesBy 4 = .ok (.iload_n 2, 1) := by decide +kernel
theorem dL_missesBy_5 : decode cL_missesBy 5 = .ok (.invokevirtual 107, 3) := by decide +kernel
theorem dL_missesBy_8 : decode cL_missesBy 8 = .ok (.i2l, 1) := by decide +kernel
theorem dL_missesBy_9 : decode cL_missesBy 9 = .ok (.lastore, 1) := by decide +kernel
theorem dL_missesBy_10 : decode cL_missesBy 10 = .ok (.goto 7, 3) := by decide +kernel
theorem dL_missesBy_13 : decode cL_missesBy 13 = .ok (.astore 4, 2) := by decide +kernel
theorem dL_missesBy_15 : decode cL_missesBy 15 = .ok (.iconst 1, 1) := by decide +kernel
theorem dL_missesBy_16 : decode cL_missesBy 16 = .ok (.ireturn, 1) := by decide +kernel
theorem dL_missesBy_17 : decode cL_missesBy 17 = .ok (.iconst 0, 1) := by decide +kernel
theorem dL_missesBy_18 : decode cL_missesBy 18 = .ok (.ireturn, 1) := by decide +kernel
theorem dL_framesFor_0 : decode cL_framesFor 0 = .ok (.aload_n 2, 1) := by decide +kernel
theorem dL_framesFor_1 : decode cL_framesFor 1 = .ok (.iconst 0, 1) := by decide +kernel
theorem dL_framesFor_2 : decode cL_framesFor 2 = .ok (.aload_n 0, 1) := by decide +kernel
theorem dL_framesFor_3 : decode cL_framesFor 3 = .ok (.iload_n 1, 1) := by decide +kernel
theorem dL_framesFor_4 : decode cL_framesFor 4 = .ok (.invokevirtual 111, 3) := by decide +kernel
theorem dL_framesFor_7 : decode cL_framesFor 7 = .ok (.i2l, 1) := by decide +kernel
theorem dL_framesFor_8 : decode cL_framesFor 8 = .ok (.lastore, 1) := by decide +kernel
theorem dL_framesFor_9 : decode cL_framesFor 9 = .ok (.goto 6, 3) := by decide +kernel
theorem dL_framesFor_12 : decode cL_framesFor 12 = .ok (.astore_n 3, 1) := by decide +kernel
theorem dL_framesFor_13 : decode cL_framesFor 13 = .ok (.iconst 1, 1) := by decide +kernel
theorem dL_framesFor_14 : decode cL_framesFor 14 = .ok (.ireturn, 1) := by decide +kernel
theorem dL_framesFor_15 : decode cL_framesFor 15 = .ok (.iconst 0, 1) := by decide +kernel
theorem dL_framesFor_16 : decode cL_framesFor 16 = .ok (.ireturn, 1) := by decide +kernel
theorem dL_getHitShare_0 : decode cL_getHitShare 0 = .ok (.aload_n 1, 1) := by decide +kernel
theorem dL_getHitShare_1 : decode cL_getHitShare 1 = .ok (.iconst 0, 1) := by decide +kernel
theorem dL_getHitShare_2 : decode cL_getHitShare 2 = .ok (.aload_n 0, 1) := by decide +kernel
theorem dL_getHitShare_3 : decode cL_getHitShare 3 = .ok (.invokevirtual 114, 3) := by decide +kernel
theorem dL_getHitShare_6 : decode cL_getHitShare 6 = .ok (.f2d, 1) := by decide +kernel
theorem dL_getHitShare_7 : decode cL_getHitShare 7 = .ok (.dastore, 1) := by decide +kernel
theorem dL_getHitShare_8 : decode cL_getHitShare 8 = .ok (.goto 6, 3) := by decide +kernel
theorem dL_getHitShare_11 : decode cL_getHitShare 11 = .ok (.astore_n 2, 1) := by decide +kernel
theorem dL_getHitShare_12 : decode cL_getHitShare 12 = .ok (.iconst 1, 1) := by decide +kernel
theorem dL_getHitShare_13 : decode cL_getHitShare 13 = .ok (.ireturn, 1) := by decide +kernel
theorem dL_getHitShare_14 : decode cL_getHitShare 14 = .ok (.iconst 0, 1) := by decide +kernel
theorem dL_getHitShare_15 : decode cL_getHitShare 15 = .ok (.ireturn, 1) := by decide +kernel
theorem dL_getHitBits_0 : decode cL_getHitBits 0 = .ok (.aload_n 1, 1) := by decide +kernel
theorem dL_getHitBits_1 : decode cL_getHitBits 1 = .ok (.iconst 0, 1) := by decide +kernel
theorem dL_getHitBits_2 : decode cL_getHitBits 2 = .ok (.aload_n 0, 1) := by decide +kernel
theorem dL_getHitBits_3 : decode cL_getHitBits 3 = .ok (.invokevirtual 120, 3) := by decide +kernel
theorem dL_getHitBits_6 : decode cL_getHitBits 6 = .ok (.i2l, 1) := by decide +kernel
theorem dL_getHitBits_7 : decode cL_getHitBits 7 = .ok (.lastore, 1) := by decide +kernel
theorem dL_getHitBits_8 : decode cL_getHitBits 8 = .ok (.goto 6, 3) := by decide +kernel
theorem dL_getHitBits_11 : decode cL_getHitBits 11 = .ok (.astore_n 2, 1) := by decide +kernel
theorem dL_getHitBits_12 : decode cL_getHitBits 12 = .ok (.iconst 1, 1) := by decide +kernel
theorem dL_getHitBits_13 : decode cL_getHitBits 13 = .ok (.ireturn, 1) := by decide +kernel
theorem dL_getHitBits_14 : decode cL_getHitBits 14 = .ok (.iconst 0, 1) := by decide +kernel
theorem dL_getHitBits_15 : decode cL_getHitBits 15 = .ok (.ireturn, 1) := by decide +kernel
theorem dL_getMeanCost_0 : decode cL_getMeanCost 0 = .ok (.aload_n 1, 1) := by decide +kernel
theorem dL_getMeanCost_1 : decode cL_getMeanCost 1 = .ok (.iconst 0, 1) := by decide +kernel
theorem dL_getMeanCost_2 : decode cL_getMeanCost 2 = .ok (.aload_n 0, 1) := by decide +kernel
theorem dL_getMeanCost_3 : decode cL_getMeanCost 3 = .ok (.invokevirtual 123, 3) := by decide +kernel
theorem dL_getMeanCost_6 : decode cL_getMeanCost 6 = .ok (.dastore, 1) := by decide +kernel
theorem dL_getMeanCost_7 : decode cL_getMeanCost 7 = .ok (.goto 6, 3) := by decide +kernel
theorem dL_getMeanCost_10 : decode cL_getMeanCost 10 = .ok (.astore_n 2, 1) := by decide +kernel
theorem dL_getMeanCost_11 : decode cL_getMeanCost 11 = .ok (.iconst 1, 1) := by decide +kernel
theorem dL_getMeanCost_12 : decode cL_getMeanCost 12 = .ok (.ireturn, 1) := by decide +kernel
theorem dL_getMeanCost_13 : decode cL_getMeanCost 13 = .ok (.iconst 0, 1) := by decide +kernel
theorem dL_getMeanCost_14 : decode cL_getMeanCost 14 = .ok (.ireturn, 1) := by decide +kernel
theorem dL_law_0 : decode cL_law 0 = .ok (.new 8, 3) := by decide +kernel
theorem dL_law_3 : decode cL_law 3 = .ok (.dup, 1) := by decide +kernel
theorem dL_law_4 : decode cL_law 4 = .ok (.invokespecial 127, 3) := by decide +kernel
theorem dL_law_7 : decode cL_law 7 = .ok (.astore_n 1, 1) := by decide +kernel
theorem dL_law_8 : decode cL_law 8 = .ok (.new 128, 3) := by decide +kernel
theorem dL_law_11 : decode cL_law 11 = .ok (.dup, 1) := by decide +kernel
theorem dL_law_12 : decode cL_law 12 = .ok (.invokespecial 130, 3) := by decide +kernel
theorem dL_law_15 : decode cL_law 15 = .ok (.astore_n 2, 1) := by decide +kernel
theorem dL_law_16 : decode cL_law 16 = .ok (.iconst 1, 1) := by decide +kernel
theorem dL_law_17 : decode cL_law 17 = .ok (.newarray .long, 2) := by decide +kernel
theorem dL_law_19 : decode cL_law 19 = .ok (.astore_n 3, 1) := by decide +kernel
theorem dL_law_20 : decode cL_law 20 = .ok (.iconst 1, 1) := by decide +kernel
theorem dL_law_21 : decode cL_law 21 = .ok (.newarray .double, 2) := by decide +kernel
theorem dL_law_23 : decode cL_law 23 = .ok (.astore 4, 2) := by decide +kernel
theorem dL_law_25 : decode cL_law 25 = .ok (.iconst 0, 1) := by decide +kernel
theorem dL_law_26 : decode cL_law 26 = .ok (.istore 5, 2) := by decide +kernel
theorem dL_law_28 : decode cL_law 28 = .ok (.iload 5, 2) := by decide +kernel
theorem dL_law_30 : decode cL_law 30 = .ok (.aload_n 0, 1) := by decide +kernel
theorem dL_law_31 : decode cL_law 31 = .ok (.arraylength, 1) := by decide +kernel
theorem dL_law_32 : decode cL_law 32 = .ok (.iconst 4, 1) := by decide +kernel
theorem dL_law_33 : decode cL_law 33 = .ok (.isub, 1) := by decide +kernel
theorem dL_law_34 : decode cL_law 34 = .ok (.if_icmp .gt 2263, 3) := by decide +kernel
theorem dL_law_37 : decode cL_law 37 = .ok (.aload_n 0, 1) := by decide +kernel
theorem dL_law_38 : decode cL_law 38 = .ok (.iload 5, 2) := by decide +kernel
theorem dL_law_40 : decode cL_law 40 = .ok (.iaload, 1) := by decide +kernel
theorem dL_law_41 : decode cL_law 41 = .ok (.bipush 63, 2) := by decide +kernel
theorem dL_law_43 : decode cL_law 43 = .ok (.iand, 1) := by decide +kernel
theorem dL_law_44 : decode cL_law 44 = .ok (.tableswitch 2247 0 44 #[196, 252, 308, 366, 422, 478, 534, 602, 682, 750, 818, 886, 961, 1029, 1073, 1117, 1161, 1174, 1218, 1274, 1287, 1343, 1387, 1431, 1444, 1524, 1580, 1636, 1704, 1717, 1730, 1743, 1756, 1769, 1782, 1795, 1808, 1864, 1919, 1989, 2045, 2111, 2155, 2220, 2234], 196) := by decide +kernel
theorem dL_law_240 : decode cL_law 240 = .ok (.aload_n 1, 1) := by decide +kernel
theorem dL_law_241 : decode cL_law 241 = .ok (.aload_n 0, 1) := by decide +kernel
theorem dL_law_242 : decode cL_law 242 = .ok (.iload 5, 2) := by decide +kernel
theorem dL_law_244 : decode cL_law 244 = .ok (.iconst 1, 1) := by decide +kernel
theorem dL_law_245 : decode cL_law 245 = .ok (.iadd, 1) := by decide +kernel
theorem dL_law_246 : decode cL_law 246 = .ok (.iaload, 1) := by decide +kernel
theorem dL_law_247 : decode cL_law 247 = .ok (.aload_n 3, 1) := by decide +kernel
theorem dL_law_248 : decode cL_law 248 = .ok (.invokestatic 131, 3) := by decide +kernel
theorem dL_law_251 : decode cL_law 251 = .ok (.istore 6, 2) := by decide +kernel
theorem dL_law_253 : decode cL_law 253 = .ok (.aload_n 2, 1) := by decide +kernel
theorem dL_law_254 : decode cL_law 254 = .ok (.aload_n 0, 1) := by decide +kernel
theorem dL_law_255 : decode cL_law 255 = .ok (.iload 5, 2) := by decide +kernel
theorem dL_law_257 : decode cL_law 257 = .ok (.iconst 1, 1) := by decide +kernel
theorem dL_law_258 : decode cL_law 258 = .ok (.iadd, 1) := by decide +kernel
theorem dL_law_259 : decode cL_law 259 = .ok (.iaload, 1) := by decide +kernel
theorem dL_law_260 : decode cL_law 260 = .ok (.invokevirtual 136, 3) := by decide +kernel
theorem dL_law_263 : decode cL_law 263 = .ok (.istore 7, 2) := by decide +kernel
theorem dL_law_265 : decode cL_law 265 = .ok (.aload_n 2, 1) := by decide +kernel
theorem dL_law_266 : decode cL_law 266 = .ok (.invokevirtual 137, 3) := by decide +kernel
theorem dL_law_269 : decode cL_law 269 = .ok (.iload 6, 2) := by decide +kernel
theorem dL_law_271 : decode cL_law 271 = .ok (.if_icmp .eq 5, 3) := by decide +kernel
theorem dL_law_274 : decode cL_law 274 = .ok (.iconst 0, 1) := by decide +kernel
theorem dL_law_275 : decode cL_law 275 = .ok (.ireturn, 1) := by decide +kernel
theorem dL_law_276 : decode cL_law 276 = .ok (.iload 6, 2) := by decide +kernel
theorem dL_law_278 : decode cL_law 278 = .ok (.ifCond .ne 15, 3) := by decide +kernel
theorem dL_law_281 : decode cL_law 281 = .ok (.aload_n 3, 1) := by decide +kernel
theorem dL_law_282 : decode cL_law 282 = .ok (.iconst 0, 1) := by decide +kernel
theorem dL_law_283 : decode cL_law 283 = .ok (.laload, 1) := by decide +kernel
theorem dL_law_284 : decode cL_law 284 = .ok (.iload 7, 2) := by decide +kernel
theorem dL_law_286 : decode cL_law 286 = .ok (.i2l, 1) := by decide +kernel
theorem dL_law_287 : decode cL_law 287 = .ok (.lcmp, 1) := by decide +kernel
theorem dL_law_288 : decode cL_law 288 = .ok (.ifCond .eq 5, 3) := by decide +kernel
theorem dL_law_291 : decode cL_law 291 = .ok (.iconst 0, 1) := by decide +kernel
theorem dL_law_292 : decode cL_law 292 = .ok (.ireturn, 1) := by decide +kernel
theorem dL_law_293 : decode cL_law 293 = .ok (.goto 1998, 3) := by decide +kernel
theorem dL_law_296 : decode cL_law 296 = .ok (.aload_n 1, 1) := by decide +kernel
theorem dL_law_297 : decode cL_law 297 = .ok (.aload_n 0, 1) := by decide +kernel
theorem dL_law_298 : decode cL_law 298 = .ok (.iload 5, 2) := by decide +kernel
theorem dL_law_300 : decode cL_law 300 = .ok (.iconst 1, 1) := by decide +kernel
theorem dL_law_301 : decode cL_law 301 = .ok (.iadd, 1) := by decide +kernel
theorem dL_law_302 : decode cL_law 302 = .ok (.iaload, 1) := by decide +kernel
theorem dL_law_303 : decode cL_law 303 = .ok (.aload_n 3, 1) := by decide +kernel
theorem dL_law_304 : decode cL_law 304 = .ok (.invokestatic 140, 3) := by decide +kernel
theorem dL_law_307 : decode cL_law 307 = .ok (.istore 6, 2) := by decide +kernel
theorem dL_law_309 : decode cL_law 309 = .ok (.aload_n 2, 1) := by decide +kernel
theorem dL_law_310 : decode cL_law 310 = .ok (.aload_n 0, 1) := by decide +kernel
theorem dL_law_311 : decode cL_law 311 = .ok (.iload 5, 2) := by decide +kernel
theorem dL_law_313 : decode cL_law 313 = .ok (.iconst 1, 1) := by decide +kernel
theorem dL_law_314 : decode cL_law 314 = .ok (.iadd, 1) := by decide +kernel
theorem dL_law_315 : decode cL_law 315 = .ok (.iaload, 1) := by decide +kernel
theorem dL_law_316 : decode cL_law 316 = .ok (.invokevirtual 142, 3) := by decide +kernel
theorem dL_law_319 : decode cL_law 319 = .ok (.istore 7, 2) := by decide +kernel
theorem dL_law_321 : decode cL_law 321 = .ok (.aload_n 2, 1) := by decide +kernel
theorem dL_law_322 : decode cL_law 322 = .ok (.invokevirtual 137, 3) := by decide +kernel
theorem dL_law_325 : decode cL_law 325 = .ok (.iload 6, 2) := by decide +kernel
theorem dL_law_327 : decode cL_law 327 = .ok (.if_icmp .eq 5, 3) := by decide +kernel
theorem dL_law_330 : decode cL_law 330 = .ok (.iconst 0, 1) := by decide +kernel
theorem dL_law_331 : decode cL_law 331 = .ok (.ireturn, 1) := by decide +kernel
theorem dL_law_332 : decode cL_law 332 = .ok (.iload 6, 2) := by decide +kernel
theorem dL_law_334 : decode cL_law 334 = .ok (.ifCond .ne 15, 3) := by decide +kernel
theorem dL_law_337 : decode cL_law 337 = .ok (.aload_n 3, 1) := by decide +kernel
theorem dL_law_338 : decode cL_law 338 = .ok (.iconst 0, 1) := by decide +kernel
theorem dL_law_339 : decode cL_law 339 = .ok (.laload, 1) := by decide +kernel
theorem dL_law_340 : decode cL_law 340 = .ok (.iload 7, 2) := by decide +kernel
theorem dL_law_342 : decode cL_law 342 = .ok (.i2l, 1) := by decide +kernel
theorem dL_law_343 : decode cL_law 343 = .ok (.lcmp, 1) := by decide +kernel
theorem dL_law_344 : decode cL_law 344 = .ok (.ifCond .eq 5, 3) := by decide +kernel
theorem dL_law_347 : decode cL_law 347 = .ok (.iconst 0, 1) := by decide +kernel
theorem dL_law_348 : decode cL_law 348 = .ok (.ireturn, 1) := by decide +kernel
theorem dL_law_349 : decode cL_law 349 = .ok (.goto 1942, 3) := by decide +kernel
theorem dL_law_352 : decode cL_law 352 = .ok (.aload_n 1, 1) := by decide +kernel
theorem dL_law_353 : decode cL_law 353 = .ok (.aload_n 0, 1) := by decide +kernel
theorem dL_law_354 : decode cL_law 354 = .ok (.iload 5, 2) := by decide +kernel
theorem dL_law_356 : decode cL_law 356 = .ok (.iconst 1, 1) := by decide +kernel
theorem dL_law_357 : decode cL_law 357 = .ok (.iadd, 1) := by decide +kernel
theorem dL_law_358 : decode cL_law 358 = .ok (.iaload, 1) := by decide +kernel
theorem dL_law_359 : decode cL_law 359 = .ok (.i2c, 1) := by decide +kernel
theorem dL_law_360 : decode cL_law 360 = .ok (.aload_n 3, 1) := by decide +kernel
theorem dL_law_361 : decode cL_law 361 = .ok (.invokestatic 143, 3) := by decide +kernel
theorem dL_law_364 : decode cL_law 364 = .ok (.istore 6, 2) := by decide +kernel
theorem dL_law_366 : decode cL_law 366 = .ok (.aload_n 2, 1) := by decide +kernel
theorem dL_law_367 : decode cL_law 367 = .ok (.aload_n 0, 1) := by decide +kernel
theorem dL_law_368 : decode cL_law 368 = .ok (.iload 5, 2) := by decide +kernel
theorem dL_law_370 : decode cL_law 370 = .ok (.iconst 1, 1) := by decide +kernel
theorem dL_law_371 : decode cL_law 371 = .ok (.iadd, 1) := by decide +kernel
theorem dL_law_372 : decode cL_law 372 = .ok (.iaload, 1) := by decide +kernel
theorem dL_law_373 : decode cL_law 373 = .ok (.i2c, 1) := by decide +kernel
theorem dL_law_374 : decode cL_law 374 = .ok (.invokevirtual 146, 3) := by decide +kernel
theorem dL_law_377 : decode cL_law 377 = .ok (.istore 7, 2) := by decide +kernel
theorem dL_law_379 : decode cL_law 379 = .ok (.aload_n 2, 1) := by decide +kernel
theorem dL_law_380 : decode cL_law 380 = .ok (.invokevirtual 137, 3) := by decide +kernel
theorem dL_law_383 : decode cL_law 383 = .ok (.iload 6, 2) := by decide +kernel
theorem dL_law_385 : decode cL_law 385 = .ok (.if_icmp .eq 5, 3) := by decide +kernel
theorem dL_law_388 : decode cL_law 388 = .ok (.iconst 0, 1) := by decide +kernel
theorem dL_law_389 : decode cL_law 389 = .ok (.ireturn, 1) := by decide +kernel
theorem dL_law_390 : decode cL_law 390 = .ok (.iload 6, 2) := by decide +kernel
theorem dL_law_392 : decode cL_law 392 = .ok (.ifCond .ne 15, 3) := by decide +kernel
theorem dL_law_395 : decode cL_law 395 = .ok (.aload_n 3, 1) := by decide +kernel
theorem dL_law_396 : decode cL_law 396 = .ok (.iconst 0, 1) := by decide +kernel
theorem dL_law_397 : decode cL_law 397 = .ok (.laload, 1) := by decide +kernel
theorem dL_law_398 : decode cL_law 398 = .ok (.iload 7, 2) := by decide +kernel
theorem dL_law_400 : decode cL_law 400 = .ok (.i2l, 1) := by decide +kernel
theorem dL_law_401 : decode cL_law 401 = .ok (.lcmp, 1) := by decide +kernel
theorem dL_law_402 : decode cL_law 402 = .ok (.ifCond .eq 5, 3) := by decide +kernel
theorem dL_law_405 : decode cL_law 405 = .ok (.iconst 0, 1) := by decide +kernel
theorem dL_law_406 : decode cL_law 406 = .ok (.ireturn, 1) := by decide +kernel
theorem dL_law_407 : decode cL_law 407 = .ok (.goto 1884, 3) := by decide +kernel
theorem dL_law_410 : decode cL_law 410 = .ok (.aload_n 1, 1) := by decide +kernel
theorem dL_law_411 : decode cL_law 411 = .ok (.aload_n 0, 1) := by decide +kernel
theorem dL_law_412 : decode cL_law 412 = .ok (.iload 5, 2) := by decide +kernel
theorem dL_law_414 : decode cL_law 414 = .ok (.iconst 1, 1) := by decide +kernel
theorem dL_law_415 : decode cL_law 415 = .ok (.iadd, 1) := by decide +kernel
theorem dL_law_416 : decode cL_law 416 = .ok (.iaload, 1) := by decide +kernel
theorem dL_law_417 : decode cL_law 417 = .ok (.aload_n 3, 1) := by decide +kernel
theorem dL_law_418 : decode cL_law 418 = .ok (.invokestatic 147, 3) := by decide +kernel
theorem dL_law_421 : decode cL_law 421 = .ok (.istore 6, 2) := by decide +kernel
theorem dL_law_423 : decode cL_law 423 = .ok (.aload_n 2, 1) := by decide +kernel
theorem dL_law_424 : decode cL_law 424 = .ok (.aload_n 0, 1) := by decide +kernel
theorem dL_law_425 : decode cL_law 425 = .ok (.iload 5, 2) := by decide +kernel
theorem dL_law_427 : decode cL_law 427 = .ok (.iconst 1, 1) := by decide +kernel
theorem dL_law_428 : decode cL_law 428 = .ok (.iadd, 1) := by decide +kernel
theorem dL_law_429 : decode cL_law 429 = .ok (.iaload, 1) := by decide +kernel
theorem dL_law_430 : decode cL_law 430 = .ok (.invokevirtual 149, 3) := by decide +kernel
theorem dL_law_433 : decode cL_law 433 = .ok (.istore 7, 2) := by decide +kernel
theorem dL_law_435 : decode cL_law 435 = .ok (.aload_n 2, 1) := by decide +kernel
theorem dL_law_436 : decode cL_law 436 = .ok (.invokevirtual 137, 3) := by decide +kernel
theorem dL_law_439 : decode cL_law 439 = .ok (.iload 6, 2) := by decide +kernel
theorem dL_law_441 : decode cL_law 441 = .ok (.if_icmp .eq 5, 3) := by decide +kernel
theorem dL_law_444 : decode cL_law 444 = .ok (.iconst 0, 1) := by decide +kernel
theorem dL_law_445 : decode cL_law 445 = .ok (.ireturn, 1) := by decide +kernel
theorem dL_law_446 : decode cL_law 446 = .ok (.iload 6, 2) := by decide +kernel
theorem dL_law_448 : decode cL_law 448 = .ok (.ifCond .ne 15, 3) := by decide +kernel
theorem dL_law_451 : decode cL_law 451 = .ok (.aload_n 3, 1) := by decide +kernel
theorem dL_law_452 : decode cL_law 452 = .ok (.iconst 0, 1) := by decide +kernel
theorem dL_law_453 : decode cL_law 453 = .ok (.laload, 1) := by decide +kernel
theorem dL_law_454 : decode cL_law 454 = .ok (.iload 7, 2) := by decide +kernel
theorem dL_law_456 : decode cL_law 456 = .ok (.i2l, 1) := by decide +kernel
theorem dL_law_457 : decode cL_law 457 = .ok (.lcmp, 1) := by decide +kernel
theorem dL_law_458 : decode cL_law 458 = .ok (.ifCond .eq 5, 3) := by decide +kernel
theorem dL_law_461 : decode cL_law 461 = .ok (.iconst 0, 1) := by decide +kernel
theorem dL_law_462 : decode cL_law 462 = .ok (.ireturn, 1) := by decide +kernel
theorem dL_law_463 : decode cL_law 463 = .ok (.goto 1828, 3) := by decide +kernel
theorem dL_law_466 : decode cL_law 466 = .ok (.aload_n 1, 1) := by decide +kernel
theorem dL_law_467 : decode cL_law 467 = .ok (.aload_n 0, 1) := by decide +kernel
theorem dL_law_468 : decode cL_law 468 = .ok (.iload 5, 2) := by decide +kernel
theorem dL_law_470 : decode cL_law 470 = .ok (.iconst 1, 1) := by decide +kernel
theorem dL_law_471 : decode cL_law 471 = .ok (.iadd, 1) := by decide +kernel
theorem dL_law_472 : decode cL_law 472 = .ok (.iaload, 1) := by decide +kernel
theorem dL_law_473 : decode cL_law 473 = .ok (.aload_n 3, 1) := by decide +kernel
theorem dL_law_474 : decode cL_law 474 = .ok (.invokestatic 150, 3) := by decide +kernel
theorem dL_law_477 : decode cL_law 477 = .ok (.istore 6, 2) := by decide +kernel
theorem dL_law_479 : decode cL_law 479 = .ok (.aload_n 2, 1) := by decide +kernel
theorem dL_law_480 : decode cL_law 480 = .ok (.aload_n 0, 1) := by decide +kernel
theorem dL_law_481 : decode cL_law 481 = .ok (.iload 5, 2) := by decide +kernel
theorem dL_law_483 : decode cL_law 483 = .ok (.iconst 1, 1) := by decide +kernel
theorem dL_law_484 : decode cL_law 484 = .ok (.iadd, 1) := by decide +kernel
theorem dL_law_485 : decode cL_law 485 = .ok (.iaload, 1) := by decide +kernel
theorem dL_law_486 : decode cL_law 486 = .ok (.invokevirtual 152, 3) := by decide +kernel
theorem dL_law_489 : decode cL_law 489 = .ok (.istore 7, 2) := by decide +kernel
theorem dL_law_491 : decode cL_law 491 = .ok (.aload_n 2, 1) := by decide +kernel
theorem dL_law_492 : decode cL_law 492 = .ok (.invokevirtual 137, 3) := by decide +kernel
theorem dL_law_495 : decode cL_law 495 = .ok (.iload 6, 2) := by decide +kernel
theorem dL_law_497 : decode cL_law 497 = .ok (.if_icmp .eq 5, 3) := by decide +kernel
theorem dL_law_500 : decode cL_law 500 = .ok (.iconst 0, 1) := by decide +kernel
theorem dL_law_501 : decode cL_law 501 = .ok (.ireturn, 1) := by decide +kernel
theorem dL_law_502 : decode cL_law 502 = .ok (.iload 6, 2) := by decide +kernel
theorem dL_law_504 : decode cL_law 504 = .ok (.ifCond .ne 15, 3) := by decide +kernel
theorem dL_law_507 : decode cL_law 507 = .ok (.aload_n 3, 1) := by decide +kernel
theorem dL_law_508 : decode cL_law 508 = .ok (.iconst 0, 1) := by decide +kernel
theorem dL_law_509 : decode cL_law 509 = .ok (.laload, 1) := by decide +kernel
theorem dL_law_510 : decode cL_law 510 = .ok (.iload 7, 2) := by decide +kernel
theorem dL_law_512 : decode cL_law 512 = .ok (.i2l, 1) := by decide +kernel
theorem dL_law_513 : decode cL_law 513 = .ok (.lcmp, 1) := by decide +kernel
theorem dL_law_514 : decode cL_law 514 = .ok (.ifCond .eq 5, 3) := by decide +kernel
theorem dL_law_517 : decode cL_law 517 = .ok (.iconst 0, 1) := by decide +kernel
theorem dL_law_518 : decode cL_law 518 = .ok (.ireturn, 1) := by decide +kernel
theorem dL_law_519 : decode cL_law 519 = .ok (.goto 1772, 3) := by decide +kernel
theorem dL_law_522 : decode cL_law 522 = .ok (.aload_n 1, 1) := by decide +kernel
theorem dL_law_523 : decode cL_law 523 = .ok (.aload_n 0, 1) := by decide +kernel
theorem dL_law_524 : decode cL_law 524 = .ok (.iload 5, 2) := by decide +kernel
theorem dL_law_526 : decode cL_law 526 = .ok (.iconst 1, 1) := by decide +kernel
theorem dL_law_527 : decode cL_law 527 = .ok (.iadd, 1) := by decide +kernel
theorem dL_law_528 : decode cL_law 528 = .ok (.iaload, 1) := by decide +kernel
theorem dL_law_529 : decode cL_law 529 = .ok (.aload_n 3, 1) := by decide +kernel
theorem dL_law_530 : decode cL_law 530 = .ok (.invokestatic 153, 3) := by decide +kernel
theorem dL_law_533 : decode cL_law 533 = .ok (.istore 6, 2) := by decide +kernel
theorem dL_law_535 : decode cL_law 535 = .ok (.aload_n 2, 1) := by decide +kernel
theorem dL_law_536 : decode cL_law 536 = .ok (.aload_n 0, 1) := by decide +kernel
theorem dL_law_537 : decode cL_law 537 = .ok (.iload 5, 2) := by decide +kernel
theorem dL_law_539 : decode cL_law 539 = .ok (.iconst 1, 1) := by decide +kernel
theorem dL_law_540 : decode cL_law 540 = .ok (.iadd, 1) := by decide +kernel
theorem dL_law_541 : decode cL_law 541 = .ok (.iaload, 1) := by decide +kernel
theorem dL_law_542 : decode cL_law 542 = .ok (.invokevirtual 155, 3) := by decide +kernel
theorem dL_law_545 : decode cL_law 545 = .ok (.istore 7, 2) := by decide +kernel
theorem dL_law_547 : decode cL_law 547 = .ok (.aload_n 2, 1) := by decide +kernel
theorem dL_law_548 : decode cL_law 548 = .ok (.invokevirtual 137, 3) := by decide +kernel
theorem dL_law_551 : decode cL_law 551 = .ok (.iload 6, 2) := by decide +kernel
theorem dL_law_553 : decode cL_law 553 = .ok (.if_icmp .eq 5, 3) := by decide +kernel
theorem dL_law_556 : decode cL_law 556 = .ok (.iconst 0, 1) := by decide +kernel
theorem dL_law_557 : decode cL_law 557 = .ok (.ireturn, 1) := by decide +kernel
theorem dL_law_558 : decode cL_law 558 = .ok (.iload 6, 2) := by decide +kernel
theorem dL_law_560 : decode cL_law 560 = .ok (.ifCond .ne 15, 3) := by decide +kernel
theorem dL_law_563 : decode cL_law 563 = .ok (.aload_n 3, 1) := by decide +kernel
theorem dL_law_564 : decode cL_law 564 = .ok (.iconst 0, 1) := by decide +kernel
theorem dL_law_565 : decode cL_law 565 = .ok (.laload, 1) := by decide +kernel
theorem dL_law_566 : decode cL_law 566 = .ok (.iload 7, 2) := by decide +kernel
theorem dL_law_568 : decode cL_law 568 = .ok (.i2l, 1) := by decide +kernel
theorem dL_law_569 : decode cL_law 569 = .ok (.lcmp, 1) := by decide +kernel
theorem dL_law_570 : decode cL_law 570 = .ok (.ifCond .eq 5, 3) := by decide +kernel
theorem dL_law_573 : decode cL_law 573 = .ok (.iconst 0, 1) := by decide +kernel
theorem dL_law_574 : decode cL_law 574 = .ok (.ireturn, 1) := by decide +kernel
theorem dL_law_575 : decode cL_law 575 = .ok (.goto 1716, 3) := by decide +kernel
theorem dL_law_578 : decode cL_law 578 = .ok (.aload_n 1, 1) := by decide +kernel
theorem dL_law_579 : decode cL_law 579 = .ok (.aload_n 0, 1) := by decide +kernel
theorem dL_law_580 : decode cL_law 580 = .ok (.iload 5, 2) := by decide +kernel
theorem dL_law_582 : decode cL_law 582 = .ok (.iconst 1, 1) := by decide +kernel
theorem dL_law_583 : decode cL_law 583 = .ok (.iadd, 1) := by decide +kernel
theorem dL_law_584 : decode cL_law 584 = .ok (.iaload, 1) := by decide +kernel
theorem dL_law_585 : decode cL_law 585 = .ok (.aload_n 0, 1) := by decide +kernel
theorem dL_law_586 : decode cL_law 586 = .ok (.iload 5, 2) := by decide +kernel
theorem dL_law_588 : decode cL_law 588 = .ok (.iconst 2, 1) := by decide +kernel
theorem dL_law_589 : decode cL_law 589 = .ok (.iadd, 1) := by decide +kernel
theorem dL_law_590 : decode cL_law 590 = .ok (.iaload, 1) := by decide +kernel
theorem dL_law_591 : decode cL_law 591 = .ok (.aload_n 3, 1) := by decide +kernel
theorem dL_law_592 : decode cL_law 592 = .ok (.invokestatic 156, 3) := by decide +kernel
theorem dL_law_595 : decode cL_law 595 = .ok (.istore 6, 2) := by decide +kernel
theorem dL_law_597 : decode cL_law 597 = .ok (.aload_n 2, 1) := by decide +kernel
theorem dL_law_598 : decode cL_law 598 = .ok (.aload_n 0, 1) := by decide +kernel
theorem dL_law_599 : decode cL_law 599 = .ok (.iload 5, 2) := by decide +kernel
theorem dL_law_601 : decode cL_law 601 = .ok (.iconst 1, 1) := by decide +kernel
theorem dL_law_602 : decode cL_law 602 = .ok (.iadd, 1) := by decide +kernel
theorem dL_law_603 : decode cL_law 603 = .ok (.iaload, 1) := by decide +kernel
theorem dL_law_604 : decode cL_law 604 = .ok (.aload_n 0, 1) := by decide +kernel
theorem dL_law_605 : decode cL_law 605 = .ok (.iload 5, 2) := by decide +kernel
theorem dL_law_607 : decode cL_law 607 = .ok (.iconst 2, 1) := by decide +kernel
theorem dL_law_608 : decode cL_law 608 = .ok (.iadd, 1) := by decide +kernel
theorem dL_law_609 : decode cL_law 609 = .ok (.iaload, 1) := by decide +kernel
theorem dL_law_610 : decode cL_law 610 = .ok (.invokevirtual 159, 3) := by decide +kernel
theorem dL_law_613 : decode cL_law 613 = .ok (.istore 7, 2) := by decide +kernel
theorem dL_law_615 : decode cL_law 615 = .ok (.aload_n 2, 1) := by decide +kernel
theorem dL_law_616 : decode cL_law 616 = .ok (.invokevirtual 137, 3) := by decide +kernel
theorem dL_law_619 : decode cL_law 619 = .ok (.iload 6, 2) := by decide +kernel
theorem dL_law_621 : decode cL_law 621 = .ok (.if_icmp .eq 5, 3) := by decide +kernel
theorem dL_law_624 : decode cL_law 624 = .ok (.iconst 0, 1) := by decide +kernel
theorem dL_law_625 : decode cL_law 625 = .ok (.ireturn, 1) := by decide +kernel
theorem dL_law_626 : decode cL_law 626 = .ok (.iload 6, 2) := by decide +kernel
theorem dL_law_628 : decode cL_law 628 = .ok (.ifCond .ne 15, 3) := by decide +kernel
theorem dL_law_631 : decode cL_law 631 = .ok (.aload_n 3, 1) := by decide +kernel
theorem dL_law_632 : decode cL_law 632 = .ok (.iconst 0, 1) := by decide +kernel
theorem dL_law_633 : decode cL_law 633 = .ok (.laload, 1) := by decide +kernel
theorem dL_law_634 : decode cL_law 634 = .ok (.iload 7, 2) := by decide +kernel
theorem dL_law_636 : decode cL_law 636 = .ok (.i2l, 1) := by decide +kernel
theorem dL_law_637 : decode cL_law 637 = .ok (.lcmp, 1) := by decide +kernel
theorem dL_law_638 : decode cL_law 638 = .ok (.ifCond .eq 5, 3) := by decide +kernel
theorem dL_law_641 : decode cL_law 641 = .ok (.iconst 0, 1) := by decide +kernel
theorem dL_law_642 : decode cL_law 642 = .ok (.ireturn, 1) := by decide +kernel
theorem dL_law_643 : decode cL_law 643 = .ok (.goto 1648, 3) := by decide +kernel
theorem dL_law_646 : decode cL_law 646 = .ok (.aload_n 1, 1) := by decide +kernel
theorem dL_law_647 : decode cL_law 647 = .ok (.aload_n 0, 1) := by decide +kernel
theorem dL_law_648 : decode cL_law 648 = .ok (.iload 5, 2) := by decide +kernel
theorem dL_law_650 : decode cL_law 650 = .ok (.iconst 1, 1) := by decide +kernel
theorem dL_law_651 : decode cL_law 651 = .ok (.iadd, 1) := by decide +kernel
theorem dL_law_652 : decode cL_law 652 = .ok (.iaload, 1) := by decide +kernel
theorem dL_law_653 : decode cL_law 653 = .ok (.aload_n 0, 1) := by decide +kernel
theorem dL_law_654 : decode cL_law 654 = .ok (.iload 5, 2) := by decide +kernel
theorem dL_law_656 : decode cL_law 656 = .ok (.iconst 2, 1) := by decide +kernel
theorem dL_law_657 : decode cL_law 657 = .ok (.iadd, 1) := by decide +kernel
theorem dL_law_658 : decode cL_law 658 = .ok (.iaload, 1) := by decide +kernel
theorem dL_law_659 : decode cL_law 659 = .ok (.aload_n 0, 1) := by decide +kernel
theorem dL_law_660 : decode cL_law 660 = .ok (.iload 5, 2) := by decide +kernel
theorem dL_law_662 : decode cL_law 662 = .ok (.iconst 3, 1) := by decide +kernel
theorem dL_law_663 : decode cL_law 663 = .ok (.iadd, 1) := by decide +kernel
theorem dL_law_664 : decode cL_law 664 = .ok (.iaload, 1) := by decide +kernel
theorem dL_law_665 : decode cL_law 665 = .ok (.aload_n 3, 1) := by decide +kernel
theorem dL_law_666 : decode cL_law 666 = .ok (.invokestatic 160, 3) := by decide +kernel
theorem dL_law_669 : decode cL_law 669 = .ok (.istore 6, 2) := by decide +kernel
theorem dL_law_671 : decode cL_law 671 = .ok (.aload_n 2, 1) := by decide +kernel
theorem dL_law_672 : decode cL_law 672 = .ok (.aload_n 0, 1) := by decide +kernel
theorem dL_law_673 : decode cL_law 673 = .ok (.iload 5, 2) := by decide +kernel
theorem dL_law_675 : decode cL_law 675 = .ok (.iconst 1, 1) := by decide +kernel
theorem dL_law_676 : decode cL_law 676 = .ok (.iadd, 1) := by decide +kernel
theorem dL_law_677 : decode cL_law 677 = .ok (.iaload, 1) := by decide +kernel
theorem dL_law_678 : decode cL_law 678 = .ok (.aload_n 0, 1) := by decide +kernel
theorem dL_law_679 : decode cL_law 679 = .ok (.iload 5, 2) := by decide +kernel
theorem dL_law_681 : decode cL_law 681 = .ok (.iconst 2, 1) := by decide +kernel
theorem dL_law_682 : decode cL_law 682 = .ok (.iadd, 1) := by decide +kernel
theorem dL_law_683 : decode cL_law 683 = .ok (.iaload, 1) := by decide +kernel
theorem dL_law_684 : decode cL_law 684 = .ok (.aload_n 0, 1) := by decide +kernel
theorem dL_law_685 : decode cL_law 685 = .ok (.iload 5, 2) := by decide +kernel
theorem dL_law_687 : decode cL_law 687 = .ok (.iconst 3, 1) := by decide +kernel
theorem dL_law_688 : decode cL_law 688 = .ok (.iadd, 1) := by decide +kernel
theorem dL_law_689 : decode cL_law 689 = .ok (.iaload, 1) := by decide +kernel
theorem dL_law_690 : decode cL_law 690 = .ok (.invokevirtual 163, 3) := by decide +kernel
theorem dL_law_693 : decode cL_law 693 = .ok (.istore 7, 2) := by decide +kernel
theorem dL_law_695 : decode cL_law 695 = .ok (.aload_n 2, 1) := by decide +kernel
theorem dL_law_696 : decode cL_law 696 = .ok (.invokevirtual 137, 3) := by decide +kernel
theorem dL_law_699 : decode cL_law 699 = .ok (.iload 6, 2) := by decide +kernel
theorem dL_law_701 : decode cL_law 701 = .ok (.if_icmp .eq 5, 3) := by decide +kernel
theorem dL_law_704 : decode cL_law 704 = .ok (.iconst 0, 1) := by decide +kernel
theorem dL_law_705 : decode cL_law 705 = .ok (.ireturn, 1) := by decide +kernel
theorem dL_law_706 : decode cL_law 706 = .ok (.iload 6, 2) := by decide +kernel
theorem dL_law_708 : decode cL_law 708 = .ok (.ifCond .ne 15, 3) := by decide +kernel
theorem dL_law_711 : decode cL_law 711 = .ok (.aload_n 3, 1) := by decide +kernel
theorem dL_law_712 : decode cL_law 712 = .ok (.iconst 0, 1) := by decide +kernel
theorem dL_law_713 : decode cL_law 713 = .ok (.laload, 1) := by decide +kernel
theorem dL_law_714 : decode cL_law 714 = .ok (.iload 7, 2) := by decide +kernel
theorem dL_law_716 : decode cL_law 716 = .ok (.i2l, 1) := by decide +kernel
theorem dL_law_717 : decode cL_law 717 = .ok (.lcmp, 1) := by decide +kernel
theorem dL_law_718 : decode cL_law 718 = .ok (.ifCond .eq 5, 3) := by decide +kernel
theorem dL_law_721 : decode cL_law 721 = .ok (.iconst 0, 1) := by decide +kernel
theorem dL_law_722 : decode cL_law 722 = .ok (.ireturn, 1) := by decide +kernel
theorem dL_law_723 : decode cL_law 723 = .ok (.goto 1568, 3) := by decide +kernel
theorem dL_law_726 : decode cL_law 726 = .ok (.aload_n 1, 1) := by decide +kernel
theorem dL_law_727 : decode cL_law 727 = .ok (.aload_n 0, 1) := by decide +kernel
theorem dL_law_728 : decode cL_law 728 = .ok (.iload 5, 2) := by decide +kernel
theorem dL_law_730 : decode cL_law 730 = .ok (.iconst 1, 1) := by decide +kernel
theorem dL_law_731 : decode cL_law 731 = .ok (.iadd, 1) := by decide +kernel
theorem dL_law_732 : decode cL_law 732 = .ok (.iaload, 1) := by decide +kernel
theorem dL_law_733 : decode cL_law 733 = .ok (.aload_n 0, 1) := by decide +kernel
theorem dL_law_734 : decode cL_law 734 = .ok (.iload 5, 2) := by decide +kernel
theorem dL_law_736 : decode cL_law 736 = .ok (.iconst 2, 1) := by decide +kernel
theorem dL_law_737 : decode cL_law 737 = .ok (.iadd, 1) := by decide +kernel
theorem dL_law_738 : decode cL_law 738 = .ok (.iaload, 1) := by decide +kernel
theorem dL_law_739 : decode cL_law 739 = .ok (.aload_n 3, 1) := by decide +kernel
theorem dL_law_740 : decode cL_law 740 = .ok (.invokestatic 164, 3) := by decide +kernel
theorem dL_law_743 : decode cL_law 743 = .ok (.istore 6, 2) := by decide +kernel
theorem dL_law_745 : decode cL_law 745 = .ok (.aload_n 2, 1) := by decide +kernel
theorem dL_law_746 : decode cL_law 746 = .ok (.aload_n 0, 1) := by decide +kernel
theorem dL_law_747 : decode cL_law 747 = .ok (.iload 5, 2) := by decide +kernel
theorem dL_law_749 : decode cL_law 749 = .ok (.iconst 1, 1) := by decide +kernel
theorem dL_law_750 : decode cL_law 750 = .ok (.iadd, 1) := by decide +kernel
theorem dL_law_751 : decode cL_law 751 = .ok (.iaload, 1) := by decide +kernel
theorem dL_law_752 : decode cL_law 752 = .ok (.aload_n 0, 1) := by decide +kernel
theorem dL_law_753 : decode cL_law 753 = .ok (.iload 5, 2) := by decide +kernel
theorem dL_law_755 : decode cL_law 755 = .ok (.iconst 2, 1) := by decide +kernel
theorem dL_law_756 : decode cL_law 756 = .ok (.iadd, 1) := by decide +kernel
theorem dL_law_757 : decode cL_law 757 = .ok (.iaload, 1) := by decide +kernel
theorem dL_law_758 : decode cL_law 758 = .ok (.invokevirtual 166, 3) := by decide +kernel
theorem dL_law_761 : decode cL_law 761 = .ok (.istore 7, 2) := by decide +kernel
theorem dL_law_763 : decode cL_law 763 = .ok (.aload_n 2, 1) := by decide +kernel
theorem dL_law_764 : decode cL_law 764 = .ok (.invokevirtual 137, 3) := by decide +kernel
theorem dL_law_767 : decode cL_law 767 = .ok (.iload 6, 2) := by decide +kernel
theorem dL_law_769 : decode cL_law 769 = .ok (.if_icmp .eq 5, 3) := by decide +kernel
theorem dL_law_772 : decode cL_law 772 = .ok (.iconst 0, 1) := by decide +kernel
theorem dL_law_773 : decode cL_law 773 = .ok (.ireturn, 1) := by decide +kernel
theorem dL_law_774 : decode cL_law 774 = .ok (.iload 6, 2) := by decide +kernel
theorem dL_law_776 : decode cL_law 776 = .ok (.ifCond .ne 15, 3) := by decide +kernel
theorem dL_law_779 : decode cL_law 779 = .ok (.aload_n 3, 1) := by decide +kernel
theorem dL_law_780 : decode cL_law 780 = .ok (.iconst 0, 1) := by decide +kernel
theorem dL_law_781 : decode cL_law 781 = .ok (.laload, 1) := by decide +kernel
theorem dL_law_782 : decode cL_law 782 = .ok (.iload 7, 2) := by decide +kernel
theorem dL_law_784 : decode cL_law 784 = .ok (.i2l, 1) := by decide +kernel
theorem dL_law_785 : decode cL_law 785 = .ok (.lcmp, 1) := by decide +kernel
theorem dL_law_786 : decode cL_law 786 = .ok (.ifCond .eq 5, 3) := by decide +kernel
theorem dL_law_789 : decode cL_law 789 = .ok (.iconst 0, 1) := by decide +kernel
theorem dL_law_790 : decode cL_law 790 = .ok (.ireturn, 1) := by decide +kernel
theorem dL_law_791 : decode cL_law 791 = .ok (.goto 1500, 3) := by decide +kernel
theorem dL_law_794 : decode cL_law 794 = .ok (.aload_n 1, 1) := by decide +kernel
theorem dL_law_795 : decode cL_law 795 = .ok (.aload_n 0, 1) := by decide +kernel
theorem dL_law_796 : decode cL_law 796 = .ok (.iload 5, 2) := by decide +kernel
theorem dL_law_798 : decode cL_law 798 = .ok (.iconst 1, 1) := by decide +kernel
theorem dL_law_799 : decode cL_law 799 = .ok (.iadd, 1) := by decide +kernel
theorem dL_law_800 : decode cL_law 800 = .ok (.iaload, 1) := by decide +kernel
theorem dL_law_801 : decode cL_law 801 = .ok (.aload_n 0, 1) := by decide +kernel
theorem dL_law_802 : decode cL_law 802 = .ok (.iload 5, 2) := by decide +kernel
theorem dL_law_804 : decode cL_law 804 = .ok (.iconst 2, 1) := by decide +kernel
theorem dL_law_805 : decode cL_law 805 = .ok (.iadd, 1) := by decide +kernel
theorem dL_law_806 : decode cL_law 806 = .ok (.iaload, 1) := by decide +kernel
theorem dL_law_807 : decode cL_law 807 = .ok (.aload_n 3, 1) := by decide +kernel
theorem dL_law_808 : decode cL_law 808 = .ok (.invokestatic 167, 3) := by decide +kernel
theorem dL_law_811 : decode cL_law 811 = .ok (.istore 6, 2) := by decide +kernel
theorem dL_law_813 : decode cL_law 813 = .ok (.aload_n 2, 1) := by decide +kernel
theorem dL_law_814 : decode cL_law 814 = .ok (.aload_n 0, 1) := by decide +kernel
theorem dL_law_815 : decode cL_law 815 = .ok (.iload 5, 2) := by decide +kernel
theorem dL_law_817 : decode cL_law 817 = .ok (.iconst 1, 1) := by decide +kernel
theorem dL_law_818 : decode cL_law 818 = .ok (.iadd, 1) := by decide +kernel
theorem dL_law_819 : decode cL_law 819 = .ok (.iaload, 1) := by decide +kernel
theorem dL_law_820 : decode cL_law 820 = .ok (.aload_n 0, 1) := by decide +kernel
theorem dL_law_821 : decode cL_law 821 = .ok (.iload 5, 2) := by decide +kernel
theorem dL_law_823 : decode cL_law 823 = .ok (.iconst 2, 1) := by decide +kernel
theorem dL_law_824 : decode cL_law 824 = .ok (.iadd, 1) := by decide +kernel
theorem dL_law_825 : decode cL_law 825 = .ok (.iaload, 1) := by decide +kernel
theorem dL_law_826 : decode cL_law 826 = .ok (.invokevirtual 169, 3) := by decide +kernel
theorem dL_law_829 : decode cL_law 829 = .ok (.istore 7, 2) := by decide +kernel
theorem dL_law_831 : decode cL_law 831 = .ok (.aload_n 2, 1) := by decide +kernel
theorem dL_law_832 : decode cL_law 832 = .ok (.invokevirtual 137, 3) := by decide +kernel
theorem dL_law_835 : decode cL_law 835 = .ok (.iload 6, 2) := by decide +kernel
theorem dL_law_837 : decode cL_law 837 = .ok (.if_icmp .eq 5, 3) := by decide +kernel
theorem dL_law_840 : decode cL_law 840 = .ok (.iconst 0, 1) := by decide +kernel
theorem dL_law_841 : decode cL_law 841 = .ok (.ireturn, 1) := by decide +kernel
theorem dL_law_842 : decode cL_law 842 = .ok (.iload 6, 2) := by decide +kernel
theorem dL_law_844 : decode cL_law 844 = .ok (.ifCond .ne 15, 3) := by decide +kernel
theorem dL_law_847 : decode cL_law 847 = .ok (.aload_n 3, 1) := by decide +kernel
theorem dL_law_848 : decode cL_law 848 = .ok (.iconst 0, 1) := by decide +kernel
theorem dL_law_849 : decode cL_law 849 = .ok (.laload, 1) := by decide +kernel
theorem dL_law_850 : decode cL_law 850 = .ok (.iload 7, 2) := by decide +kernel
theorem dL_law_852 : decode cL_law 852 = .ok (.i2l, 1) := by decide +kernel
theorem dL_law_853 : decode cL_law 853 = .ok (.lcmp, 1) := by decide +kernel
theorem dL_law_854 : decode cL_law 854 = .ok (.ifCond .eq 5, 3) := by decide +kernel
theorem dL_law_857 : decode cL_law 857 = .ok (.iconst 0, 1) := by decide +kernel
theorem dL_law_858 : decode cL_law 858 = .ok (.ireturn, 1) := by decide +kernel
theorem dL_law_859 : decode cL_law 859 = .ok (.goto 1432, 3) := by decide +kernel
theorem dL_law_862 : decode cL_law 862 = .ok (.aload_n 1, 1) := by decide +kernel
theorem dL_law_863 : decode cL_law 863 = .ok (.aload_n 0, 1) := by decide +kernel
theorem dL_law_864 : decode cL_law 864 = .ok (.iload 5, 2) := by decide +kernel
theorem dL_law_866 : decode cL_law 866 = .ok (.iconst 1, 1) := by decide +kernel
theorem dL_law_867 : decode cL_law 867 = .ok (.iadd, 1) := by decide +kernel
theorem dL_law_868 : decode cL_law 868 = .ok (.iaload, 1) := by decide +kernel
theorem dL_law_869 : decode cL_law 869 = .ok (.aload_n 0, 1) := by decide +kernel
theorem dL_law_870 : decode cL_law 870 = .ok (.iload 5, 2) := by decide +kernel
theorem dL_law_872 : decode cL_law 872 = .ok (.iconst 2, 1) := by decide +kernel
theorem dL_law_873 : decode cL_law 873 = .ok (.iadd, 1) := by decide +kernel
theorem dL_law_874 : decode cL_law 874 = .ok (.iaload, 1) := by decide +kernel
theorem dL_law_875 : decode cL_law 875 = .ok (.aload_n 3, 1) := by decide +kernel
theorem dL_law_876 : decode cL_law 876 = .ok (.invokestatic 170, 3) := by decide +kernel
theorem dL_law_879 : decode cL_law 879 = .ok (.istore 6, 2) := by decide +kernel
theorem dL_law_881 : decode cL_law 881 = .ok (.aload_n 2, 1) := by decide +kernel
theorem dL_law_882 : decode cL_law 882 = .ok (.aload_n 0, 1) := by decide +kernel
theorem dL_law_883 : decode cL_law 883 = .ok (.iload 5, 2) := by decide +kernel
theorem dL_law_885 : decode cL_law 885 = .ok (.iconst 1, 1) := by decide +kernel
theorem dL_law_886 : decode cL_law 886 = .ok (.iadd, 1) := by decide +kernel
theorem dL_law_887 : decode cL_law 887 = .ok (.iaload, 1) := by decide +kernel
theorem dL_law_888 : decode cL_law 888 = .ok (.aload_n 0, 1) := by decide +kernel
theorem dL_law_889 : decode cL_law 889 = .ok (.iload 5, 2) := by decide +kernel
theorem dL_law_891 : decode cL_law 891 = .ok (.iconst 2, 1) := by decide +kernel
theorem dL_law_892 : decode cL_law 892 = .ok (.iadd, 1) := by decide +kernel
theorem dL_law_893 : decode cL_law 893 = .ok (.iaload, 1) := by decide +kernel
theorem dL_law_894 : decode cL_law 894 = .ok (.invokevirtual 172, 3) := by decide +kernel
theorem dL_law_897 : decode cL_law 897 = .ok (.istore 7, 2) := by decide +kernel
theorem dL_law_899 : decode cL_law 899 = .ok (.aload_n 2, 1) := by decide +kernel
theorem dL_law_900 : decode cL_law 900 = .ok (.invokevirtual 137, 3) := by decide +kernel
theorem dL_law_903 : decode cL_law 903 = .ok (.iload 6, 2) := by decide +kernel
theorem dL_law_905 : decode cL_law 905 = .ok (.if_icmp .eq 5, 3) := by decide +kernel
theorem dL_law_908 : decode cL_law 908 = .ok (.iconst 0, 1) := by decide +kernel
theorem dL_law_909 : decode cL_law 909 = .ok (.ireturn, 1) := by decide +kernel
theorem dL_law_910 : decode cL_law 910 = .ok (.iload 6, 2) := by decide +kernel
theorem dL_law_912 : decode cL_law 912 = .ok (.ifCond .ne 15, 3) := by decide +kernel
theorem dL_law_915 : decode cL_law 915 = .ok (.aload_n 3, 1) := by decide +kernel
theorem dL_law_916 : decode cL_law 916 = .ok (.iconst 0, 1) := by decide +kernel
theorem dL_law_917 : decode cL_law 917 = .ok (.laload, 1) := by decide +kernel
theorem dL_law_918 : decode cL_law 918 = .ok (.iload 7, 2) := by decide +kernel
theorem dL_law_920 : decode cL_law 920 = .ok (.i2l, 1) := by decide +kernel
theorem dL_law_921 : decode cL_law 921 = .ok (.lcmp, 1) := by decide +kernel
theorem dL_law_922 : decode cL_law 922 = .ok (.ifCond .eq 5, 3) := by decide +kernel
theorem dL_law_925 : decode cL_law 925 = .ok (.iconst 0, 1) := by decide +kernel
theorem dL_law_926 : decode cL_law 926 = .ok (.ireturn, 1) := by decide +kernel
theorem dL_law_927 : decode cL_law 927 = .ok (.goto 1364, 3) := by decide +kernel
theorem dL_law_930 : decode cL_law 930 = .ok (.aload_n 1, 1) := by decide +kernel
theorem dL_law_931 : decode cL_law 931 = .ok (.aload_n 0, 1) := by decide +kernel
theorem dL_law_932 : decode cL_law 932 = .ok (.iload 5, 2) := by decide +kernel
theorem dL_law_934 : decode cL_law 934 = .ok (.iconst 1, 1) := by decide +kernel
theorem dL_law_935 : decode cL_law 935 = .ok (.iadd, 1) := by decide +kernel
theorem dL_law_936 : decode cL_law 936 = .ok (.iaload, 1) := by decide +kernel
theorem dL_law_937 : decode cL_law 937 = .ok (.aload_n 0, 1) := by decide +kernel
theorem dL_law_938 : decode cL_law 938 = .ok (.iload 5, 2) := by decide +kernel
theorem dL_law_940 : decode cL_law 940 = .ok (.iconst 2, 1) := by decide +kernel
theorem dL_law_941 : decode cL_law 941 = .ok (.iadd, 1) := by decide +kernel
theorem dL_law_942 : decode cL_law 942 = .ok (.iaload, 1) := by decide +kernel
theorem dL_law_943 : decode cL_law 943 = .ok (.aload_n 3, 1) := by decide +kernel
theorem dL_law_944 : decode cL_law 944 = .ok (.invokestatic 173, 3) := by decide +kernel
theorem dL_law_947 : decode cL_law 947 = .ok (.istore 6, 2) := by decide +kernel
theorem dL_law_949 : decode cL_law 949 = .ok (.aload_n 2, 1) := by decide +kernel
theorem dL_law_950 : decode cL_law 950 = .ok (.aload_n 0, 1) := by decide +kernel
theorem dL_law_951 : decode cL_law 951 = .ok (.iload 5, 2) := by decide +kernel
theorem dL_law_953 : decode cL_law 953 = .ok (.iconst 1, 1) := by decide +kernel
theorem dL_law_954 : decode cL_law 954 = .ok (.iadd, 1) := by decide +kernel
theorem dL_law_955 : decode cL_law 955 = .ok (.iaload, 1) := by decide +kernel
theorem dL_law_956 : decode cL_law 956 = .ok (.aload_n 0, 1) := by decide +kernel
theorem dL_law_957 : decode cL_law 957 = .ok (.iload 5, 2) := by decide +kernel
theorem dL_law_959 : decode cL_law 959 = .ok (.iconst 2, 1) := by decide +kernel
theorem dL_law_960 : decode cL_law 960 = .ok (.iadd, 1) := by decide +kernel
theorem dL_law_961 : decode cL_law 961 = .ok (.iaload, 1) := by decide +kernel
theorem dL_law_962 : decode cL_law 962 = .ok (.invokevirtual 175, 3) := by decide +kernel
theorem dL_law_965 : decode cL_law 965 = .ok (.istore 7, 2) := by decide +kernel
theorem dL_law_967 : decode cL_law 967 = .ok (.aload_n 2, 1) := by decide +kernel
theorem dL_law_968 : decode cL_law 968 = .ok (.invokevirtual 137, 3) := by decide +kernel
theorem dL_law_971 : decode cL_law 971 = .ok (.iload 6, 2) := by decide +kernel
theorem dL_law_973 : decode cL_law 973 = .ok (.if_icmp .eq 5, 3) := by decide +kernel
theorem dL_law_976 : decode cL_law 976 = .ok (.iconst 0, 1) := by decide +kernel
theorem dL_law_977 : decode cL_law 977 = .ok (.ireturn, 1) := by decide +kernel
theorem dL_law_978 : decode cL_law 978 = .ok (.iload 6, 2) := by decide +kernel
theorem dL_law_980 : decode cL_law 980 = .ok (.ifCond .ne 22, 3) := by decide +kernel
theorem dL_law_983 : decode cL_law 983 = .ok (.aload_n 3, 1) := by decide +kernel
theorem dL_law_984 : decode cL_law 984 = .ok (.iconst 0, 1) := by decide +kernel
theorem dL_law_985 : decode cL_law 985 = .ok (.laload, 1) := by decide +kernel
theorem dL_law_986 : decode cL_law 986 = .ok (.iload 7, 2) := by decide +kernel
theorem dL_law_988 : decode cL_law 988 = .ok (.ifCond .eq 7, 3) := by decide +kernel
theorem dL_law_991 : decode cL_law 991 = .ok (.lconst 1, 1) := by decide +kernel
theorem dL_law_992 : decode cL_law 992 = .ok (.goto 4, 3) := by decide +kernel
theorem dL_law_995 : decode cL_law 995 = .ok (.lconst 0, 1) := by decide +kernel
theorem dL_law_996 : decode cL_law 996 = .ok (.lcmp, 1) := by decide +kernel
theorem dL_law_997 : decode cL_law 997 = .ok (.ifCond .eq 5, 3) := by decide +kernel
theorem dL_law_1000 : decode cL_law 1000 = .ok (.iconst 0, 1) := by decide +kernel
theorem dL_law_1001 : decode cL_law 1001 = .ok (.ireturn, 1) := by decide +kernel
theorem dL_law_1002 : decode cL_law 1002 = .ok (.goto 1289, 3) := by decide +kernel
theorem dL_law_1005 : decode cL_law 1005 = .ok (.aload_n 1, 1) := by decide +kernel
theorem dL_law_1006 : decode cL_law 1006 = .ok (.aload_n 0, 1) := by decide +kernel
theorem dL_law_1007 : decode cL_law 1007 = .ok (.iload 5, 2) := by decide +kernel
theorem dL_law_1009 : decode cL_law 1009 = .ok (.iconst 1, 1) := by decide +kernel
theorem dL_law_1010 : decode cL_law 1010 = .ok (.iadd, 1) := by decide +kernel
theorem dL_law_1011 : decode cL_law 1011 = .ok (.iaload, 1) := by decide +kernel
theorem dL_law_1012 : decode cL_law 1012 = .ok (.aload_n 0, 1) := by decide +kernel
theorem dL_law_1013 : decode cL_law 1013 = .ok (.iload 5, 2) := by decide +kernel
theorem dL_law_1015 : decode cL_law 1015 = .ok (.iconst 2, 1) := by decide +kernel
theorem dL_law_1016 : decode cL_law 1016 = .ok (.iadd, 1) := by decide +kernel
theorem dL_law_1017 : decode cL_law 1017 = .ok (.iaload, 1) := by decide +kernel
theorem dL_law_1018 : decode cL_law 1018 = .ok (.aload_n 3, 1) := by decide +kernel
theorem dL_law_1019 : decode cL_law 1019 = .ok (.invokestatic 176, 3) := by decide +kernel
theorem dL_law_1022 : decode cL_law 1022 = .ok (.istore 6, 2) := by decide +kernel
theorem dL_law_1024 : decode cL_law 1024 = .ok (.aload_n 2, 1) := by decide +kernel
theorem dL_law_1025 : decode cL_law 1025 = .ok (.aload_n 0, 1) := by decide +kernel
theorem dL_law_1026 : decode cL_law 1026 = .ok (.iload 5, 2) := by decide +kernel
theorem dL_law_1028 : decode cL_law 1028 = .ok (.iconst 1, 1) := by decide +kernel
theorem dL_law_1029 : decode cL_law 1029 = .ok (.iadd, 1) := by decide +kernel
theorem dL_law_1030 : decode cL_law 1030 = .ok (.iaload, 1) := by decide +kernel
theorem dL_law_1031 : decode cL_law 1031 = .ok (.aload_n 0, 1) := by decide +kernel
theorem dL_law_1032 : decode cL_law 1032 = .ok (.iload 5, 2) := by decide +kernel
theorem dL_law_1034 : decode cL_law 1034 = .ok (.iconst 2, 1) := by decide +kernel
theorem dL_law_1035 : decode cL_law 1035 = .ok (.iadd, 1) := by decide +kernel
theorem dL_law_1036 : decode cL_law 1036 = .ok (.iaload, 1) := by decide +kernel
theorem dL_law_1037 : decode cL_law 1037 = .ok (.invokevirtual 178, 3) := by decide +kernel
theorem dL_law_1040 : decode cL_law 1040 = .ok (.istore 7, 2) := by decide +kernel
theorem dL_law_1042 : decode cL_law 1042 = .ok (.aload_n 2, 1) := by decide +kernel
theorem dL_law_1043 : decode cL_law 1043 = .ok (.invokevirtual 137, 3) := by decide +kernel
theorem dL_law_1046 : decode cL_law 1046 = .ok (.iload 6, 2) := by decide +kernel
theorem dL_law_1048 : decode cL_law 1048 = .ok (.if_icmp .eq 5, 3) := by decide +kernel
theorem dL_law_1051 : decode cL_law 1051 = .ok (.iconst 0, 1) := by decide +kernel
theorem dL_law_1052 : decode cL_law 1052 = .ok (.ireturn, 1) := by decide +kernel
theorem dL_law_1053 : decode cL_law 1053 = .ok (.iload 6, 2) := by decide +kernel
theorem dL_law_1055 : decode cL_law 1055 = .ok (.ifCond .ne 15, 3) := by decide +kernel
theorem dL_law_1058 : decode cL_law 1058 = .ok (.aload_n 3, 1) := by decide +kernel
theorem dL_law_1059 : decode cL_law 1059 = .ok (.iconst 0, 1) := by decide +kernel
theorem dL_law_1060 : decode cL_law 1060 = .ok (.laload, 1) := by decide +kernel
theorem dL_law_1061 : decode cL_law 1061 = .ok (.iload 7, 2) := by decide +kernel
theorem dL_law_1063 : decode cL_law 1063 = .ok (.i2l, 1) := by decide +kernel
theorem dL_law_1064 : decode cL_law 1064 = .ok (.lcmp, 1) := by decide +kernel
theorem dL_law_1065 : decode cL_law 1065 = .ok (.ifCond .eq 5, 3) := by decide +kernel
theorem dL_law_1068 : decode cL_law 1068 = .ok (.iconst 0, 1) := by decide +kernel
theorem dL_law_1069 : decode cL_law 1069 = .ok (.ireturn, 1) := by decide +kernel
theorem dL_law_1070 : decode cL_law 1070 = .ok (.goto 1221, 3) := by decide +kernel
theorem dL_law_1073 : decode cL_law 1073 = .ok (.aload_n 1, 1) := by decide +kernel
theorem dL_law_1074 : decode cL_law 1074 = .ok (.aload_n 3, 1) := by decide +kernel
theorem dL_law_1075 : decode cL_law 1075 = .ok (.invokestatic 179, 3) := by decide +kernel
theorem dL_law_1078 : decode cL_law 1078 = .ok (.istore 6, 2) := by decide +kernel
theorem dL_law_1080 : decode cL_law 1080 = .ok (.aload_n 2, 1) := by decide +kernel
theorem dL_law_1081 : decode cL_law 1081 = .ok (.invokevirtual 182, 3) := by decide +kernel
theorem dL_law_1084 : decode cL_law 1084 = .ok (.istore 7, 2) := by decide +kernel
theorem dL_law_1086 : decode cL_law 1086 = .ok (.aload_n 2, 1) := by decide +kernel
theorem dL_law_1087 : decode cL_law 1087 = .ok (.invokevirtual 137, 3) := by decide +kernel
theorem dL_law_1090 : decode cL_law 1090 = .ok (.iload 6, 2) := by decide +kernel
theorem dL_law_1092 : decode cL_law 1092 = .ok (.if_icmp .eq 5, 3) := by decide +kernel
theorem dL_law_1095 : decode cL_law 1095 = .ok (.iconst 0, 1) := by decide +kernel
theorem dL_law_1096 : decode cL_law 1096 = .ok (.ireturn, 1) := by decide +kernel
theorem dL_law_1097 : decode cL_law 1097 = .ok (.iload 6, 2) := by decide +kernel
theorem dL_law_1099 : decode cL_law 1099 = .ok (.ifCond .ne 15, 3) := by decide +kernel
theorem dL_law_1102 : decode cL_law 1102 = .ok (.aload_n 3, 1) := by decide +kernel
theorem dL_law_1103 : decode cL_law 1103 = .ok (.iconst 0, 1) := by decide +kernel
theorem dL_law_1104 : decode cL_law 1104 = .ok (.laload, 1) := by decide +kernel
theorem dL_law_1105 : decode cL_law 1105 = .ok (.iload 7, 2) := by decide +kernel
theorem dL_law_1107 : decode cL_law 1107 = .ok (.i2l, 1) := by decide +kernel
theorem dL_law_1108 : decode cL_law 1108 = .ok (.lcmp, 1) := by decide +kernel
theorem dL_law_1109 : decode cL_law 1109 = .ok (.ifCond .eq 5, 3) := by decide +kernel
theorem dL_law_1112 : decode cL_law 1112 = .ok (.iconst 0, 1) := by decide +kernel
theorem dL_law_1113 : decode cL_law 1113 = .ok (.ireturn, 1) := by decide +kernel
theorem dL_law_1114 : decode cL_law 1114 = .ok (.goto 1177, 3) := by decide +kernel
theorem dL_law_1117 : decode cL_law 1117 = .ok (.aload_n 1, 1) := by decide +kernel
theorem dL_law_1118 : decode cL_law 1118 = .ok (.aload_n 3, 1) := by decide +kernel
theorem dL_law_1119 : decode cL_law 1119 = .ok (.invokestatic 183, 3) := by decide +kernel
theorem dL_law_1122 : decode cL_law 1122 = .ok (.istore 6, 2) := by decide +kernel
theorem dL_law_1124 : decode cL_law 1124 = .ok (.aload_n 2, 1) := by decide +kernel
theorem dL_law_1125 : decode cL_law 1125 = .ok (.invokevirtual 185, 3) := by decide +kernel
theorem dL_law_1128 : decode cL_law 1128 = .ok (.istore 7, 2) := by decide +kernel
theorem dL_law_1130 : decode cL_law 1130 = .ok (.aload_n 2, 1) := by decide +kernel
theorem dL_law_1131 : decode cL_law 1131 = .ok (.invokevirtual 137, 3) := by decide +kernel
theorem dL_law_1134 : decode cL_law 1134 = .ok (.iload 6, 2) := by decide +kernel
theorem dL_law_1136 : decode cL_law 1136 = .ok (.if_icmp .eq 5, 3) := by decide +kernel
theorem dL_law_1139 : decode cL_law 1139 = .ok (.iconst 0, 1) := by decide +kernel
theorem dL_law_1140 : decode cL_law 1140 = .ok (.ireturn, 1) := by decide +kernel
theorem dL_law_1141 : decode cL_law 1141 = .ok (.iload 6, 2) := by decide +kernel
theorem dL_law_1143 : decode cL_law 1143 = .ok (.ifCond .ne 15, 3) := by decide +kernel
theorem dL_law_1146 : decode cL_law 1146 = .ok (.aload_n 3, 1) := by decide +kernel
theorem dL_law_1147 : decode cL_law 1147 = .ok (.iconst 0, 1) := by decide +kernel
theorem dL_law_1148 : decode cL_law 1148 = .ok (.laload, 1) := by decide +kernel
theorem dL_law_1149 : decode cL_law 1149 = .ok (.iload 7, 2) := by decide +kernel
theorem dL_law_1151 : decode cL_law 1151 = .ok (.i2l, 1) := by decide +kernel
theorem dL_law_1152 : decode cL_law 1152 = .ok (.lcmp, 1) := by decide +kernel
theorem dL_law_1153 : decode cL_law 1153 = .ok (.ifCond .eq 5, 3) := by decide +kernel
theorem dL_law_1156 : decode cL_law 1156 = .ok (.iconst 0, 1) := by decide +kernel
theorem dL_law_1157 : decode cL_law 1157 = .ok (.ireturn, 1) := by decide +kernel
theorem dL_law_1158 : decode cL_law 1158 = .ok (.goto 1133, 3) := by decide +kernel
theorem dL_law_1161 : decode cL_law 1161 = .ok (.aload_n 1, 1) := by decide +kernel
theorem dL_law_1162 : decode cL_law 1162 = .ok (.aload_n 3, 1) := by decide +kernel
theorem dL_law_1163 : decode cL_law 1163 = .ok (.invokestatic 186, 3) := by decide +kernel
theorem dL_law_1166 : decode cL_law 1166 = .ok (.istore 6, 2) := by decide +kernel
theorem dL_law_1168 : decode cL_law 1168 = .ok (.aload_n 2, 1) := by decide +kernel
theorem dL_law_1169 : decode cL_law 1169 = .ok (.invokevirtual 188, 3) := by decide +kernel
theorem dL_law_1172 : decode cL_law 1172 = .ok (.istore 7, 2) := by decide +kernel
theorem dL_law_1174 : decode cL_law 1174 = .ok (.aload_n 2, 1) := by decide +kernel
theorem dL_law_1175 : decode cL_law 1175 = .ok (.invokevirtual 137, 3) := by decide +kernel
theorem dL_law_1178 : decode cL_law 1178 = .ok (.iload 6, 2) := by decide +kernel
theorem dL_law_1180 : decode cL_law 1180 = .ok (.if_icmp .eq 5, 3) := by decide +kernel
theorem dL_law_1183 : decode cL_law 1183 = .ok (.iconst 0, 1) := by decide +kernel
theorem dL_law_1184 : decode cL_law 1184 = .ok (.ireturn, 1) := by decide +kernel
theorem dL_law_1185 : decode cL_law 1185 = .ok (.iload 6, 2) := by decide +kernel
theorem dL_law_1187 : decode cL_law 1187 = .ok (.ifCond .ne 15, 3) := by decide +kernel
theorem dL_law_1190 : decode cL_law 1190 = .ok (.aload_n 3, 1) := by decide +kernel
theorem dL_law_1191 : decode cL_law 1191 = .ok (.iconst 0, 1) := by decide +kernel
theorem dL_law_1192 : decode cL_law 1192 = .ok (.laload, 1) := by decide +kernel
theorem dL_law_1193 : decode cL_law 1193 = .ok (.iload 7, 2) := by decide +kernel
theorem dL_law_1195 : decode cL_law 1195 = .ok (.i2l, 1) := by decide +kernel
theorem dL_law_1196 : decode cL_law 1196 = .ok (.lcmp, 1) := by decide +kernel
theorem dL_law_1197 : decode cL_law 1197 = .ok (.ifCond .eq 5, 3) := by decide +kernel
theorem dL_law_1200 : decode cL_law 1200 = .ok (.iconst 0, 1) := by decide +kernel
theorem dL_law_1201 : decode cL_law 1201 = .ok (.ireturn, 1) := by decide +kernel
theorem dL_law_1202 : decode cL_law 1202 = .ok (.goto 1089, 3) := by decide +kernel
theorem dL_law_1205 : decode cL_law 1205 = .ok (.aload_n 1, 1) := by decide +kernel
theorem dL_law_1206 : decode cL_law 1206 = .ok (.invokevirtual 189, 3) := by decide +kernel
theorem dL_law_1209 : decode cL_law 1209 = .ok (.aload_n 2, 1) := by decide +kernel
theorem dL_law_1210 : decode cL_law 1210 = .ok (.invokevirtual 192, 3) := by decide +kernel
theorem dL_law_1213 : decode cL_law 1213 = .ok (.if_icmp .eq 1078, 3) := by decide +kernel
theorem dL_law_1216 : decode cL_law 1216 = .ok (.iconst 0, 1) := by decide +kernel
theorem dL_law_1217 : decode cL_law 1217 = .ok (.ireturn, 1) := by decide +kernel
theorem dL_law_1218 : decode cL_law 1218 = .ok (.aload_n 1, 1) := by decide +kernel
theorem dL_law_1219 : decode cL_law 1219 = .ok (.aload_n 3, 1) := by decide +kernel
theorem dL_law_1220 : decode cL_law 1220 = .ok (.invokestatic 193, 3) := by decide +kernel
theorem dL_law_1223 : decode cL_law 1223 = .ok (.istore 6, 2) := by decide +kernel
theorem dL_law_1225 : decode cL_law 1225 = .ok (.aload_n 2, 1) := by decide +kernel
theorem dL_law_1226 : decode cL_law 1226 = .ok (.invokevirtual 195, 3) := by decide +kernel
theorem dL_law_1229 : decode cL_law 1229 = .ok (.istore 7, 2) := by decide +kernel
theorem dL_law_1231 : decode cL_law 1231 = .ok (.aload_n 2, 1) := by decide +kernel
theorem dL_law_1232 : decode cL_law 1232 = .ok (.invokevirtual 137, 3) := by decide +kernel
theorem dL_law_1235 : decode cL_law 1235 = .ok (.iload 6, 2) := by decide +kernel
theorem dL_law_1237 : decode cL_law 1237 = .ok (.if_icmp .eq 5, 3) := by decide +kernel
theorem dL_law_1240 : decode cL_law 1240 = .ok (.iconst 0, 1) := by decide +kernel
theorem dL_law_1241 : decode cL_law 1241 = .ok (.ireturn, 1) := by decide +kernel
theorem dL_law_1242 : decode cL_law 1242 = .ok (.iload 6, 2) := by decide +kernel
theorem dL_law_1244 : decode cL_law 1244 = .ok (.ifCond .ne 15, 3) := by decide +kernel
theorem dL_law_1247 : decode cL_law 1247 = .ok (.aload_n 3, 1) := by decide +kernel
theorem dL_law_1248 : decode cL_law 1248 = .ok (.iconst 0, 1) := by decide +kernel
theorem dL_law_1249 : decode cL_law 1249 = .ok (.laload, 1) := by decide +kernel
theorem dL_law_1250 : decode cL_law 1250 = .ok (.iload 7, 2) := by decide +kernel
theorem dL_law_1252 : decode cL_law 1252 = .ok (.i2l, 1) := by decide +kernel
theorem dL_law_1253 : decode cL_law 1253 = .ok (.lcmp, 1) := by decide +kernel
theorem dL_law_1254 : decode cL_law 1254 = .ok (.ifCond .eq 5, 3) := by decide +kernel
theorem dL_law_1257 : decode cL_law 1257 = .ok (.iconst 0, 1) := by decide +kernel
theorem dL_law_1258 : decode cL_law 1258 = .ok (.ireturn, 1) := by decide +kernel
theorem dL_law_1259 : decode cL_law 1259 = .ok (.goto 1032, 3) := by decide +kernel
theorem dL_law_1262 : decode cL_law 1262 = .ok (.aload_n 1, 1) := by decide +kernel
theorem dL_law_1263 : decode cL_law 1263 = .ok (.aload_n 0, 1) := by decide +kernel
theorem dL_law_1264 : decode cL_law 1264 = .ok (.iload 5, 2) := by decide +kernel
theorem dL_law_1266 : decode cL_law 1266 = .ok (.iconst 1, 1) := by decide +kernel
theorem dL_law_1267 : decode cL_law 1267 = .ok (.iadd, 1) := by decide +kernel
theorem dL_law_1268 : decode cL_law 1268 = .ok (.iaload, 1) := by decide +kernel
theorem dL_law_1269 : decode cL_law 1269 = .ok (.aload_n 3, 1) := by decide +kernel
theorem dL_law_1270 : decode cL_law 1270 = .ok (.invokestatic 196, 3) := by decide +kernel
theorem dL_law_1273 : decode cL_law 1273 = .ok (.istore 6, 2) := by decide +kernel
theorem dL_law_1275 : decode cL_law 1275 = .ok (.aload_n 2, 1) := by decide +kernel
theorem dL_law_1276 : decode cL_law 1276 = .ok (.aload_n 0, 1) := by decide +kernel
theorem dL_law_1277 : decode cL_law 1277 = .ok (.iload 5, 2) := by decide +kernel
theorem dL_law_1279 : decode cL_law 1279 = .ok (.iconst 1, 1) := by decide +kernel
theorem dL_law_1280 : decode cL_law 1280 = .ok (.iadd, 1) := by decide +kernel
theorem dL_law_1281 : decode cL_law 1281 = .ok (.iaload, 1) := by decide +kernel
theorem dL_law_1282 : decode cL_law 1282 = .ok (.invokevirtual 198, 3) := by decide +kernel
theorem dL_law_1285 : decode cL_law 1285 = .ok (.istore 7, 2) := by decide +kernel
theorem dL_law_1287 : decode cL_law 1287 = .ok (.aload_n 2, 1) := by decide +kernel
theorem dL_law_1288 : decode cL_law 1288 = .ok (.invokevirtual 137, 3) := by decide +kernel
theorem dL_law_1291 : decode cL_law 1291 = .ok (.iload 6, 2) := by decide +kernel
theorem dL_law_1293 : decode cL_law 1293 = .ok (.if_icmp .eq 5, 3) := by decide +kernel
theorem dL_law_1296 : decode cL_law 1296 = .ok (.iconst 0, 1) := by decide +kernel
theorem dL_law_1297 : decode cL_law 1297 = .ok (.ireturn, 1) := by decide +kernel
theorem dL_law_1298 : decode cL_law 1298 = .ok (.iload 6, 2) := by decide +kernel
theorem dL_law_1300 : decode cL_law 1300 = .ok (.ifCond .ne 15, 3) := by decide +kernel
theorem dL_law_1303 : decode cL_law 1303 = .ok (.aload_n 3, 1) := by decide +kernel
theorem dL_law_1304 : decode cL_law 1304 = .ok (.iconst 0, 1) := by decide +kernel
theorem dL_law_1305 : decode cL_law 1305 = .ok (.laload, 1) := by decide +kernel
theorem dL_law_1306 : decode cL_law 1306 = .ok (.iload 7, 2) := by decide +kernel
theorem dL_law_1308 : decode cL_law 1308 = .ok (.i2l, 1) := by decide +kernel
theorem dL_law_1309 : decode cL_law 1309 = .ok (.lcmp, 1) := by decide +kernel
theorem dL_law_1310 : decode cL_law 1310 = .ok (.ifCond .eq 5, 3) := by decide +kernel
theorem dL_law_1313 : decode cL_law 1313 = .ok (.iconst 0, 1) := by decide +kernel
theorem dL_law_1314 : decode cL_law 1314 = .ok (.ireturn, 1) := by decide +kernel
theorem dL_law_1315 : decode cL_law 1315 = .ok (.goto 976, 3) := by decide +kernel
theorem dL_law_1318 : decode cL_law 1318 = .ok (.aload_n 1, 1) := by decide +kernel
theorem dL_law_1319 : decode cL_law 1319 = .ok (.invokevirtual 199, 3) := by decide +kernel
theorem dL_law_1322 : decode cL_law 1322 = .ok (.aload_n 2, 1) := by decide +kernel
theorem dL_law_1323 : decode cL_law 1323 = .ok (.invokevirtual 202, 3) := by decide +kernel
theorem dL_law_1326 : decode cL_law 1326 = .ok (.if_icmp .eq 965, 3) := by decide +kernel
theorem dL_law_1329 : decode cL_law 1329 = .ok (.iconst 0, 1) := by decide +kernel
theorem dL_law_1330 : decode cL_law 1330 = .ok (.ireturn, 1) := by decide +kernel
theorem dL_law_1331 : decode cL_law 1331 = .ok (.aload_n 1, 1) := by decide +kernel
theorem dL_law_1332 : decode cL_law 1332 = .ok (.aload_n 0, 1) := by decide +kernel
theorem dL_law_1333 : decode cL_law 1333 = .ok (.iload 5, 2) := by decide +kernel
theorem dL_law_1335 : decode cL_law 1335 = .ok (.iconst 1, 1) := by decide +kernel
theorem dL_law_1336 : decode cL_law 1336 = .ok (.iadd, 1) := by decide +kernel
theorem dL_law_1337 : decode cL_law 1337 = .ok (.iaload, 1) := by decide +kernel
theorem dL_law_1338 : decode cL_law 1338 = .ok (.aload_n 3, 1) := by decide +kernel
theorem dL_law_1339 : decode cL_law 1339 = .ok (.invokestatic 203, 3) := by decide +kernel
theorem dL_law_1342 : decode cL_law 1342 = .ok (.istore 6, 2) := by decide +kernel
theorem dL_law_1344 : decode cL_law 1344 = .ok (.aload_n 2, 1) := by decide +kernel
theorem dL_law_1345 : decode cL_law 1345 = .ok (.aload_n 0, 1) := by decide +kernel
theorem dL_law_1346 : decode cL_law 1346 = .ok (.iload 5, 2) := by decide +kernel
theorem dL_law_1348 : decode cL_law 1348 = .ok (.iconst 1, 1) := by decide +kernel
theorem dL_law_1349 : decode cL_law 1349 = .ok (.iadd, 1) := by decide +kernel
theorem dL_law_1350 : decode cL_law 1350 = .ok (.iaload, 1) := by decide +kernel
theorem dL_law_1351 : decode cL_law 1351 = .ok (.invokevirtual 205, 3) := by decide +kernel
theorem dL_law_1354 : decode cL_law 1354 = .ok (.istore 7, 2) := by decide +kernel
theorem dL_law_1356 : decode cL_law 1356 = .ok (.aload_n 2, 1) := by decide +kernel
theorem dL_law_1357 : decode cL_law 1357 = .ok (.invokevirtual 137, 3) := by decide +kernel
theorem dL_law_1360 : decode cL_law 1360 = .ok (.iload 6, 2) := by decide +kernel
theorem dL_law_1362 : decode cL_law 1362 = .ok (.if_icmp .eq 5, 3) := by decide +kernel
theorem dL_law_1365 : decode cL_law 1365 = .ok (.iconst 0, 1) := by decide +kernel
theorem dL_law_1366 : decode cL_law 1366 = .ok (.ireturn, 1) := by decide +kernel
theorem dL_law_1367 : decode cL_law 1367 = .ok (.iload 6, 2) := by decide +kernel
theorem dL_law_1369 : decode cL_law 1369 = .ok (.ifCond .ne 15, 3) := by decide +kernel
theorem dL_law_1372 : decode cL_law 1372 = .ok (.aload_n 3, 1) := by decide +kernel
theorem dL_law_1373 : decode cL_law 1373 = .ok (.iconst 0, 1) := by decide +kernel
theorem dL_law_1374 : decode cL_law 1374 = .ok (.laload, 1) := by decide +kernel
theorem dL_law_1375 : decode cL_law 1375 = .ok (.iload 7, 2) := by decide +kernel
theorem dL_law_1377 : decode cL_law 1377 = .ok (.i2l, 1) := by decide +kernel
theorem dL_law_1378 : decode cL_law 1378 = .ok (.lcmp, 1) := by decide +kernel
theorem dL_law_1379 : decode cL_law 1379 = .ok (.ifCond .eq 5, 3) := by decide +kernel
theorem dL_law_1382 : decode cL_law 1382 = .ok (.iconst 0, 1) := by decide +kernel
theorem dL_law_1383 : decode cL_law 1383 = .ok (.ireturn, 1) := by decide +kernel
theorem dL_law_1384 : decode cL_law 1384 = .ok (.goto 907, 3) := by decide +kernel
theorem dL_law_1387 : decode cL_law 1387 = .ok (.aload_n 1, 1) := by decide +kernel
theorem dL_law_1388 : decode cL_law 1388 = .ok (.aload_n 3, 1) := by decide +kernel
theorem dL_law_1389 : decode cL_law 1389 = .ok (.invokestatic 206, 3) := by decide +kernel
theorem dL_law_1392 : decode cL_law 1392 = .ok (.istore 6, 2) := by decide +kernel
theorem dL_law_1394 : decode cL_law 1394 = .ok (.aload_n 2, 1) := by decide +kernel
theorem dL_law_1395 : decode cL_law 1395 = .ok (.invokevirtual 208, 3) := by decide +kernel
theorem dL_law_1398 : decode cL_law 1398 = .ok (.istore 7, 2) := by decide +kernel
theorem dL_law_1400 : decode cL_law 1400 = .ok (.aload_n 2, 1) := by decide +kernel
theorem dL_law_1401 : decode cL_law 1401 = .ok (.invokevirtual 137, 3) := by decide +kernel
theorem dL_law_1404 : decode cL_law 1404 = .ok (.iload 6, 2) := by decide +kernel
theorem dL_law_1406 : decode cL_law 1406 = .ok (.if_icmp .eq 5, 3) := by decide +kernel
theorem dL_law_1409 : decode cL_law 1409 = .ok (.iconst 0, 1) := by decide +kernel
theorem dL_law_1410 : decode cL_law 1410 = .ok (.ireturn, 1) := by decide +kernel
theorem dL_law_1411 : decode cL_law 1411 = .ok (.iload 6, 2) := by decide +kernel
theorem dL_law_1413 : decode cL_law 1413 = .ok (.ifCond .ne 15, 3) := by decide +kernel
theorem dL_law_1416 : decode cL_law 1416 = .ok (.aload_n 3, 1) := by decide +kernel
theorem dL_law_1417 : decode cL_law 1417 = .ok (.iconst 0, 1) := by decide +kernel
theorem dL_law_1418 : decode cL_law 1418 = .ok (.laload, 1) := by decide +kernel
theorem dL_law_1419 : decode cL_law 1419 = .ok (.iload 7, 2) := by decide +kernel
theorem dL_law_1421 : decode cL_law 1421 = .ok (.i2l, 1) := by decide +kernel
theorem dL_law_1422 : decode cL_law 1422 = .ok (.lcmp, 1) := by decide +kernel
theorem dL_law_1423 : decode cL_law 1423 = .ok (.ifCond .eq 5, 3) := by decide +kernel
theorem dL_law_1426 : decode cL_law 1426 = .ok (.iconst 0, 1) := by decide +kernel
theorem dL_law_1427 : decode cL_law 1427 = .ok (.ireturn, 1) := by decide +kernel
theorem dL_law_1428 : decode cL_law 1428 = .ok (.goto 863, 3) := by decide +kernel
theorem dL_law_1431 : decode cL_law 1431 = .ok (.aload_n 1, 1) := by decide +kernel
theorem dL_law_1432 : decode cL_law 1432 = .ok (.aload_n 3, 1) := by decide +kernel
theorem dL_law_1433 : decode cL_law 1433 = .ok (.invokestatic 209, 3) := by decide +kernel
theorem dL_law_1436 : decode cL_law 1436 = .ok (.istore 6, 2) := by decide +kernel
theorem dL_law_1438 : decode cL_law 1438 = .ok (.aload_n 2, 1) := by decide +kernel
theorem dL_law_1439 : decode cL_law 1439 = .ok (.invokevirtual 211, 3) := by decide +kernel
theorem dL_law_1442 : decode cL_law 1442 = .ok (.istore 7, 2) := by decide +kernel
theorem dL_law_1444 : decode cL_law 1444 = .ok (.aload_n 2, 1) := by decide +kernel
theorem dL_law_1445 : decode cL_law 1445 = .ok (.invokevirtual 137, 3) := by decide +kernel
theorem dL_law_1448 : decode cL_law 1448 = .ok (.iload 6, 2) := by decide +kernel
theorem dL_law_1450 : decode cL_law 1450 = .ok (.if_icmp .eq 5, 3) := by decide +kernel
theorem dL_law_1453 : decode cL_law 1453 = .ok (.iconst 0, 1) := by decide +kernel
theorem dL_law_1454 : decode cL_law 1454 = .ok (.ireturn, 1) := by decide +kernel
theorem dL_law_1455 : decode cL_law 1455 = .ok (.iload 6, 2) := by decide +kernel
theorem dL_law_1457 : decode cL_law 1457 = .ok (.ifCond .ne 15, 3) := by decide +kernel
theorem dL_law_1460 : decode cL_law 1460 = .ok (.aload_n 3, 1) := by decide +kernel
theorem dL_law_1461 : decode cL_law 1461 = .ok (.iconst 0, 1) := by decide +kernel
theorem dL_law_1462 : decode cL_law 1462 = .ok (.laload, 1) := by decide +kernel
theorem dL_law_1463 : decode cL_law 1463 = .ok (.iload 7, 2) := by decide +kernel
theorem dL_law_1465 : decode cL_law 1465 = .ok (.i2l, 1) := by decide +kernel
theorem dL_law_1466 : decode cL_law 1466 = .ok (.lcmp, 1) := by decide +kernel
theorem dL_law_1467 : decode cL_law 1467 = .ok (.ifCond .eq 5, 3) := by decide +kernel
theorem dL_law_1470 : decode cL_law 1470 = .ok (.iconst 0, 1) := by decide +kernel
theorem dL_law_1471 : decode cL_law 1471 = .ok (.ireturn, 1) := by decide +kernel
theorem dL_law_1472 : decode cL_law 1472 = .ok (.goto 819, 3) := by decide +kernel
theorem dL_law_1475 : decode cL_law 1475 = .ok (.aload_n 1, 1) := by decide +kernel
theorem dL_law_1476 : decode cL_law 1476 = .ok (.invokevirtual 212, 3) := by decide +kernel
theorem dL_law_1479 : decode cL_law 1479 = .ok (.aload_n 2, 1) := by decide +kernel
theorem dL_law_1480 : decode cL_law 1480 = .ok (.invokevirtual 216, 3) := by decide +kernel
theorem dL_law_1483 : decode cL_law 1483 = .ok (.if_icmp .eq 808, 3) := by decide +kernel
theorem dL_law_1486 : decode cL_law 1486 = .ok (.iconst 0, 1) := by decide +kernel
theorem dL_law_1487 : decode cL_law 1487 = .ok (.ireturn, 1) := by decide +kernel
theorem dL_law_1488 : decode cL_law 1488 = .ok (.aload_n 1, 1) := by decide +kernel
theorem dL_law_1489 : decode cL_law 1489 = .ok (.aload_n 0, 1) := by decide +kernel
theorem dL_law_1490 : decode cL_law 1490 = .ok (.iload 5, 2) := by decide +kernel
theorem dL_law_1492 : decode cL_law 1492 = .ok (.iconst 1, 1) := by decide +kernel
theorem dL_law_1493 : decode cL_law 1493 = .ok (.iadd, 1) := by decide +kernel
theorem dL_law_1494 : decode cL_law 1494 = .ok (.iaload, 1) := by decide +kernel
theorem dL_law_1495 : decode cL_law 1495 = .ok (.aload_n 0, 1) := by decide +kernel
theorem dL_law_1496 : decode cL_law 1496 = .ok (.iload 5, 2) := by decide +kernel
theorem dL_law_1498 : decode cL_law 1498 = .ok (.iconst 2, 1) := by decide +kernel
theorem dL_law_1499 : decode cL_law 1499 = .ok (.iadd, 1) := by decide +kernel
theorem dL_law_1500 : decode cL_law 1500 = .ok (.iaload, 1) := by decide +kernel
theorem dL_law_1501 : decode cL_law 1501 = .ok (.aload_n 0, 1) := by decide +kernel
theorem dL_law_1502 : decode cL_law 1502 = .ok (.iload 5, 2) := by decide +kernel
theorem dL_law_1504 : decode cL_law 1504 = .ok (.iconst 3, 1) := by decide +kernel
theorem dL_law_1505 : decode cL_law 1505 = .ok (.iadd, 1) := by decide +kernel
theorem dL_law_1506 : decode cL_law 1506 = .ok (.iaload, 1) := by decide +kernel
theorem dL_law_1507 : decode cL_law 1507 = .ok (.aload_n 3, 1) := by decide +kernel
theorem dL_law_1508 : decode cL_law 1508 = .ok (.invokestatic 217, 3) := by decide +kernel
theorem dL_law_1511 : decode cL_law 1511 = .ok (.istore 6, 2) := by decide +kernel
theorem dL_law_1513 : decode cL_law 1513 = .ok (.aload_n 2, 1) := by decide +kernel
theorem dL_law_1514 : decode cL_law 1514 = .ok (.aload_n 0, 1) := by decide +kernel
theorem dL_law_1515 : decode cL_law 1515 = .ok (.iload 5, 2) := by decide +kernel
theorem dL_law_1517 : decode cL_law 1517 = .ok (.iconst 1, 1) := by decide +kernel
theorem dL_law_1518 : decode cL_law 1518 = .ok (.iadd, 1) := by decide +kernel
theorem dL_law_1519 : decode cL_law 1519 = .ok (.iaload, 1) := by decide +kernel
theorem dL_law_1520 : decode cL_law 1520 = .ok (.aload_n 0, 1) := by decide +kernel
theorem dL_law_1521 : decode cL_law 1521 = .ok (.iload 5, 2) := by decide +kernel
theorem dL_law_1523 : decode cL_law 1523 = .ok (.iconst 2, 1) := by decide +kernel
theorem dL_law_1524 : decode cL_law 1524 = .ok (.iadd, 1) := by decide +kernel
theorem dL_law_1525 : decode cL_law 1525 = .ok (.iaload, 1) := by decide +kernel
theorem dL_law_1526 : decode cL_law 1526 = .ok (.aload_n 0, 1) := by decide +kernel
theorem dL_law_1527 : decode cL_law 1527 = .ok (.iload 5, 2) := by decide +kernel
theorem dL_law_1529 : decode cL_law 1529 = .ok (.iconst 3, 1) := by decide +kernel
theorem dL_law_1530 : decode cL_law 1530 = .ok (.iadd, 1) := by decide +kernel
theorem dL_law_1531 : decode cL_law 1531 = .ok (.iaload, 1) := by decide +kernel
theorem dL_law_1532 : decode cL_law 1532 = .ok (.invokevirtual 219, 3) := by decide +kernel
theorem dL_law_1535 : decode cL_law 1535 = .ok (.istore 7, 2) := by decide +kernel
theorem dL_law_1537 : decode cL_law 1537 = .ok (.aload_n 2, 1) := by decide +kernel
theorem dL_law_1538 : decode cL_law 1538 = .ok (.invokevirtual 137, 3) := by decide +kernel
theorem dL_law_1541 : decode cL_law 1541 = .ok (.iload 6, 2) := by decide +kernel
theorem dL_law_1543 : decode cL_law 1543 = .ok (.if_icmp .eq 5, 3) := by decide +kernel
theorem dL_law_1546 : decode cL_law 1546 = .ok (.iconst 0, 1) := by decide +kernel
theorem dL_law_1547 : decode cL_law 1547 = .ok (.ireturn, 1) := by decide +kernel
theorem dL_law_1548 : decode cL_law 1548 = .ok (.iload 6, 2) := by decide +kernel
theorem dL_law_1550 : decode cL_law 1550 = .ok (.ifCond .ne 15, 3) := by decide +kernel
theorem dL_law_1553 : decode cL_law 1553 = .ok (.aload_n 3, 1) := by decide +kernel
theorem dL_law_1554 : decode cL_law 1554 = .ok (.iconst 0, 1) := by decide +kernel
theorem dL_law_1555 : decode cL_law 1555 = .ok (.laload, 1) := by decide +kernel
theorem dL_law_1556 : decode cL_law 1556 = .ok (.iload 7, 2) := by decide +kernel
theorem dL_law_1558 : decode cL_law 1558 = .ok (.i2l, 1) := by decide +kernel
theorem dL_law_1559 : decode cL_law 1559 = .ok (.lcmp, 1) := by decide +kernel
theorem dL_law_1560 : decode cL_law 1560 = .ok (.ifCond .eq 5, 3) := by decide +kernel
theorem dL_law_1563 : decode cL_law 1563 = .ok (.iconst 0, 1) := by decide +kernel
theorem dL_law_1564 : decode cL_law 1564 = .ok (.ireturn, 1) := by decide +kernel
theorem dL_law_1565 : decode cL_law 1565 = .ok (.goto 726, 3) := by decide +kernel
theorem dL_law_1568 : decode cL_law 1568 = .ok (.aload_n 1, 1) := by decide +kernel
theorem dL_law_1569 : decode cL_law 1569 = .ok (.aload_n 0, 1) := by decide +kernel
theorem dL_law_1570 : decode cL_law 1570 = .ok (.iload 5, 2) := by decide +kernel
theorem dL_law_1572 : decode cL_law 1572 = .ok (.iconst 1, 1) := by decide +kernel
theorem dL_law_1573 : decode cL_law 1573 = .ok (.iadd, 1) := by decide +kernel
theorem dL_law_1574 : decode cL_law 1574 = .ok (.iaload, 1) := by decide +kernel
theorem dL_law_1575 : decode cL_law 1575 = .ok (.aload_n 3, 1) := by decide +kernel
theorem dL_law_1576 : decode cL_law 1576 = .ok (.invokestatic 220, 3) := by decide +kernel
theorem dL_law_1579 : decode cL_law 1579 = .ok (.istore 6, 2) := by decide +kernel
theorem dL_law_1581 : decode cL_law 1581 = .ok (.aload_n 2, 1) := by decide +kernel
theorem dL_law_1582 : decode cL_law 1582 = .ok (.aload_n 0, 1) := by decide +kernel
theorem dL_law_1583 : decode cL_law 1583 = .ok (.iload 5, 2) := by decide +kernel
theorem dL_law_1585 : decode cL_law 1585 = .ok (.iconst 1, 1) := by decide +kernel
theorem dL_law_1586 : decode cL_law 1586 = .ok (.iadd, 1) := by decide +kernel
theorem dL_law_1587 : decode cL_law 1587 = .ok (.iaload, 1) := by decide +kernel
theorem dL_law_1588 : decode cL_law 1588 = .ok (.invokevirtual 222, 3) := by decide +kernel
theorem dL_law_1591 : decode cL_law 1591 = .ok (.istore 7, 2) := by decide +kernel
theorem dL_law_1593 : decode cL_law 1593 = .ok (.aload_n 2, 1) := by decide +kernel
theorem dL_law_1594 : decode cL_law 1594 = .ok (.invokevirtual 137, 3) := by decide +kernel
theorem dL_law_1597 : decode cL_law 1597 = .ok (.iload 6, 2) := by decide +kernel
theorem dL_law_1599 : decode cL_law 1599 = .ok (.if_icmp .eq 5, 3) := by decide +kernel
theorem dL_law_1602 : decode cL_law 1602 = .ok (.iconst 0, 1) := by decide +kernel
theorem dL_law_1603 : decode cL_law 1603 = .ok (.ireturn, 1) := by decide +kernel
theorem dL_law_1604 : decode cL_law 1604 = .ok (.iload 6, 2) := by decide +kernel
theorem dL_law_1606 : decode cL_law 1606 = .ok (.ifCond .ne 15, 3) := by decide +kernel
theorem dL_law_1609 : decode cL_law 1609 = .ok (.aload_n 3, 1) := by decide +kernel
theorem dL_law_1610 : decode cL_law 1610 = .ok (.iconst 0, 1) := by decide +kernel
theorem dL_law_1611 : decode cL_law 1611 = .ok (.laload, 1) := by decide +kernel
theorem dL_law_1612 : decode cL_law 1612 = .ok (.iload 7, 2) := by decide +kernel
theorem dL_law_1614 : decode cL_law 1614 = .ok (.i2l, 1) := by decide +kernel
theorem dL_law_1615 : decode cL_law 1615 = .ok (.lcmp, 1) := by decide +kernel
theorem dL_law_1616 : decode cL_law 1616 = .ok (.ifCond .eq 5, 3) := by decide +kernel
theorem dL_law_1619 : decode cL_law 1619 = .ok (.iconst 0, 1) := by decide +kernel
theorem dL_law_1620 : decode cL_law 1620 = .ok (.ireturn, 1) := by decide +kernel
theorem dL_law_1621 : decode cL_law 1621 = .ok (.goto 670, 3) := by decide +kernel
theorem dL_law_1624 : decode cL_law 1624 = .ok (.aload_n 1, 1) := by decide +kernel
theorem dL_law_1625 : decode cL_law 1625 = .ok (.aload_n 0, 1) := by decide +kernel
theorem dL_law_1626 : decode cL_law 1626 = .ok (.iload 5, 2) := by decide +kernel
theorem dL_law_1628 : decode cL_law 1628 = .ok (.iconst 1, 1) := by decide +kernel
theorem dL_law_1629 : decode cL_law 1629 = .ok (.iadd, 1) := by decide +kernel
theorem dL_law_1630 : decode cL_law 1630 = .ok (.iaload, 1) := by decide +kernel
theorem dL_law_1631 : decode cL_law 1631 = .ok (.aload_n 3, 1) := by decide +kernel
theorem dL_law_1632 : decode cL_law 1632 = .ok (.invokestatic 223, 3) := by decide +kernel
theorem dL_law_1635 : decode cL_law 1635 = .ok (.istore 6, 2) := by decide +kernel
theorem dL_law_1637 : decode cL_law 1637 = .ok (.aload_n 2, 1) := by decide +kernel
theorem dL_law_1638 : decode cL_law 1638 = .ok (.aload_n 0, 1) := by decide +kernel
theorem dL_law_1639 : decode cL_law 1639 = .ok (.iload 5, 2) := by decide +kernel
theorem dL_law_1641 : decode cL_law 1641 = .ok (.iconst 1, 1) := by decide +kernel
theorem dL_law_1642 : decode cL_law 1642 = .ok (.iadd, 1) := by decide +kernel
theorem dL_law_1643 : decode cL_law 1643 = .ok (.iaload, 1) := by decide +kernel
theorem dL_law_1644 : decode cL_law 1644 = .ok (.invokevirtual 225, 3) := by decide +kernel
theorem dL_law_1647 : decode cL_law 1647 = .ok (.istore 7, 2) := by decide +kernel
theorem dL_law_1649 : decode cL_law 1649 = .ok (.aload_n 2, 1) := by decide +kernel
theorem dL_law_1650 : decode cL_law 1650 = .ok (.invokevirtual 137, 3) := by decide +kernel
theorem dL_law_1653 : decode cL_law 1653 = .ok (.iload 6, 2) := by decide +kernel
theorem dL_law_1655 : decode cL_law 1655 = .ok (.if_icmp .eq 5, 3) := by decide +kernel
theorem dL_law_1658 : decode cL_law 1658 = .ok (.iconst 0, 1) := by decide +kernel
theorem dL_law_1659 : decode cL_law 1659 = .ok (.ireturn, 1) := by decide +kernel
theorem dL_law_1660 : decode cL_law 1660 = .ok (.iload 6, 2) := by decide +kernel
theorem dL_law_1662 : decode cL_law 1662 = .ok (.ifCond .ne 15, 3) := by decide +kernel
theorem dL_law_1665 : decode cL_law 1665 = .ok (.aload_n 3, 1) := by decide +kernel
theorem dL_law_1666 : decode cL_law 1666 = .ok (.iconst 0, 1) := by decide +kernel
theorem dL_law_1667 : decode cL_law 1667 = .ok (.laload, 1) := by decide +kernel
theorem dL_law_1668 : decode cL_law 1668 = .ok (.iload 7, 2) := by decide +kernel
theorem dL_law_1670 : decode cL_law 1670 = .ok (.i2l, 1) := by decide +kernel
theorem dL_law_1671 : decode cL_law 1671 = .ok (.lcmp, 1) := by decide +kernel
theorem dL_law_1672 : decode cL_law 1672 = .ok (.ifCond .eq 5, 3) := by decide +kernel
theorem dL_law_1675 : decode cL_law 1675 = .ok (.iconst 0, 1) := by decide +kernel
theorem dL_law_1676 : decode cL_law 1676 = .ok (.ireturn, 1) := by decide +kernel
theorem dL_law_1677 : decode cL_law 1677 = .ok (.goto 614, 3) := by decide +kernel
theorem dL_law_1680 : decode cL_law 1680 = .ok (.aload_n 1, 1) := by decide +kernel
theorem dL_law_1681 : decode cL_law 1681 = .ok (.aload_n 0, 1) := by decide +kernel
theorem dL_law_1682 : decode cL_law 1682 = .ok (.iload 5, 2) := by decide +kernel
theorem dL_law_1684 : decode cL_law 1684 = .ok (.iconst 1, 1) := by decide +kernel
theorem dL_law_1685 : decode cL_law 1685 = .ok (.iadd, 1) := by decide +kernel
theorem dL_law_1686 : decode cL_law 1686 = .ok (.iaload, 1) := by decide +kernel
theorem dL_law_1687 : decode cL_law 1687 = .ok (.aload_n 0, 1) := by decide +kernel
theorem dL_law_1688 : decode cL_law 1688 = .ok (.iload 5, 2) := by decide +kernel
theorem dL_law_1690 : decode cL_law 1690 = .ok (.iconst 2, 1) := by decide +kernel
theorem dL_law_1691 : decode cL_law 1691 = .ok (.iadd, 1) := by decide +kernel
theorem dL_law_1692 : decode cL_law 1692 = .ok (.iaload, 1) := by decide +kernel
theorem dL_law_1693 : decode cL_law 1693 = .ok (.aload_n 3, 1) := by decide +kernel
theorem dL_law_1694 : decode cL_law 1694 = .ok (.invokestatic 226, 3) := by decide +kernel
theorem dL_law_1697 : decode cL_law 1697 = .ok (.istore 6, 2) := by decide +kernel
theorem dL_law_1699 : decode cL_law 1699 = .ok (.aload_n 2, 1) := by decide +kernel
theorem dL_law_1700 : decode cL_law 1700 = .ok (.aload_n 0, 1) := by decide +kernel
theorem dL_law_1701 : decode cL_law 1701 = .ok (.iload 5, 2) := by decide +kernel
theorem dL_law_1703 : decode cL_law 1703 = .ok (.iconst 1, 1) := by decide +kernel
theorem dL_law_1704 : decode cL_law 1704 = .ok (.iadd, 1) := by decide +kernel
theorem dL_law_1705 : decode cL_law 1705 = .ok (.iaload, 1) := by decide +kernel
theorem dL_law_1706 : decode cL_law 1706 = .ok (.aload_n 0, 1) := by decide +kernel
theorem dL_law_1707 : decode cL_law 1707 = .ok (.iload 5, 2) := by decide +kernel
theorem dL_law_1709 : decode cL_law 1709 = .ok (.iconst 2, 1) := by decide +kernel
theorem dL_law_1710 : decode cL_law 1710 = .ok (.iadd, 1) := by decide +kernel
theorem dL_law_1711 : decode cL_law 1711 = .ok (.iaload, 1) := by decide +kernel
theorem dL_law_1712 : decode cL_law 1712 = .ok (.invokevirtual 228, 3) := by decide +kernel
theorem dL_law_1715 : decode cL_law 1715 = .ok (.istore 7, 2) := by decide +kernel
theorem dL_law_1717 : decode cL_law 1717 = .ok (.aload_n 2, 1) := by decide +kernel
theorem dL_law_1718 : decode cL_law 1718 = .ok (.invokevirtual 137, 3) := by decide +kernel
theorem dL_law_1721 : decode cL_law 1721 = .ok (.iload 6, 2) := by decide +kernel
theorem dL_law_1723 : decode cL_law 1723 = .ok (.if_icmp .eq 5, 3) := by decide +kernel
theorem dL_law_1726 : decode cL_law 1726 = .ok (.iconst 0, 1) := by decide +kernel
theorem dL_law_1727 : decode cL_law 1727 = .ok (.ireturn, 1) := by decide +kernel
theorem dL_law_1728 : decode cL_law 1728 = .ok (.iload 6, 2) := by decide +kernel
theorem dL_law_1730 : decode cL_law 1730 = .ok (.ifCond .ne 15, 3) := by decide +kernel
theorem dL_law_1733 : decode cL_law 1733 = .ok (.aload_n 3, 1) := by decide +kernel
theorem dL_law_1734 : decode cL_law 1734 = .ok (.iconst 0, 1) := by decide +kernel
theorem dL_law_1735 : decode cL_law 1735 = .ok (.laload, 1) := by decide +kernel
theorem dL_law_1736 : decode cL_law 1736 = .ok (.iload 7, 2) := by decide +kernel
theorem dL_law_1738 : decode cL_law 1738 = .ok (.i2l, 1) := by decide +kernel
theorem dL_law_1739 : decode cL_law 1739 = .ok (.lcmp, 1) := by decide +kernel
theorem dL_law_1740 : decode cL_law 1740 = .ok (.ifCond .eq 5, 3) := by decide +kernel
theorem dL_law_1743 : decode cL_law 1743 = .ok (.iconst 0, 1) := by decide +kernel
theorem dL_law_1744 : decode cL_law 1744 = .ok (.ireturn, 1) := by decide +kernel
theorem dL_law_1745 : decode cL_law 1745 = .ok (.goto 546, 3) := by decide +kernel
theorem dL_law_1748 : decode cL_law 1748 = .ok (.aload_n 1, 1) := by decide +kernel
theorem dL_law_1749 : decode cL_law 1749 = .ok (.invokevirtual 229, 3) := by decide +kernel
theorem dL_law_1752 : decode cL_law 1752 = .ok (.aload_n 2, 1) := by decide +kernel
theorem dL_law_1753 : decode cL_law 1753 = .ok (.invokevirtual 232, 3) := by decide +kernel
theorem dL_law_1756 : decode cL_law 1756 = .ok (.if_icmp .eq 535, 3) := by decide +kernel
theorem dL_law_1759 : decode cL_law 1759 = .ok (.iconst 0, 1) := by decide +kernel
theorem dL_law_1760 : decode cL_law 1760 = .ok (.ireturn, 1) := by decide +kernel
theorem dL_law_1761 : decode cL_law 1761 = .ok (.aload_n 1, 1) := by decide +kernel
theorem dL_law_1762 : decode cL_law 1762 = .ok (.invokevirtual 233, 3) := by decide +kernel
theorem dL_law_1765 : decode cL_law 1765 = .ok (.aload_n 2, 1) := by decide +kernel
theorem dL_law_1766 : decode cL_law 1766 = .ok (.invokevirtual 236, 3) := by decide +kernel
theorem dL_law_1769 : decode cL_law 1769 = .ok (.if_icmp .eq 522, 3) := by decide +kernel
theorem dL_law_1772 : decode cL_law 1772 = .ok (.iconst 0, 1) := by decide +kernel
theorem dL_law_1773 : decode cL_law 1773 = .ok (.ireturn, 1) := by decide +kernel
theorem dL_law_1774 : decode cL_law 1774 = .ok (.aload_n 1, 1) := by decide +kernel
theorem dL_law_1775 : decode cL_law 1775 = .ok (.invokevirtual 237, 3) := by decide +kernel
theorem dL_law_1778 : decode cL_law 1778 = .ok (.aload_n 2, 1) := by decide +kernel
theorem dL_law_1779 : decode cL_law 1779 = .ok (.invokevirtual 240, 3) := by decide +kernel
theorem dL_law_1782 : decode cL_law 1782 = .ok (.if_icmp .eq 509, 3) := by decide +kernel
theorem dL_law_1785 : decode cL_law 1785 = .ok (.iconst 0, 1) := by decide +kernel
theorem dL_law_1786 : decode cL_law 1786 = .ok (.ireturn, 1) := by decide +kernel
theorem dL_law_1787 : decode cL_law 1787 = .ok (.aload_n 1, 1) := by decide +kernel
theorem dL_law_1788 : decode cL_law 1788 = .ok (.invokevirtual 241, 3) := by decide +kernel
theorem dL_law_1791 : decode cL_law 1791 = .ok (.aload_n 2, 1) := by decide +kernel
theorem dL_law_1792 : decode cL_law 1792 = .ok (.invokevirtual 244, 3) := by decide +kernel
theorem dL_law_1795 : decode cL_law 1795 = .ok (.if_icmp .eq 496, 3) := by decide +kernel
theorem dL_law_1798 : decode cL_law 1798 = .ok (.iconst 0, 1) := by decide +kernel
theorem dL_law_1799 : decode cL_law 1799 = .ok (.ireturn, 1) := by decide +kernel
theorem dL_law_1800 : decode cL_law 1800 = .ok (.aload_n 1, 1) := by decide +kernel
theorem dL_law_1801 : decode cL_law 1801 = .ok (.invokevirtual 245, 3) := by decide +kernel
theorem dL_law_1804 : decode cL_law 1804 = .ok (.aload_n 2, 1) := by decide +kernel
theorem dL_law_1805 : decode cL_law 1805 = .ok (.invokevirtual 248, 3) := by decide +kernel
theorem dL_law_1808 : decode cL_law 1808 = .ok (.if_icmp .eq 483, 3) := by decide +kernel
theorem dL_law_1811 : decode cL_law 1811 = .ok (.iconst 0, 1) := by decide +kernel
theorem dL_law_1812 : decode cL_law 1812 = .ok (.ireturn, 1) := by decide +kernel
theorem dL_law_1813 : decode cL_law 1813 = .ok (.aload_n 1, 1) := by decide +kernel
theorem dL_law_1814 : decode cL_law 1814 = .ok (.invokevirtual 249, 3) := by decide +kernel
theorem dL_law_1817 : decode cL_law 1817 = .ok (.aload_n 2, 1) := by decide +kernel
theorem dL_law_1818 : decode cL_law 1818 = .ok (.invokevirtual 252, 3) := by decide +kernel
theorem dL_law_1821 : decode cL_law 1821 = .ok (.if_icmp .eq 470, 3) := by decide +kernel
theorem dL_law_1824 : decode cL_law 1824 = .ok (.iconst 0, 1) := by decide +kernel
theorem dL_law_1825 : decode cL_law 1825 = .ok (.ireturn, 1) := by decide +kernel
theorem dL_law_1826 : decode cL_law 1826 = .ok (.aload_n 1, 1) := by decide +kernel
theorem dL_law_1827 : decode cL_law 1827 = .ok (.invokevirtual 253, 3) := by decide +kernel
theorem dL_law_1830 : decode cL_law 1830 = .ok (.aload_n 2, 1) := by decide +kernel
theorem dL_law_1831 : decode cL_law 1831 = .ok (.invokevirtual 256, 3) := by decide +kernel
theorem dL_law_1834 : decode cL_law 1834 = .ok (.if_icmp .eq 457, 3) := by decide +kernel
theorem dL_law_1837 : decode cL_law 1837 = .ok (.iconst 0, 1) := by decide +kernel
theorem dL_law_1838 : decode cL_law 1838 = .ok (.ireturn, 1) := by decide +kernel
theorem dL_law_1839 : decode cL_law 1839 = .ok (.aload_n 1, 1) := by decide +kernel
theorem dL_law_1840 : decode cL_law 1840 = .ok (.invokevirtual 257, 3) := by decide +kernel
theorem dL_law_1843 : decode cL_law 1843 = .ok (.aload_n 2, 1) := by decide +kernel
theorem dL_law_1844 : decode cL_law 1844 = .ok (.invokevirtual 260, 3) := by decide +kernel
theorem dL_law_1847 : decode cL_law 1847 = .ok (.if_icmp .eq 444, 3) := by decide +kernel
theorem dL_law_1850 : decode cL_law 1850 = .ok (.iconst 0, 1) := by decide +kernel
theorem dL_law_1851 : decode cL_law 1851 = .ok (.ireturn, 1) := by decide +kernel
theorem dL_law_1852 : decode cL_law 1852 = .ok (.aload_n 1, 1) := by decide +kernel
theorem dL_law_1853 : decode cL_law 1853 = .ok (.aload_n 0, 1) := by decide +kernel
theorem dL_law_1854 : decode cL_law 1854 = .ok (.iload 5, 2) := by decide +kernel
theorem dL_law_1856 : decode cL_law 1856 = .ok (.iconst 1, 1) := by decide +kernel
theorem dL_law_1857 : decode cL_law 1857 = .ok (.iadd, 1) := by decide +kernel
theorem dL_law_1858 : decode cL_law 1858 = .ok (.iaload, 1) := by decide +kernel
theorem dL_law_1859 : decode cL_law 1859 = .ok (.aload_n 3, 1) := by decide +kernel
theorem dL_law_1860 : decode cL_law 1860 = .ok (.invokestatic 261, 3) := by decide +kernel
theorem dL_law_1863 : decode cL_law 1863 = .ok (.istore 6, 2) := by decide +kernel
theorem dL_law_1865 : decode cL_law 1865 = .ok (.aload_n 2, 1) := by decide +kernel
theorem dL_law_1866 : decode cL_law 1866 = .ok (.aload_n 0, 1) := by decide +kernel
theorem dL_law_1867 : decode cL_law 1867 = .ok (.iload 5, 2) := by decide +kernel
theorem dL_law_1869 : decode cL_law 1869 = .ok (.iconst 1, 1) := by decide +kernel
theorem dL_law_1870 : decode cL_law 1870 = .ok (.iadd, 1) := by decide +kernel
theorem dL_law_1871 : decode cL_law 1871 = .ok (.iaload, 1) := by decide +kernel
theorem dL_law_1872 : decode cL_law 1872 = .ok (.invokevirtual 263, 3) := by decide +kernel
theorem dL_law_1875 : decode cL_law 1875 = .ok (.istore 7, 2) := by decide +kernel
theorem dL_law_1877 : decode cL_law 1877 = .ok (.aload_n 2, 1) := by decide +kernel
theorem dL_law_1878 : decode cL_law 1878 = .ok (.invokevirtual 137, 3) := by decide +kernel
theorem dL_law_1881 : decode cL_law 1881 = .ok (.iload 6, 2) := by decide +kernel
theorem dL_law_1883 : decode cL_law 1883 = .ok (.if_icmp .eq 5, 3) := by decide +kernel
theorem dL_law_1886 : decode cL_law 1886 = .ok (.iconst 0, 1) := by decide +kernel
theorem dL_law_1887 : decode cL_law 1887 = .ok (.ireturn, 1) := by decide +kernel
theorem dL_law_1888 : decode cL_law 1888 = .ok (.iload 6, 2) := by decide +kernel
theorem dL_law_1890 : decode cL_law 1890 = .ok (.ifCond .ne 15, 3) := by decide +kernel
theorem dL_law_1893 : decode cL_law 1893 = .ok (.aload_n 3, 1) := by decide +kernel
theorem dL_law_1894 : decode cL_law 1894 = .ok (.iconst 0, 1) := by decide +kernel
theorem dL_law_1895 : decode cL_law 1895 = .ok (.laload, 1) := by decide +kernel
theorem dL_law_1896 : decode cL_law 1896 = .ok (.iload 7, 2) := by decide +kernel
theorem dL_law_1898 : decode cL_law 1898 = .ok (.i2l, 1) := by decide +kernel
theorem dL_law_1899 : decode cL_law 1899 = .ok (.lcmp, 1) := by decide +kernel
theorem dL_law_1900 : decode cL_law 1900 = .ok (.ifCond .eq 5, 3) := by decide +kernel
theorem dL_law_1903 : decode cL_law 1903 = .ok (.iconst 0, 1) := by decide +kernel
theorem dL_law_1904 : decode cL_law 1904 = .ok (.ireturn, 1) := by decide +kernel
theorem dL_law_1905 : decode cL_law 1905 = .ok (.goto 386, 3) := by decide +kernel
theorem dL_law_1908 : decode cL_law 1908 = .ok (.aload_n 1, 1) := by decide +kernel
theorem dL_law_1909 : decode cL_law 1909 = .ok (.aload_n 0, 1) := by decide +kernel
theorem dL_law_1910 : decode cL_law 1910 = .ok (.iload 5, 2) := by decide +kernel
theorem dL_law_1912 : decode cL_law 1912 = .ok (.iconst 1, 1) := by decide +kernel
theorem dL_law_1913 : decode cL_law 1913 = .ok (.iadd, 1) := by decide +kernel
theorem dL_law_1914 : decode cL_law 1914 = .ok (.iaload, 1) := by decide +kernel
theorem dL_law_1915 : decode cL_law 1915 = .ok (.aload_n 3, 1) := by decide +kernel
theorem dL_law_1916 : decode cL_law 1916 = .ok (.invokestatic 264, 3) := by decide +kernel
theorem dL_law_1919 : decode cL_law 1919 = .ok (.istore 6, 2) := by decide +kernel
theorem dL_law_1921 : decode cL_law 1921 = .ok (.aload_n 2, 1) := by decide +kernel
theorem dL_law_1922 : decode cL_law 1922 = .ok (.aload_n 0, 1) := by decide +kernel
theorem dL_law_1923 : decode cL_law 1923 = .ok (.iload 5, 2) := by decide +kernel
theorem dL_law_1925 : decode cL_law 1925 = .ok (.iconst 1, 1) := by decide +kernel
theorem dL_law_1926 : decode cL_law 1926 = .ok (.iadd, 1) := by decide +kernel
theorem dL_law_1927 : decode cL_law 1927 = .ok (.iaload, 1) := by decide +kernel
theorem dL_law_1928 : decode cL_law 1928 = .ok (.invokevirtual 266, 3) := by decide +kernel
theorem dL_law_1931 : decode cL_law 1931 = .ok (.lstore 7, 2) := by decide +kernel
theorem dL_law_1933 : decode cL_law 1933 = .ok (.aload_n 2, 1) := by decide +kernel
theorem dL_law_1934 : decode cL_law 1934 = .ok (.invokevirtual 137, 3) := by decide +kernel
theorem dL_law_1937 : decode cL_law 1937 = .ok (.iload 6, 2) := by decide +kernel
theorem dL_law_1939 : decode cL_law 1939 = .ok (.if_icmp .eq 5, 3) := by decide +kernel
theorem dL_law_1942 : decode cL_law 1942 = .ok (.iconst 0, 1) := by decide +kernel
theorem dL_law_1943 : decode cL_law 1943 = .ok (.ireturn, 1) := by decide +kernel
theorem dL_law_1944 : decode cL_law 1944 = .ok (.iload 6, 2) := by decide +kernel
theorem dL_law_1946 : decode cL_law 1946 = .ok (.ifCond .ne 14, 3) := by decide +kernel
theorem dL_law_1949 : decode cL_law 1949 = .ok (.aload_n 3, 1) := by decide +kernel
theorem dL_law_1950 : decode cL_law 1950 = .ok (.iconst 0, 1) := by decide +kernel
theorem dL_law_1951 : decode cL_law 1951 = .ok (.laload, 1) := by decide +kernel
theorem dL_law_1952 : decode cL_law 1952 = .ok (.lload 7, 2) := by decide +kernel
theorem dL_law_1954 : decode cL_law 1954 = .ok (.lcmp, 1) := by decide +kernel
theorem dL_law_1955 : decode cL_law 1955 = .ok (.ifCond .eq 5, 3) := by decide +kernel
theorem dL_law_1958 : decode cL_law 1958 = .ok (.iconst 0, 1) := by decide +kernel
theorem dL_law_1959 : decode cL_law 1959 = .ok (.ireturn, 1) := by decide +kernel
theorem dL_law_1960 : decode cL_law 1960 = .ok (.goto 331, 3) := by decide +kernel
theorem dL_law_1963 : decode cL_law 1963 = .ok (.aload_n 1, 1) := by decide +kernel
theorem dL_law_1964 : decode cL_law 1964 = .ok (.aload_n 0, 1) := by decide +kernel
theorem dL_law_1965 : decode cL_law 1965 = .ok (.iload 5, 2) := by decide +kernel
theorem dL_law_1967 : decode cL_law 1967 = .ok (.iconst 1, 1) := by decide +kernel
theorem dL_law_1968 : decode cL_law 1968 = .ok (.iadd, 1) := by decide +kernel
theorem dL_law_1969 : decode cL_law 1969 = .ok (.iaload, 1) := by decide +kernel
theorem dL_law_1970 : decode cL_law 1970 = .ok (.i2c, 1) := by decide +kernel
theorem dL_law_1971 : decode cL_law 1971 = .ok (.aload_n 0, 1) := by decide +kernel
theorem dL_law_1972 : decode cL_law 1972 = .ok (.iload 5, 2) := by decide +kernel
theorem dL_law_1974 : decode cL_law 1974 = .ok (.iconst 2, 1) := by decide +kernel
theorem dL_law_1975 : decode cL_law 1975 = .ok (.iadd, 1) := by decide +kernel
theorem dL_law_1976 : decode cL_law 1976 = .ok (.iaload, 1) := by decide +kernel
theorem dL_law_1977 : decode cL_law 1977 = .ok (.aload_n 3, 1) := by decide +kernel
theorem dL_law_1978 : decode cL_law 1978 = .ok (.invokestatic 267, 3) := by decide +kernel
theorem dL_law_1981 : decode cL_law 1981 = .ok (.istore 6, 2) := by decide +kernel
theorem dL_law_1983 : decode cL_law 1983 = .ok (.aload_n 2, 1) := by decide +kernel
theorem dL_law_1984 : decode cL_law 1984 = .ok (.aload_n 0, 1) := by decide +kernel
theorem dL_law_1985 : decode cL_law 1985 = .ok (.iload 5, 2) := by decide +kernel
theorem dL_law_1987 : decode cL_law 1987 = .ok (.iconst 1, 1) := by decide +kernel
theorem dL_law_1988 : decode cL_law 1988 = .ok (.iadd, 1) := by decide +kernel
theorem dL_law_1989 : decode cL_law 1989 = .ok (.iaload, 1) := by decide +kernel
theorem dL_law_1990 : decode cL_law 1990 = .ok (.i2c, 1) := by decide +kernel
theorem dL_law_1991 : decode cL_law 1991 = .ok (.aload_n 0, 1) := by decide +kernel
theorem dL_law_1992 : decode cL_law 1992 = .ok (.iload 5, 2) := by decide +kernel
theorem dL_law_1994 : decode cL_law 1994 = .ok (.iconst 2, 1) := by decide +kernel
theorem dL_law_1995 : decode cL_law 1995 = .ok (.iadd, 1) := by decide +kernel
theorem dL_law_1996 : decode cL_law 1996 = .ok (.iaload, 1) := by decide +kernel
theorem dL_law_1997 : decode cL_law 1997 = .ok (.invokevirtual 270, 3) := by decide +kernel
theorem dL_law_2000 : decode cL_law 2000 = .ok (.istore 7, 2) := by decide +kernel
theorem dL_law_2002 : decode cL_law 2002 = .ok (.aload_n 2, 1) := by decide +kernel
theorem dL_law_2003 : decode cL_law 2003 = .ok (.invokevirtual 137, 3) := by decide +kernel
theorem dL_law_2006 : decode cL_law 2006 = .ok (.iload 6, 2) := by decide +kernel
theorem dL_law_2008 : decode cL_law 2008 = .ok (.if_icmp .eq 5, 3) := by decide +kernel
theorem dL_law_2011 : decode cL_law 2011 = .ok (.iconst 0, 1) := by decide +kernel
theorem dL_law_2012 : decode cL_law 2012 = .ok (.ireturn, 1) := by decide +kernel
theorem dL_law_2013 : decode cL_law 2013 = .ok (.iload 6, 2) := by decide +kernel
theorem dL_law_2015 : decode cL_law 2015 = .ok (.ifCond .ne 15, 3) := by decide +kernel
theorem dL_law_2018 : decode cL_law 2018 = .ok (.aload_n 3, 1) := by decide +kernel
theorem dL_law_2019 : decode cL_law 2019 = .ok (.iconst 0, 1) := by decide +kernel
theorem dL_law_2020 : decode cL_law 2020 = .ok (.laload, 1) := by decide +kernel
theorem dL_law_2021 : decode cL_law 2021 = .ok (.iload 7, 2) := by decide +kernel
theorem dL_law_2023 : decode cL_law 2023 = .ok (.i2l, 1) := by decide +kernel
theorem dL_law_2024 : decode cL_law 2024 = .ok (.lcmp, 1) := by decide +kernel
theorem dL_law_2025 : decode cL_law 2025 = .ok (.ifCond .eq 5, 3) := by decide +kernel
theorem dL_law_2028 : decode cL_law 2028 = .ok (.iconst 0, 1) := by decide +kernel
theorem dL_law_2029 : decode cL_law 2029 = .ok (.ireturn, 1) := by decide +kernel
theorem dL_law_2030 : decode cL_law 2030 = .ok (.goto 261, 3) := by decide +kernel
theorem dL_law_2033 : decode cL_law 2033 = .ok (.aload_n 1, 1) := by decide +kernel
theorem dL_law_2034 : decode cL_law 2034 = .ok (.aload_n 0, 1) := by decide +kernel
theorem dL_law_2035 : decode cL_law 2035 = .ok (.iload 5, 2) := by decide +kernel
theorem dL_law_2037 : decode cL_law 2037 = .ok (.iconst 1, 1) := by decide +kernel
theorem dL_law_2038 : decode cL_law 2038 = .ok (.iadd, 1) := by decide +kernel
theorem dL_law_2039 : decode cL_law 2039 = .ok (.iaload, 1) := by decide +kernel
theorem dL_law_2040 : decode cL_law 2040 = .ok (.aload_n 3, 1) := by decide +kernel
theorem dL_law_2041 : decode cL_law 2041 = .ok (.invokestatic 271, 3) := by decide +kernel
theorem dL_law_2044 : decode cL_law 2044 = .ok (.istore 6, 2) := by decide +kernel
theorem dL_law_2046 : decode cL_law 2046 = .ok (.aload_n 2, 1) := by decide +kernel
theorem dL_law_2047 : decode cL_law 2047 = .ok (.aload_n 0, 1) := by decide +kernel
theorem dL_law_2048 : decode cL_law 2048 = .ok (.iload 5, 2) := by decide +kernel
theorem dL_law_2050 : decode cL_law 2050 = .ok (.iconst 1, 1) := by decide +kernel
theorem dL_law_2051 : decode cL_law 2051 = .ok (.iadd, 1) := by decide +kernel
theorem dL_law_2052 : decode cL_law 2052 = .ok (.iaload, 1) := by decide +kernel
theorem dL_law_2053 : decode cL_law 2053 = .ok (.invokevirtual 273, 3) := by decide +kernel
theorem dL_law_2056 : decode cL_law 2056 = .ok (.istore 7, 2) := by decide +kernel
theorem dL_law_2058 : decode cL_law 2058 = .ok (.aload_n 2, 1) := by decide +kernel
theorem dL_law_2059 : decode cL_law 2059 = .ok (.invokevirtual 137, 3) := by decide +kernel
theorem dL_law_2062 : decode cL_law 2062 = .ok (.iload 6, 2) := by decide +kernel
theorem dL_law_2064 : decode cL_law 2064 = .ok (.if_icmp .eq 5, 3) := by decide +kernel
theorem dL_law_2067 : decode cL_law 2067 = .ok (.iconst 0, 1) := by decide +kernel
theorem dL_law_2068 : decode cL_law 2068 = .ok (.ireturn, 1) := by decide +kernel
theorem dL_law_2069 : decode cL_law 2069 = .ok (.iload 6, 2) := by decide +kernel
theorem dL_law_2071 : decode cL_law 2071 = .ok (.ifCond .ne 15, 3) := by decide +kernel
theorem dL_law_2074 : decode cL_law 2074 = .ok (.aload_n 3, 1) := by decide +kernel
theorem dL_law_2075 : decode cL_law 2075 = .ok (.iconst 0, 1) := by decide +kernel
theorem dL_law_2076 : decode cL_law 2076 = .ok (.laload, 1) := by decide +kernel
theorem dL_law_2077 : decode cL_law 2077 = .ok (.iload 7, 2) := by decide +kernel
theorem dL_law_2079 : decode cL_law 2079 = .ok (.i2l, 1) := by decide +kernel
theorem dL_law_2080 : decode cL_law 2080 = .ok (.lcmp, 1) := by decide +kernel
theorem dL_law_2081 : decode cL_law 2081 = .ok (.ifCond .eq 5, 3) := by decide +kernel
theorem dL_law_2084 : decode cL_law 2084 = .ok (.iconst 0, 1) := by decide +kernel
theorem dL_law_2085 : decode cL_law 2085 = .ok (.ireturn, 1) := by decide +kernel
theorem dL_law_2086 : decode cL_law 2086 = .ok (.goto 205, 3) := by decide +kernel
theorem dL_law_2089 : decode cL_law 2089 = .ok (.aload_n 1, 1) := by decide +kernel
theorem dL_law_2090 : decode cL_law 2090 = .ok (.aload 4, 2) := by decide +kernel
theorem dL_law_2092 : decode cL_law 2092 = .ok (.invokestatic 274, 3) := by decide +kernel
theorem dL_law_2095 : decode cL_law 2095 = .ok (.istore 6, 2) := by decide +kernel
theorem dL_law_2097 : decode cL_law 2097 = .ok (.aload_n 2, 1) := by decide +kernel
theorem dL_law_2098 : decode cL_law 2098 = .ok (.invokevirtual 277, 3) := by decide +kernel
theorem dL_law_2101 : decode cL_law 2101 = .ok (.fstore 7, 2) := by decide +kernel
theorem dL_law_2103 : decode cL_law 2103 = .ok (.aload_n 2, 1) := by decide +kernel
theorem dL_law_2104 : decode cL_law 2104 = .ok (.invokevirtual 137, 3) := by decide +kernel
theorem dL_law_2107 : decode cL_law 2107 = .ok (.iload 6, 2) := by decide +kernel
theorem dL_law_2109 : decode cL_law 2109 = .ok (.if_icmp .eq 5, 3) := by decide +kernel
theorem dL_law_2112 : decode cL_law 2112 = .ok (.iconst 0, 1) := by decide +kernel
theorem dL_law_2113 : decode cL_law 2113 = .ok (.ireturn, 1) := by decide +kernel
theorem dL_law_2114 : decode cL_law 2114 = .ok (.iload 6, 2) := by decide +kernel
theorem dL_law_2116 : decode cL_law 2116 = .ok (.ifCond .ne 36, 3) := by decide +kernel
theorem dL_law_2119 : decode cL_law 2119 = .ok (.aload 4, 2) := by decide +kernel
theorem dL_law_2121 : decode cL_law 2121 = .ok (.iconst 0, 1) := by decide +kernel
theorem dL_law_2122 : decode cL_law 2122 = .ok (.daload, 1) := by decide +kernel
theorem dL_law_2123 : decode cL_law 2123 = .ok (.fload 7, 2) := by decide +kernel
theorem dL_law_2125 : decode cL_law 2125 = .ok (.f2d, 1) := by decide +kernel
theorem dL_law_2126 : decode cL_law 2126 = .ok (.dcmp .l, 1) := by decide +kernel
theorem dL_law_2127 : decode cL_law 2127 = .ok (.ifCond .eq 25, 3) := by decide +kernel
theorem dL_law_2130 : decode cL_law 2130 = .ok (.aload 4, 2) := by decide +kernel
theorem dL_law_2132 : decode cL_law 2132 = .ok (.iconst 0, 1) := by decide +kernel
theorem dL_law_2133 : decode cL_law 2133 = .ok (.daload, 1) := by decide +kernel
theorem dL_law_2134 : decode cL_law 2134 = .ok (.aload 4, 2) := by decide +kernel
theorem dL_law_2136 : decode cL_law 2136 = .ok (.iconst 0, 1) := by decide +kernel
theorem dL_law_2137 : decode cL_law 2137 = .ok (.daload, 1) := by decide +kernel
theorem dL_law_2138 : decode cL_law 2138 = .ok (.dcmp .l, 1) := by decide +kernel
theorem dL_law_2139 : decode cL_law 2139 = .ok (.ifCond .eq 11, 3) := by decide +kernel
theorem dL_law_2142 : decode cL_law 2142 = .ok (.fload 7, 2) := by decide +kernel
theorem dL_law_2144 : decode cL_law 2144 = .ok (.fload 7, 2) := by decide +kernel
theorem dL_law_2146 : decode cL_law 2146 = .ok (.fcmp .l, 1) := by decide +kernel
theorem dL_law_2147 : decode cL_law 2147 = .ok (.ifCond .ne 5, 3) := by decide +kernel
theorem dL_law_2150 : decode cL_law 2150 = .ok (.iconst 0, 1) := by decide +kernel
theorem dL_law_2151 : decode cL_law 2151 = .ok (.ireturn, 1) := by decide +kernel
theorem dL_law_2152 : decode cL_law 2152 = .ok (.goto 139, 3) := by decide +kernel
theorem dL_law_2155 : decode cL_law 2155 = .ok (.aload_n 1, 1) := by decide +kernel
theorem dL_law_2156 : decode cL_law 2156 = .ok (.aload_n 3, 1) := by decide +kernel
theorem dL_law_2157 : decode cL_law 2157 = .ok (.invokestatic 278, 3) := by decide +kernel
theorem dL_law_2160 : decode cL_law 2160 = .ok (.istore 6, 2) := by decide +kernel
theorem dL_law_2162 : decode cL_law 2162 = .ok (.aload_n 2, 1) := by decide +kernel
theorem dL_law_2163 : decode cL_law 2163 = .ok (.invokevirtual 280, 3) := by decide +kernel
theorem dL_law_2166 : decode cL_law 2166 = .ok (.istore 7, 2) := by decide +kernel
theorem dL_law_2168 : decode cL_law 2168 = .ok (.aload_n 2, 1) := by decide +kernel
theorem dL_law_2169 : decode cL_law 2169 = .ok (.invokevirtual 137, 3) := by decide +kernel
theorem dL_law_2172 : decode cL_law 2172 = .ok (.iload 6, 2) := by decide +kernel
theorem dL_law_2174 : decode cL_law 2174 = .ok (.if_icmp .eq 5, 3) := by decide +kernel
theorem dL_law_2177 : decode cL_law 2177 = .ok (.iconst 0, 1) := by decide +kernel
theorem dL_law_2178 : decode cL_law 2178 = .ok (.ireturn, 1) := by decide +kernel
theorem dL_law_2179 : decode cL_law 2179 = .ok (.iload 6, 2) := by decide +kernel
theorem dL_law_2181 : decode cL_law 2181 = .ok (.ifCond .ne 15, 3) := by decide +kernel
theorem dL_law_2184 : decode cL_law 2184 = .ok (.aload_n 3, 1) := by decide +kernel
theorem dL_law_2185 : decode cL_law 2185 = .ok (.iconst 0, 1) := by decide +kernel
theorem dL_law_2186 : decode cL_law 2186 = .ok (.laload, 1) := by decide +kernel
theorem dL_law_2187 : decode cL_law 2187 = .ok (.iload 7, 2) := by decide +kernel
theorem dL_law_2189 : decode cL_law 2189 = .ok (.i2l, 1) := by decide +kernel
theorem dL_law_2190 : decode cL_law 2190 = .ok (.lcmp, 1) := by decide +kernel
theorem dL_law_2191 : decode cL_law 2191 = .ok (.ifCond .eq 5, 3) := by decide +kernel
theorem dL_law_2194 : decode cL_law 2194 = .ok (.iconst 0, 1) := by decide +kernel
theorem dL_law_2195 : decode cL_law 2195 = .ok (.ireturn, 1) := by decide +kernel
theorem dL_law_2196 : decode cL_law 2196 = .ok (.goto 95, 3) := by decide +kernel
theorem dL_law_2199 : decode cL_law 2199 = .ok (.aload_n 1, 1) := by decide +kernel
theorem dL_law_2200 : decode cL_law 2200 = .ok (.aload 4, 2) := by decide +kernel
theorem dL_law_2202 : decode cL_law 2202 = .ok (.invokestatic 281, 3) := by decide +kernel
theorem dL_law_2205 : decode cL_law 2205 = .ok (.istore 6, 2) := by decide +kernel
theorem dL_law_2207 : decode cL_law 2207 = .ok (.aload_n 2, 1) := by decide +kernel
theorem dL_law_2208 : decode cL_law 2208 = .ok (.invokevirtual 283, 3) := by decide +kernel
theorem dL_law_2211 : decode cL_law 2211 = .ok (.dstore 7, 2) := by decide +kernel
theorem dL_law_2213 : decode cL_law 2213 = .ok (.aload_n 2, 1) := by decide +kernel
theorem dL_law_2214 : decode cL_law 2214 = .ok (.invokevirtual 137, 3) := by decide +kernel
theorem dL_law_2217 : decode cL_law 2217 = .ok (.iload 6, 2) := by decide +kernel
theorem dL_law_2219 : decode cL_law 2219 = .ok (.if_icmp .eq 5, 3) := by decide +kernel
theorem dL_law_2222 : decode cL_law 2222 = .ok (.iconst 0, 1) := by decide +kernel
theorem dL_law_2223 : decode cL_law 2223 = .ok (.ireturn, 1) := by decide +kernel
theorem dL_law_2224 : decode cL_law 2224 = .ok (.iload 6, 2) := by decide +kernel
theorem dL_law_2226 : decode cL_law 2226 = .ok (.ifCond .ne 35, 3) := by decide +kernel
theorem dL_law_2229 : decode cL_law 2229 = .ok (.aload 4, 2) := by decide +kernel
theorem dL_law_2231 : decode cL_law 2231 = .ok (.iconst 0, 1) := by decide +kernel
theorem dL_law_2232 : decode cL_law 2232 = .ok (.daload, 1) := by decide +kernel
theorem dL_law_2233 : decode cL_law 2233 = .ok (.dload 7, 2) := by decide +kernel
theorem dL_law_2235 : decode cL_law 2235 = .ok (.dcmp .l, 1) := by decide +kernel
theorem dL_law_2236 : decode cL_law 2236 = .ok (.ifCond .eq 25, 3) := by decide +kernel
theorem dL_law_2239 : decode cL_law 2239 = .ok (.aload 4, 2) := by decide +kernel
theorem dL_law_2241 : decode cL_law 2241 = .ok (.iconst 0, 1) := by decide +kernel
theorem dL_law_2242 : decode cL_law 2242 = .ok (.daload, 1) := by decide +kernel
theorem dL_law_2243 : decode cL_law 2243 = .ok (.aload 4, 2) := by decide +kernel
theorem dL_law_2245 : decode cL_law 2245 = .ok (.iconst 0, 1) := by decide +kernel
theorem dL_law_2246 : decode cL_law 2246 = .ok (.daload, 1) := by decide +kernel
theorem dL_law_2247 : decode cL_law 2247 = .ok (.dcmp .l, 1) := by decide +kernel
theorem dL_law_2248 : decode cL_law 2248 = .ok (.ifCond .eq 11, 3) := by decide +kernel
theorem dL_law_2251 : decode cL_law 2251 = .ok (.dload 7, 2) := by decide +kernel
theorem dL_law_2253 : decode cL_law 2253 = .ok (.dload 7, 2) := by decide +kernel
theorem dL_law_2255 : decode cL_law 2255 = .ok (.dcmp .l, 1) := by decide +kernel
theorem dL_law_2256 : decode cL_law 2256 = .ok (.ifCond .ne 5, 3) := by decide +kernel
theorem dL_law_2259 : decode cL_law 2259 = .ok (.iconst 0, 1) := by decide +kernel
theorem dL_law_2260 : decode cL_law 2260 = .ok (.ireturn, 1) := by decide +kernel
theorem dL_law_2261 : decode cL_law 2261 = .ok (.goto 30, 3) := by decide +kernel
theorem dL_law_2264 : decode cL_law 2264 = .ok (.aload_n 1, 1) := by decide +kernel
theorem dL_law_2265 : decode cL_law 2265 = .ok (.invokevirtual 284, 3) := by decide +kernel
theorem dL_law_2268 : decode cL_law 2268 = .ok (.aload_n 2, 1) := by decide +kernel
theorem dL_law_2269 : decode cL_law 2269 = .ok (.invokevirtual 288, 3) := by decide +kernel
theorem dL_law_2272 : decode cL_law 2272 = .ok (.lcmp, 1) := by decide +kernel
theorem dL_law_2273 : decode cL_law 2273 = .ok (.ifCond .eq 18, 3) := by decide +kernel
theorem dL_law_2276 : decode cL_law 2276 = .ok (.iconst 0, 1) := by decide +kernel
theorem dL_law_2277 : decode cL_law 2277 = .ok (.ireturn, 1) := by decide +kernel
theorem dL_law_2278 : decode cL_law 2278 = .ok (.aload_n 1, 1) := by decide +kernel
theorem dL_law_2279 : decode cL_law 2279 = .ok (.invokevirtual 289, 3) := by decide +kernel
theorem dL_law_2282 : decode cL_law 2282 = .ok (.aload_n 2, 1) := by decide +kernel
theorem dL_law_2283 : decode cL_law 2283 = .ok (.invokevirtual 292, 3) := by decide +kernel
theorem dL_law_2286 : decode cL_law 2286 = .ok (.if_icmp .eq 5, 3) := by decide +kernel
theorem dL_law_2289 : decode cL_law 2289 = .ok (.iconst 0, 1) := by decide +kernel
theorem dL_law_2290 : decode cL_law 2290 = .ok (.ireturn, 1) := by decide +kernel
theorem dL_law_2291 : decode cL_law 2291 = .ok (.iinc 5 4, 3) := by decide +kernel
theorem dL_law_2294 : decode cL_law 2294 = .ok (.goto (-2266), 3) := by decide +kernel
theorem dL_law_2297 : decode cL_law 2297 = .ok (.iconst 1, 1) := by decide +kernel
theorem dL_law_2298 : decode cL_law 2298 = .ok (.ireturn, 1) := by decide +kernel
