theorem eX11_in_0 : decode MX11_in.2.1 0 = .ok (.lload_n 0, 1) := by decide +kernel
theorem eX11_in_1 : decode MX11_in.2.1 1 = .ok (.lload_n 2, 1) := by decide +kernel
theorem eX11_in_2 : decode MX11_in.2.1 2 = .ok (.lcmp, 1) := by decide +kernel
theorem eX11_in_3 : decode MX11_in.2.1 3 = .ok (.ifCond .lt 14, 3) := by decide +kernel
theorem eX11_in_6 : decode MX11_in.2.1 6 = .ok (.lload_n 0, 1) := by decide +kernel
theorem eX11_in_7 : decode MX11_in.2.1 7 = .ok (.lload 4, 2) := by decide +kernel
theorem eX11_in_9 : decode MX11_in.2.1 9 = .ok (.lcmp, 1) := by decide +kernel
theorem eX11_in_10 : decode MX11_in.2.1 10 = .ok (.ifCond .gt 7, 3) := by decide +kernel
theorem eX11_in_13 : decode MX11_in.2.1 13 = .ok (.iconst 1, 1) := by decide +kernel
theorem eX11_in_14 : decode MX11_in.2.1 14 = .ok (.goto 4, 3) := by decide +kernel
theorem eX11_in_17 : decode MX11_in.2.1 17 = .ok (.iconst 0, 1) := by decide +kernel
theorem eX11_in_18 : decode MX11_in.2.1 18 = .ok (.ireturn, 1) := by decide +kernel
theorem eX11_bits_0 : decode MX11_bits.2.1 0 = .ok (.iconst 0, 1) := by decide +kernel
theorem eX11_bits_1 : decode MX11_bits.2.1 1 = .ok (.istore_n 2, 1) := by decide +kernel
theorem eX11_bits_2 : decode MX11_bits.2.1 2 = .ok (.iconst 0, 1) := by decide +kernel
theorem eX11_bits_3 : decode MX11_bits.2.1 3 = .ok (.istore_n 3, 1) := by decide +kernel
theorem eX11_bits_4 : decode MX11_bits.2.1 4 = .ok (.iload_n 3, 1) := by decide +kernel
theorem eX11_bits_5 : decode MX11_bits.2.1 5 = .ok (.bipush 64, 2) := by decide +kernel
theorem eX11_bits_7 : decode MX11_bits.2.1 7 = .ok (.if_icmp .ge 18, 3) := by decide +kernel
theorem eX11_bits_10 : decode MX11_bits.2.1 10 = .ok (.iload_n 2, 1) := by decide +kernel
theorem eX11_bits_11 : decode MX11_bits.2.1 11 = .ok (.lload_n 0, 1) := by decide +kernel
theorem eX11_bits_12 : decode MX11_bits.2.1 12 = .ok (.iload_n 3, 1) := by decide +kernel
theorem eX11_bits_13 : decode MX11_bits.2.1 13 = .ok (.lshr, 1) := by decide +kernel
theorem eX11_bits_14 : decode MX11_bits.2.1 14 = .ok (.lconst 1, 1) := by decide +kernel
theorem eX11_bits_15 : decode MX11_bits.2.1 15 = .ok (.land, 1) := by decide +kernel
theorem eX11_bits_16 : decode MX11_bits.2.1 16 = .ok (.l2i, 1) := by decide +kernel
theorem eX11_bits_17 : decode MX11_bits.2.1 17 = .ok (.iadd, 1) := by decide +kernel
theorem eX11_bits_18 : decode MX11_bits.2.1 18 = .ok (.istore_n 2, 1) := by decide +kernel
theorem eX11_bits_19 : decode MX11_bits.2.1 19 = .ok (.iinc 3 1, 3) := by decide +kernel
theorem eX11_bits_22 : decode MX11_bits.2.1 22 = .ok (.goto (-18), 3) := by decide +kernel
theorem eX11_bits_25 : decode MX11_bits.2.1 25 = .ok (.iload_n 2, 1) := by decide +kernel
theorem eX11_bits_26 : decode MX11_bits.2.1 26 = .ok (.ireturn, 1) := by decide +kernel
theorem eX11_begins_0 : decode MX11_begins.2.1 0 = .ok (.iconst 0, 1) := by decide +kernel
theorem eX11_begins_1 : decode MX11_begins.2.1 1 = .ok (.istore_n 1, 1) := by decide +kernel
theorem eX11_begins_2 : decode MX11_begins.2.1 2 = .ok (.iload_n 1, 1) := by decide +kernel
theorem eX11_begins_3 : decode MX11_begins.2.1 3 = .ok (.bipush 32, 2) := by decide +kernel
theorem eX11_begins_5 : decode MX11_begins.2.1 5 = .ok (.if_icmp .ge 16, 3) := by decide +kernel
theorem eX11_begins_8 : decode MX11_begins.2.1 8 = .ok (.aload_n 0, 1) := by decide +kernel
theorem eX11_begins_9 : decode MX11_begins.2.1 9 = .ok (.getfield 30, 3) := by decide +kernel
theorem eX11_begins_12 : decode MX11_begins.2.1 12 = .ok (.iload_n 1, 1) := by decide +kernel
theorem eX11_begins_13 : decode MX11_begins.2.1 13 = .ok (.iload_n 1, 1) := by decide +kernel
theorem eX11_begins_14 : decode MX11_begins.2.1 14 = .ok (.iastore, 1) := by decide +kernel
theorem eX11_begins_15 : decode MX11_begins.2.1 15 = .ok (.iinc 1 1, 3) := by decide +kernel
theorem eX11_begins_18 : decode MX11_begins.2.1 18 = .ok (.goto (-16), 3) := by decide +kernel
theorem eX11_begins_21 : decode MX11_begins.2.1 21 = .ok (.return_, 1) := by decide +kernel
theorem eX11_joins_0 : decode MX11_joins.2.1 0 = .ok (.iconst 0, 1) := by decide +kernel
theorem eX11_joins_1 : decode MX11_joins.2.1 1 = .ok (.istore_n 3, 1) := by decide +kernel
theorem eX11_joins_2 : decode MX11_joins.2.1 2 = .ok (.iload_n 3, 1) := by decide +kernel
theorem eX11_joins_3 : decode MX11_joins.2.1 3 = .ok (.bipush 32, 2) := by decide +kernel
theorem eX11_joins_5 : decode MX11_joins.2.1 5 = .ok (.if_icmp .ge 47, 3) := by decide +kernel
theorem eX11_joins_8 : decode MX11_joins.2.1 8 = .ok (.aload_n 0, 1) := by decide +kernel
theorem eX11_joins_9 : decode MX11_joins.2.1 9 = .ok (.getfield 33, 3) := by decide +kernel
theorem eX11_joins_12 : decode MX11_joins.2.1 12 = .ok (.iload_n 3, 1) := by decide +kernel
theorem eX11_joins_13 : decode MX11_joins.2.1 13 = .ok (.lload_n 1, 1) := by decide +kernel
theorem eX11_joins_14 : decode MX11_joins.2.1 14 = .ok (.iload_n 3, 1) := by decide +kernel
theorem eX11_joins_15 : decode MX11_joins.2.1 15 = .ok (.lshr, 1) := by decide +kernel
theorem eX11_joins_16 : decode MX11_joins.2.1 16 = .ok (.lconst 1, 1) := by decide +kernel
theorem eX11_joins_17 : decode MX11_joins.2.1 17 = .ok (.land, 1) := by decide +kernel
theorem eX11_joins_18 : decode MX11_joins.2.1 18 = .ok (.lconst 1, 1) := by decide +kernel
theorem eX11_joins_19 : decode MX11_joins.2.1 19 = .ok (.lcmp, 1) := by decide +kernel
theorem eX11_joins_20 : decode MX11_joins.2.1 20 = .ok (.ifCond .ne 19, 3) := by decide +kernel
theorem eX11_joins_23 : decode MX11_joins.2.1 23 = .ok (.aload_n 0, 1) := by decide +kernel
theorem eX11_joins_24 : decode MX11_joins.2.1 24 = .ok (.getfield 30, 3) := by decide +kernel
theorem eX11_joins_27 : decode MX11_joins.2.1 27 = .ok (.aload_n 0, 1) := by decide +kernel
theorem eX11_joins_28 : decode MX11_joins.2.1 28 = .ok (.getfield 30, 3) := by decide +kernel
theorem eX11_joins_31 : decode MX11_joins.2.1 31 = .ok (.iload_n 3, 1) := by decide +kernel
theorem eX11_joins_32 : decode MX11_joins.2.1 32 = .ok (.iaload, 1) := by decide +kernel
theorem eX11_joins_33 : decode MX11_joins.2.1 33 = .ok (.iconst 1, 1) := by decide +kernel
theorem eX11_joins_34 : decode MX11_joins.2.1 34 = .ok (.isub, 1) := by decide +kernel
theorem eX11_joins_35 : decode MX11_joins.2.1 35 = .ok (.iaload, 1) := by decide +kernel
theorem eX11_joins_36 : decode MX11_joins.2.1 36 = .ok (.goto 9, 3) := by decide +kernel
theorem eX11_joins_39 : decode MX11_joins.2.1 39 = .ok (.aload_n 0, 1) := by decide +kernel
theorem eX11_joins_40 : decode MX11_joins.2.1 40 = .ok (.getfield 30, 3) := by decide +kernel
theorem eX11_joins_43 : decode MX11_joins.2.1 43 = .ok (.iload_n 3, 1) := by decide +kernel
theorem eX11_joins_44 : decode MX11_joins.2.1 44 = .ok (.iaload, 1) := by decide +kernel
theorem eX11_joins_45 : decode MX11_joins.2.1 45 = .ok (.iastore, 1) := by decide +kernel
theorem eX11_joins_46 : decode MX11_joins.2.1 46 = .ok (.iinc 3 1, 3) := by decide +kernel
theorem eX11_joins_49 : decode MX11_joins.2.1 49 = .ok (.goto (-47), 3) := by decide +kernel
theorem eX11_joins_52 : decode MX11_joins.2.1 52 = .ok (.iconst 0, 1) := by decide +kernel
theorem eX11_joins_53 : decode MX11_joins.2.1 53 = .ok (.istore_n 3, 1) := by decide +kernel
theorem eX11_joins_54 : decode MX11_joins.2.1 54 = .ok (.iload_n 3, 1) := by decide +kernel
theorem eX11_joins_55 : decode MX11_joins.2.1 55 = .ok (.bipush 32, 2) := by decide +kernel
theorem eX11_joins_57 : decode MX11_joins.2.1 57 = .ok (.if_icmp .ge 21, 3) := by decide +kernel
theorem eX11_joins_60 : decode MX11_joins.2.1 60 = .ok (.aload_n 0, 1) := by decide +kernel
theorem eX11_joins_61 : decode MX11_joins.2.1 61 = .ok (.getfield 30, 3) := by decide +kernel
theorem eX11_joins_64 : decode MX11_joins.2.1 64 = .ok (.iload_n 3, 1) := by decide +kernel
theorem eX11_joins_65 : decode MX11_joins.2.1 65 = .ok (.aload_n 0, 1) := by decide +kernel
theorem eX11_joins_66 : decode MX11_joins.2.1 66 = .ok (.getfield 33, 3) := by decide +kernel
theorem eX11_joins_69 : decode MX11_joins.2.1 69 = .ok (.iload_n 3, 1) := by decide +kernel
theorem eX11_joins_70 : decode MX11_joins.2.1 70 = .ok (.iaload, 1) := by decide +kernel
theorem eX11_joins_71 : decode MX11_joins.2.1 71 = .ok (.iastore, 1) := by decide +kernel
theorem eX11_joins_72 : decode MX11_joins.2.1 72 = .ok (.iinc 3 1, 3) := by decide +kernel
theorem eX11_joins_75 : decode MX11_joins.2.1 75 = .ok (.goto (-21), 3) := by decide +kernel
theorem eX11_joins_78 : decode MX11_joins.2.1 78 = .ok (.return_, 1) := by decide +kernel
theorem eX11_cellsOf_0 : decode MX11_cellsOf.2.1 0 = .ok (.aload_n 0, 1) := by decide +kernel
theorem eX11_cellsOf_1 : decode MX11_cellsOf.2.1 1 = .ok (.getfield 16, 3) := by decide +kernel
theorem eX11_cellsOf_4 : decode MX11_cellsOf.2.1 4 = .ok (.bipush 32, 2) := by decide +kernel
theorem eX11_cellsOf_6 : decode MX11_cellsOf.2.1 6 = .ok (.iload_n 1, 1) := by decide +kernel
theorem eX11_cellsOf_7 : decode MX11_cellsOf.2.1 7 = .ok (.imul, 1) := by decide +kernel
theorem eX11_cellsOf_8 : decode MX11_cellsOf.2.1 8 = .ok (.iload_n 2, 1) := by decide +kernel
theorem eX11_cellsOf_9 : decode MX11_cellsOf.2.1 9 = .ok (.iadd, 1) := by decide +kernel
theorem eX11_cellsOf_10 : decode MX11_cellsOf.2.1 10 = .ok (.laload, 1) := by decide +kernel
theorem eX11_cellsOf_11 : decode MX11_cellsOf.2.1 11 = .ok (.lreturn, 1) := by decide +kernel
theorem eX11_goesTo_0 : decode MX11_goesTo.2.1 0 = .ok (.aload_n 0, 1) := by decide +kernel
theorem eX11_goesTo_1 : decode MX11_goesTo.2.1 1 = .ok (.invokevirtual 91, 3) := by decide +kernel
theorem eX11_goesTo_4 : decode MX11_goesTo.2.1 4 = .ok (.iconst 0, 1) := by decide +kernel
theorem eX11_goesTo_5 : decode MX11_goesTo.2.1 5 = .ok (.istore_n 3, 1) := by decide +kernel
theorem eX11_goesTo_6 : decode MX11_goesTo.2.1 6 = .ok (.iload_n 3, 1) := by decide +kernel
theorem eX11_goesTo_7 : decode MX11_goesTo.2.1 7 = .ok (.iload_n 2, 1) := by decide +kernel
theorem eX11_goesTo_8 : decode MX11_goesTo.2.1 8 = .ok (.if_icmp .ge 19, 3) := by decide +kernel
theorem eX11_goesTo_11 : decode MX11_goesTo.2.1 11 = .ok (.aload_n 0, 1) := by decide +kernel
theorem eX11_goesTo_12 : decode MX11_goesTo.2.1 12 = .ok (.aload_n 0, 1) := by decide +kernel
theorem eX11_goesTo_13 : decode MX11_goesTo.2.1 13 = .ok (.iload_n 1, 1) := by decide +kernel
theorem eX11_goesTo_14 : decode MX11_goesTo.2.1 14 = .ok (.iload_n 3, 1) := by decide +kernel
theorem eX11_goesTo_15 : decode MX11_goesTo.2.1 15 = .ok (.invokevirtual 94, 3) := by decide +kernel
theorem eX11_goesTo_18 : decode MX11_goesTo.2.1 18 = .ok (.invokevirtual 98, 3) := by decide +kernel
theorem eX11_goesTo_21 : decode MX11_goesTo.2.1 21 = .ok (.iinc 3 1, 3) := by decide +kernel
theorem eX11_goesTo_24 : decode MX11_goesTo.2.1 24 = .ok (.goto (-18), 3) := by decide +kernel
theorem eX11_goesTo_27 : decode MX11_goesTo.2.1 27 = .ok (.return_, 1) := by decide +kernel
theorem eX11_isWhole_0 : decode MX11_isWhole.2.1 0 = .ok (.aload_n 0, 1) := by decide +kernel
theorem eX11_isWhole_1 : decode MX11_isWhole.2.1 1 = .ok (.iload_n 1, 1) := by decide +kernel
theorem eX11_isWhole_2 : decode MX11_isWhole.2.1 2 = .ok (.aload_n 0, 1) := by decide +kernel
theorem eX11_isWhole_3 : decode MX11_isWhole.2.1 3 = .ok (.getfield 13, 3) := by decide +kernel
theorem eX11_isWhole_6 : decode MX11_isWhole.2.1 6 = .ok (.iload_n 1, 1) := by decide +kernel
theorem eX11_isWhole_7 : decode MX11_isWhole.2.1 7 = .ok (.iaload, 1) := by decide +kernel
theorem eX11_isWhole_8 : decode MX11_isWhole.2.1 8 = .ok (.invokevirtual 102, 3) := by decide +kernel
theorem eX11_isWhole_11 : decode MX11_isWhole.2.1 11 = .ok (.iconst 1, 1) := by decide +kernel
theorem eX11_isWhole_12 : decode MX11_isWhole.2.1 12 = .ok (.istore_n 2, 1) := by decide +kernel
theorem eX11_isWhole_13 : decode MX11_isWhole.2.1 13 = .ok (.iconst 0, 1) := by decide +kernel
theorem eX11_isWhole_14 : decode MX11_isWhole.2.1 14 = .ok (.istore_n 3, 1) := by decide +kernel
theorem eX11_isWhole_15 : decode MX11_isWhole.2.1 15 = .ok (.iload_n 3, 1) := by decide +kernel
theorem eX11_isWhole_16 : decode MX11_isWhole.2.1 16 = .ok (.aload_n 0, 1) := by decide +kernel
theorem eX11_isWhole_17 : decode MX11_isWhole.2.1 17 = .ok (.getfield 7, 3) := by decide +kernel
theorem eX11_isWhole_20 : decode MX11_isWhole.2.1 20 = .ok (.iload_n 1, 1) := by decide +kernel
theorem eX11_isWhole_21 : decode MX11_isWhole.2.1 21 = .ok (.iaload, 1) := by decide +kernel
theorem eX11_isWhole_22 : decode MX11_isWhole.2.1 22 = .ok (.if_icmp .ge 28, 3) := by decide +kernel
theorem eX11_isWhole_25 : decode MX11_isWhole.2.1 25 = .ok (.iload_n 2, 1) := by decide +kernel
theorem eX11_isWhole_26 : decode MX11_isWhole.2.1 26 = .ok (.ifCond .eq 16, 3) := by decide +kernel
theorem eX11_isWhole_29 : decode MX11_isWhole.2.1 29 = .ok (.aload_n 0, 1) := by decide +kernel
theorem eX11_isWhole_30 : decode MX11_isWhole.2.1 30 = .ok (.getfield 30, 3) := by decide +kernel
theorem eX11_isWhole_33 : decode MX11_isWhole.2.1 33 = .ok (.iload_n 3, 1) := by decide +kernel
theorem eX11_isWhole_34 : decode MX11_isWhole.2.1 34 = .ok (.iaload, 1) := by decide +kernel
theorem eX11_isWhole_35 : decode MX11_isWhole.2.1 35 = .ok (.ifCond .ne 7, 3) := by decide +kernel
theorem eX11_isWhole_38 : decode MX11_isWhole.2.1 38 = .ok (.iconst 1, 1) := by decide +kernel
theorem eX11_isWhole_39 : decode MX11_isWhole.2.1 39 = .ok (.goto 4, 3) := by decide +kernel
theorem eX11_isWhole_42 : decode MX11_isWhole.2.1 42 = .ok (.iconst 0, 1) := by decide +kernel
theorem eX11_isWhole_43 : decode MX11_isWhole.2.1 43 = .ok (.istore_n 2, 1) := by decide +kernel
theorem eX11_isWhole_44 : decode MX11_isWhole.2.1 44 = .ok (.iinc 3 1, 3) := by decide +kernel
theorem eX11_isWhole_47 : decode MX11_isWhole.2.1 47 = .ok (.goto (-32), 3) := by decide +kernel
theorem eX11_isWhole_50 : decode MX11_isWhole.2.1 50 = .ok (.iload_n 2, 1) := by decide +kernel
theorem eX11_isWhole_51 : decode MX11_isWhole.2.1 51 = .ok (.ireturn, 1) := by decide +kernel
theorem eX11_isNet_0 : decode MX11_isNet.2.1 0 = .ok (.iload_n 1, 1) := by decide +kernel
theorem eX11_isNet_1 : decode MX11_isNet.2.1 1 = .ok (.i2l, 1) := by decide +kernel
theorem eX11_isNet_2 : decode MX11_isNet.2.1 2 = .ok (.lconst 0, 1) := by decide +kernel
theorem eX11_isNet_3 : decode MX11_isNet.2.1 3 = .ok (.aload_n 0, 1) := by decide +kernel
theorem eX11_isNet_4 : decode MX11_isNet.2.1 4 = .ok (.getfield 106, 3) := by decide +kernel
theorem eX11_isNet_7 : decode MX11_isNet.2.1 7 = .ok (.iconst 1, 1) := by decide +kernel
theorem eX11_isNet_8 : decode MX11_isNet.2.1 8 = .ok (.isub, 1) := by decide +kernel
theorem eX11_isNet_9 : decode MX11_isNet.2.1 9 = .ok (.i2l, 1) := by decide +kernel
theorem eX11_isNet_10 : decode MX11_isNet.2.1 10 = .ok (.invokestatic 109, 3) := by decide +kernel
theorem eX11_isNet_13 : decode MX11_isNet.2.1 13 = .ok (.ireturn, 1) := by decide +kernel
theorem eX11_feed_0 : decode MX11_feed.2.1 0 = .ok (.aload_n 0, 1) := by decide +kernel
theorem eX11_feed_1 : decode MX11_feed.2.1 1 = .ok (.getfield 113, 3) := by decide +kernel
theorem eX11_feed_4 : decode MX11_feed.2.1 4 = .ok (.bipush 8, 2) := by decide +kernel
theorem eX11_feed_6 : decode MX11_feed.2.1 6 = .ok (.iadd, 1) := by decide +kernel
theorem eX11_feed_7 : decode MX11_feed.2.1 7 = .ok (.sipush 240, 3) := by decide +kernel
theorem eX11_feed_10 : decode MX11_feed.2.1 10 = .ok (.if_icmp .le 6, 3) := by decide +kernel
theorem eX11_feed_13 : decode MX11_feed.2.1 13 = .ok (.bipush (-3), 2) := by decide +kernel
theorem eX11_feed_15 : decode MX11_feed.2.1 15 = .ok (.ireturn, 1) := by decide +kernel
theorem eX11_feed_16 : decode MX11_feed.2.1 16 = .ok (.bipush 56, 2) := by decide +kernel
theorem eX11_feed_18 : decode MX11_feed.2.1 18 = .ok (.istore_n 3, 1) := by decide +kernel
theorem eX11_feed_19 : decode MX11_feed.2.1 19 = .ok (.iload_n 3, 1) := by decide +kernel
theorem eX11_feed_20 : decode MX11_feed.2.1 20 = .ok (.ifCond .lt 36, 3) := by decide +kernel
theorem eX11_feed_23 : decode MX11_feed.2.1 23 = .ok (.aload_n 0, 1) := by decide +kernel
theorem eX11_feed_24 : decode MX11_feed.2.1 24 = .ok (.getfield 36, 3) := by decide +kernel
theorem eX11_feed_27 : decode MX11_feed.2.1 27 = .ok (.aload_n 0, 1) := by decide +kernel
theorem eX11_feed_28 : decode MX11_feed.2.1 28 = .ok (.getfield 113, 3) := by decide +kernel
theorem eX11_feed_31 : decode MX11_feed.2.1 31 = .ok (.lload_n 1, 1) := by decide +kernel
theorem eX11_feed_32 : decode MX11_feed.2.1 32 = .ok (.iload_n 3, 1) := by decide +kernel
theorem eX11_feed_33 : decode MX11_feed.2.1 33 = .ok (.lshr, 1) := by decide +kernel
theorem eX11_feed_34 : decode MX11_feed.2.1 34 = .ok (.ldc2_w 116, 3) := by decide +kernel
theorem eX11_feed_37 : decode MX11_feed.2.1 37 = .ok (.land, 1) := by decide +kernel
theorem eX11_feed_38 : decode MX11_feed.2.1 38 = .ok (.l2i, 1) := by decide +kernel
theorem eX11_feed_39 : decode MX11_feed.2.1 39 = .ok (.iastore, 1) := by decide +kernel
theorem eX11_feed_40 : decode MX11_feed.2.1 40 = .ok (.aload_n 0, 1) := by decide +kernel
theorem eX11_feed_41 : decode MX11_feed.2.1 41 = .ok (.dup, 1) := by decide +kernel
theorem eX11_feed_42 : decode MX11_feed.2.1 42 = .ok (.getfield 113, 3) := by decide +kernel
theorem eX11_feed_45 : decode MX11_feed.2.1 45 = .ok (.iconst 1, 1) := by decide +kernel
theorem eX11_feed_46 : decode MX11_feed.2.1 46 = .ok (.iadd, 1) := by decide +kernel
theorem eX11_feed_47 : decode MX11_feed.2.1 47 = .ok (.putfield 113, 3) := by decide +kernel
theorem eX11_feed_50 : decode MX11_feed.2.1 50 = .ok (.iinc 3 (-8), 3) := by decide +kernel
theorem eX11_feed_53 : decode MX11_feed.2.1 53 = .ok (.goto (-34), 3) := by decide +kernel
theorem eX11_feed_56 : decode MX11_feed.2.1 56 = .ok (.aload_n 0, 1) := by decide +kernel
theorem eX11_feed_57 : decode MX11_feed.2.1 57 = .ok (.getfield 113, 3) := by decide +kernel
theorem eX11_feed_60 : decode MX11_feed.2.1 60 = .ok (.ireturn, 1) := by decide +kernel
theorem eX11_end_0 : decode MX11_end.2.1 0 = .ok (.iload_n 1, 1) := by decide +kernel
theorem eX11_end_1 : decode MX11_end.2.1 1 = .ok (.i2l, 1) := by decide +kernel
theorem eX11_end_2 : decode MX11_end.2.1 2 = .ok (.lconst 0, 1) := by decide +kernel
theorem eX11_end_3 : decode MX11_end.2.1 3 = .ok (.aload_n 0, 1) := by decide +kernel
theorem eX11_end_4 : decode MX11_end.2.1 4 = .ok (.getfield 113, 3) := by decide +kernel
theorem eX11_end_7 : decode MX11_end.2.1 7 = .ok (.i2l, 1) := by decide +kernel
theorem eX11_end_8 : decode MX11_end.2.1 8 = .ok (.invokestatic 109, 3) := by decide +kernel
theorem eX11_end_11 : decode MX11_end.2.1 11 = .ok (.ifCond .ne 5, 3) := by decide +kernel
theorem eX11_end_14 : decode MX11_end.2.1 14 = .ok (.iconst (-1), 1) := by decide +kernel
theorem eX11_end_15 : decode MX11_end.2.1 15 = .ok (.ireturn, 1) := by decide +kernel
theorem eX11_end_16 : decode MX11_end.2.1 16 = .ok (.aload_n 0, 1) := by decide +kernel
theorem eX11_end_17 : decode MX11_end.2.1 17 = .ok (.getfield 113, 3) := by decide +kernel
theorem eX11_end_20 : decode MX11_end.2.1 20 = .ok (.istore_n 2, 1) := by decide +kernel
theorem eX11_end_21 : decode MX11_end.2.1 21 = .ok (.aload_n 0, 1) := by decide +kernel
theorem eX11_end_22 : decode MX11_end.2.1 22 = .ok (.iload_n 1, 1) := by decide +kernel
theorem eX11_end_23 : decode MX11_end.2.1 23 = .ok (.putfield 113, 3) := by decide +kernel
theorem eX11_end_26 : decode MX11_end.2.1 26 = .ok (.iload_n 2, 1) := by decide +kernel
theorem eX11_end_27 : decode MX11_end.2.1 27 = .ok (.ireturn, 1) := by decide +kernel
theorem eX11_wants_0 : decode MX11_wants.2.1 0 = .ok (.iload_n 1, 1) := by decide +kernel
theorem eX11_wants_1 : decode MX11_wants.2.1 1 = .ok (.ifCond .ne 23, 3) := by decide +kernel
theorem eX11_wants_4 : decode MX11_wants.2.1 4 = .ok (.aload_n 0, 1) := by decide +kernel
theorem eX11_wants_5 : decode MX11_wants.2.1 5 = .ok (.getfield 118, 3) := by decide +kernel
theorem eX11_wants_8 : decode MX11_wants.2.1 8 = .ok (.ifCond .ne 16, 3) := by decide +kernel
theorem eX11_wants_11 : decode MX11_wants.2.1 11 = .ok (.aload_n 0, 1) := by decide +kernel
theorem eX11_wants_12 : decode MX11_wants.2.1 12 = .ok (.iload_n 2, 1) := by decide +kernel
theorem eX11_wants_13 : decode MX11_wants.2.1 13 = .ok (.putfield 118, 3) := by decide +kernel
theorem eX11_wants_16 : decode MX11_wants.2.1 16 = .ok (.aload_n 0, 1) := by decide +kernel
theorem eX11_wants_17 : decode MX11_wants.2.1 17 = .ok (.aload_n 0, 1) := by decide +kernel
theorem eX11_wants_18 : decode MX11_wants.2.1 18 = .ok (.getfield 121, 3) := by decide +kernel
theorem eX11_wants_21 : decode MX11_wants.2.1 21 = .ok (.putfield 124, 3) := by decide +kernel
theorem eX11_wants_24 : decode MX11_wants.2.1 24 = .ok (.return_, 1) := by decide +kernel
theorem eX11_look_0 : decode MX11_look.2.1 0 = .ok (.iload_n 1, 1) := by decide +kernel
theorem eX11_look_1 : decode MX11_look.2.1 1 = .ok (.aload_n 0, 1) := by decide +kernel
theorem eX11_look_2 : decode MX11_look.2.1 2 = .ok (.getfield 113, 3) := by decide +kernel
theorem eX11_look_5 : decode MX11_look.2.1 5 = .ok (.if_icmp .ge 12, 3) := by decide +kernel
theorem eX11_look_8 : decode MX11_look.2.1 8 = .ok (.aload_n 0, 1) := by decide +kernel
theorem eX11_look_9 : decode MX11_look.2.1 9 = .ok (.getfield 36, 3) := by decide +kernel
theorem eX11_look_12 : decode MX11_look.2.1 12 = .ok (.iload_n 1, 1) := by decide +kernel
theorem eX11_look_13 : decode MX11_look.2.1 13 = .ok (.iaload, 1) := by decide +kernel
theorem eX11_look_14 : decode MX11_look.2.1 14 = .ok (.goto 4, 3) := by decide +kernel
theorem eX11_look_17 : decode MX11_look.2.1 17 = .ok (.iconst (-1), 1) := by decide +kernel
theorem eX11_look_18 : decode MX11_look.2.1 18 = .ok (.ireturn, 1) := by decide +kernel
theorem eX11_next_0 : decode MX11_next.2.1 0 = .ok (.aload_n 0, 1) := by decide +kernel
theorem eX11_next_1 : decode MX11_next.2.1 1 = .ok (.getfield 118, 3) := by decide +kernel
theorem eX11_next_4 : decode MX11_next.2.1 4 = .ok (.ifCond .le 4, 3) := by decide +kernel
theorem eX11_next_7 : decode MX11_next.2.1 7 = .ok (.return_, 1) := by decide +kernel
theorem eX11_next_8 : decode MX11_next.2.1 8 = .ok (.aload_n 0, 1) := by decide +kernel
theorem eX11_next_9 : decode MX11_next.2.1 9 = .ok (.aload_n 0, 1) := by decide +kernel
theorem eX11_next_10 : decode MX11_next.2.1 10 = .ok (.getfield 127, 3) := by decide +kernel
theorem eX11_next_13 : decode MX11_next.2.1 13 = .ok (.invokevirtual 130, 3) := by decide +kernel
theorem eX11_next_16 : decode MX11_next.2.1 16 = .ok (.bipush 32, 2) := by decide +kernel
theorem eX11_next_18 : decode MX11_next.2.1 18 = .ok (.if_icmp .ne 16, 3) := by decide +kernel
theorem eX11_next_21 : decode MX11_next.2.1 21 = .ok (.aload_n 0, 1) := by decide +kernel
theorem eX11_next_22 : decode MX11_next.2.1 22 = .ok (.dup, 1) := by decide +kernel
theorem eX11_next_23 : decode MX11_next.2.1 23 = .ok (.getfield 127, 3) := by decide +kernel
theorem eX11_next_26 : decode MX11_next.2.1 26 = .ok (.iconst 1, 1) := by decide +kernel
theorem eX11_next_27 : decode MX11_next.2.1 27 = .ok (.iadd, 1) := by decide +kernel
theorem eX11_next_28 : decode MX11_next.2.1 28 = .ok (.putfield 127, 3) := by decide +kernel
theorem eX11_next_31 : decode MX11_next.2.1 31 = .ok (.goto (-23), 3) := by decide +kernel
theorem eX11_next_34 : decode MX11_next.2.1 34 = .ok (.aload_n 0, 1) := by decide +kernel
theorem eX11_next_35 : decode MX11_next.2.1 35 = .ok (.aload_n 0, 1) := by decide +kernel
theorem eX11_next_36 : decode MX11_next.2.1 36 = .ok (.getfield 127, 3) := by decide +kernel
theorem eX11_next_39 : decode MX11_next.2.1 39 = .ok (.putfield 121, 3) := by decide +kernel
theorem eX11_next_42 : decode MX11_next.2.1 42 = .ok (.aload_n 0, 1) := by decide +kernel
theorem eX11_next_43 : decode MX11_next.2.1 43 = .ok (.aload_n 0, 1) := by decide +kernel
theorem eX11_next_44 : decode MX11_next.2.1 44 = .ok (.getfield 127, 3) := by decide +kernel
theorem eX11_next_47 : decode MX11_next.2.1 47 = .ok (.invokevirtual 130, 3) := by decide +kernel
theorem eX11_next_50 : decode MX11_next.2.1 50 = .ok (.istore_n 1, 1) := by decide +kernel
theorem eX11_next_51 : decode MX11_next.2.1 51 = .ok (.iload_n 1, 1) := by decide +kernel
theorem eX11_next_52 : decode MX11_next.2.1 52 = .ok (.ifCond .ge 11, 3) := by decide +kernel
theorem eX11_next_55 : decode MX11_next.2.1 55 = .ok (.aload_n 0, 1) := by decide +kernel
theorem eX11_next_56 : decode MX11_next.2.1 56 = .ok (.iconst 0, 1) := by decide +kernel
theorem eX11_next_57 : decode MX11_next.2.1 57 = .ok (.putfield 134, 3) := by decide +kernel
theorem eX11_next_60 : decode MX11_next.2.1 60 = .ok (.goto 178, 3) := by decide +kernel
theorem eX11_next_63 : decode MX11_next.2.1 63 = .ok (.iload_n 1, 1) := by decide +kernel
theorem eX11_next_64 : decode MX11_next.2.1 64 = .ok (.i2l, 1) := by decide +kernel
theorem eX11_next_65 : decode MX11_next.2.1 65 = .ok (.ldc2_w 137, 3) := by decide +kernel
theorem eX11_next_68 : decode MX11_next.2.1 68 = .ok (.ldc2_w 139, 3) := by decide +kernel
theorem eX11_next_71 : decode MX11_next.2.1 71 = .ok (.invokestatic 109, 3) := by decide +kernel
theorem eX11_next_74 : decode MX11_next.2.1 74 = .ok (.ifCond .eq 116, 3) := by decide +kernel
theorem eX11_next_77 : decode MX11_next.2.1 77 = .ok (.aload_n 0, 1) := by decide +kernel
theorem eX11_next_78 : decode MX11_next.2.1 78 = .ok (.iconst 1, 1) := by decide +kernel
theorem eX11_next_79 : decode MX11_next.2.1 79 = .ok (.putfield 134, 3) := by decide +kernel
theorem eX11_next_82 : decode MX11_next.2.1 82 = .ok (.aload_n 0, 1) := by decide +kernel
theorem eX11_next_83 : decode MX11_next.2.1 83 = .ok (.iconst 0, 1) := by decide +kernel
theorem eX11_next_84 : decode MX11_next.2.1 84 = .ok (.putfield 141, 3) := by decide +kernel
theorem eX11_next_87 : decode MX11_next.2.1 87 = .ok (.aload_n 0, 1) := by decide +kernel
theorem eX11_next_88 : decode MX11_next.2.1 88 = .ok (.aload_n 0, 1) := by decide +kernel
theorem eX11_next_89 : decode MX11_next.2.1 89 = .ok (.getfield 127, 3) := by decide +kernel
theorem eX11_next_92 : decode MX11_next.2.1 92 = .ok (.invokevirtual 130, 3) := by decide +kernel
theorem eX11_next_95 : decode MX11_next.2.1 95 = .ok (.i2l, 1) := by decide +kernel
theorem eX11_next_96 : decode MX11_next.2.1 96 = .ok (.ldc2_w 137, 3) := by decide +kernel
theorem eX11_next_99 : decode MX11_next.2.1 99 = .ok (.ldc2_w 139, 3) := by decide +kernel
theorem eX11_next_102 : decode MX11_next.2.1 102 = .ok (.invokestatic 109, 3) := by decide +kernel
theorem eX11_next_105 : decode MX11_next.2.1 105 = .ok (.ifCond .eq 59, 3) := by decide +kernel
theorem eX11_next_108 : decode MX11_next.2.1 108 = .ok (.aload_n 0, 1) := by decide +kernel
theorem eX11_next_109 : decode MX11_next.2.1 109 = .ok (.aload_n 0, 1) := by decide +kernel
theorem eX11_next_110 : decode MX11_next.2.1 110 = .ok (.getfield 127, 3) := by decide +kernel
theorem eX11_next_113 : decode MX11_next.2.1 113 = .ok (.aload_n 0, 1) := by decide +kernel
theorem eX11_next_114 : decode MX11_next.2.1 114 = .ok (.getfield 121, 3) := by decide +kernel
theorem eX11_next_117 : decode MX11_next.2.1 117 = .ok (.isub, 1) := by decide +kernel
theorem eX11_next_118 : decode MX11_next.2.1 118 = .ok (.iconst 2, 1) := by decide +kernel
theorem eX11_next_119 : decode MX11_next.2.1 119 = .ok (.if_icmp .ge 25, 3) := by decide +kernel
theorem eX11_next_122 : decode MX11_next.2.1 122 = .ok (.bipush 10, 2) := by decide +kernel
theorem eX11_next_124 : decode MX11_next.2.1 124 = .ok (.aload_n 0, 1) := by decide +kernel
theorem eX11_next_125 : decode MX11_next.2.1 125 = .ok (.getfield 141, 3) := by decide +kernel
theorem eX11_next_128 : decode MX11_next.2.1 128 = .ok (.imul, 1) := by decide +kernel
theorem eX11_next_129 : decode MX11_next.2.1 129 = .ok (.aload_n 0, 1) := by decide +kernel
theorem eX11_next_130 : decode MX11_next.2.1 130 = .ok (.aload_n 0, 1) := by decide +kernel
theorem eX11_next_131 : decode MX11_next.2.1 131 = .ok (.getfield 127, 3) := by decide +kernel
theorem eX11_next_134 : decode MX11_next.2.1 134 = .ok (.invokevirtual 130, 3) := by decide +kernel
theorem eX11_next_137 : decode MX11_next.2.1 137 = .ok (.iadd, 1) := by decide +kernel
theorem eX11_next_138 : decode MX11_next.2.1 138 = .ok (.bipush 48, 2) := by decide +kernel
theorem eX11_next_140 : decode MX11_next.2.1 140 = .ok (.isub, 1) := by decide +kernel
theorem eX11_next_141 : decode MX11_next.2.1 141 = .ok (.goto 7, 3) := by decide +kernel
theorem eX11_next_144 : decode MX11_next.2.1 144 = .ok (.aload_n 0, 1) := by decide +kernel
theorem eX11_next_145 : decode MX11_next.2.1 145 = .ok (.getfield 141, 3) := by decide +kernel
theorem eX11_next_148 : decode MX11_next.2.1 148 = .ok (.putfield 141, 3) := by decide +kernel
theorem eX11_next_151 : decode MX11_next.2.1 151 = .ok (.aload_n 0, 1) := by decide +kernel
theorem eX11_next_152 : decode MX11_next.2.1 152 = .ok (.dup, 1) := by decide +kernel
theorem eX11_next_153 : decode MX11_next.2.1 153 = .ok (.getfield 127, 3) := by decide +kernel
theorem eX11_next_156 : decode MX11_next.2.1 156 = .ok (.iconst 1, 1) := by decide +kernel
theorem eX11_next_157 : decode MX11_next.2.1 157 = .ok (.iadd, 1) := by decide +kernel
theorem eX11_next_158 : decode MX11_next.2.1 158 = .ok (.putfield 127, 3) := by decide +kernel
theorem eX11_next_161 : decode MX11_next.2.1 161 = .ok (.goto (-74), 3) := by decide +kernel
theorem eX11_next_164 : decode MX11_next.2.1 164 = .ok (.aload_n 0, 1) := by decide +kernel
theorem eX11_next_165 : decode MX11_next.2.1 165 = .ok (.aload_n 0, 1) := by decide +kernel
theorem eX11_next_166 : decode MX11_next.2.1 166 = .ok (.getfield 127, 3) := by decide +kernel
theorem eX11_next_169 : decode MX11_next.2.1 169 = .ok (.aload_n 0, 1) := by decide +kernel
theorem eX11_next_170 : decode MX11_next.2.1 170 = .ok (.getfield 121, 3) := by decide +kernel
theorem eX11_next_173 : decode MX11_next.2.1 173 = .ok (.isub, 1) := by decide +kernel
theorem eX11_next_174 : decode MX11_next.2.1 174 = .ok (.iconst 2, 1) := by decide +kernel
theorem eX11_next_175 : decode MX11_next.2.1 175 = .ok (.if_icmp .gt 7, 3) := by decide +kernel
theorem eX11_next_178 : decode MX11_next.2.1 178 = .ok (.iconst 1, 1) := by decide +kernel
theorem eX11_next_179 : decode MX11_next.2.1 179 = .ok (.goto 4, 3) := by decide +kernel
theorem eX11_next_182 : decode MX11_next.2.1 182 = .ok (.iconst 0, 1) := by decide +kernel
theorem eX11_next_183 : decode MX11_next.2.1 183 = .ok (.iconst 1, 1) := by decide +kernel
theorem eX11_next_184 : decode MX11_next.2.1 184 = .ok (.invokevirtual 144, 3) := by decide +kernel
theorem eX11_next_187 : decode MX11_next.2.1 187 = .ok (.goto 51, 3) := by decide +kernel
theorem eX11_next_190 : decode MX11_next.2.1 190 = .ok (.aload_n 0, 1) := by decide +kernel
theorem eX11_next_191 : decode MX11_next.2.1 191 = .ok (.iconst 2, 1) := by decide +kernel
theorem eX11_next_192 : decode MX11_next.2.1 192 = .ok (.putfield 134, 3) := by decide +kernel
theorem eX11_next_195 : decode MX11_next.2.1 195 = .ok (.aload_n 0, 1) := by decide +kernel
theorem eX11_next_196 : decode MX11_next.2.1 196 = .ok (.iload_n 1, 1) := by decide +kernel
theorem eX11_next_197 : decode MX11_next.2.1 197 = .ok (.putfield 141, 3) := by decide +kernel
theorem eX11_next_200 : decode MX11_next.2.1 200 = .ok (.aload_n 0, 1) := by decide +kernel
theorem eX11_next_201 : decode MX11_next.2.1 201 = .ok (.iload_n 1, 1) := by decide +kernel
theorem eX11_next_202 : decode MX11_next.2.1 202 = .ok (.bipush 58, 2) := by decide +kernel
theorem eX11_next_204 : decode MX11_next.2.1 204 = .ok (.if_icmp .eq 15, 3) := by decide +kernel
theorem eX11_next_207 : decode MX11_next.2.1 207 = .ok (.iload_n 1, 1) := by decide +kernel
theorem eX11_next_208 : decode MX11_next.2.1 208 = .ok (.bipush 44, 2) := by decide +kernel
theorem eX11_next_210 : decode MX11_next.2.1 210 = .ok (.if_icmp .eq 9, 3) := by decide +kernel
theorem eX11_next_213 : decode MX11_next.2.1 213 = .ok (.iload_n 1, 1) := by decide +kernel
theorem eX11_next_214 : decode MX11_next.2.1 214 = .ok (.bipush 59, 2) := by decide +kernel
theorem eX11_next_216 : decode MX11_next.2.1 216 = .ok (.if_icmp .ne 7, 3) := by decide +kernel
theorem eX11_next_219 : decode MX11_next.2.1 219 = .ok (.iconst 1, 1) := by decide +kernel
theorem eX11_next_220 : decode MX11_next.2.1 220 = .ok (.goto 4, 3) := by decide +kernel
theorem eX11_next_223 : decode MX11_next.2.1 223 = .ok (.iconst 0, 1) := by decide +kernel
theorem eX11_next_224 : decode MX11_next.2.1 224 = .ok (.iconst 1, 1) := by decide +kernel
theorem eX11_next_225 : decode MX11_next.2.1 225 = .ok (.invokevirtual 144, 3) := by decide +kernel
theorem eX11_next_228 : decode MX11_next.2.1 228 = .ok (.aload_n 0, 1) := by decide +kernel
theorem eX11_next_229 : decode MX11_next.2.1 229 = .ok (.dup, 1) := by decide +kernel
theorem eX11_next_230 : decode MX11_next.2.1 230 = .ok (.getfield 127, 3) := by decide +kernel
theorem eX11_next_233 : decode MX11_next.2.1 233 = .ok (.iconst 1, 1) := by decide +kernel
theorem eX11_next_234 : decode MX11_next.2.1 234 = .ok (.iadd, 1) := by decide +kernel
theorem eX11_next_235 : decode MX11_next.2.1 235 = .ok (.putfield 127, 3) := by decide +kernel
theorem eX11_next_238 : decode MX11_next.2.1 238 = .ok (.return_, 1) := by decide +kernel
theorem eX11_isSign_0 : decode MX11_isSign.2.1 0 = .ok (.aload_n 0, 1) := by decide +kernel
theorem eX11_isSign_1 : decode MX11_isSign.2.1 1 = .ok (.getfield 134, 3) := by decide +kernel
theorem eX11_isSign_4 : decode MX11_isSign.2.1 4 = .ok (.iconst 2, 1) := by decide +kernel
theorem eX11_isSign_5 : decode MX11_isSign.2.1 5 = .ok (.if_icmp .ne 15, 3) := by decide +kernel
theorem eX11_isSign_8 : decode MX11_isSign.2.1 8 = .ok (.aload_n 0, 1) := by decide +kernel
theorem eX11_isSign_9 : decode MX11_isSign.2.1 9 = .ok (.getfield 141, 3) := by decide +kernel
theorem eX11_isSign_12 : decode MX11_isSign.2.1 12 = .ok (.iload_n 1, 1) := by decide +kernel
theorem eX11_isSign_13 : decode MX11_isSign.2.1 13 = .ok (.if_icmp .ne 7, 3) := by decide +kernel
theorem eX11_isSign_16 : decode MX11_isSign.2.1 16 = .ok (.iconst 1, 1) := by decide +kernel
theorem eX11_isSign_17 : decode MX11_isSign.2.1 17 = .ok (.goto 4, 3) := by decide +kernel
theorem eX11_isSign_20 : decode MX11_isSign.2.1 20 = .ok (.iconst 0, 1) := by decide +kernel
theorem eX11_isSign_21 : decode MX11_isSign.2.1 21 = .ok (.ireturn, 1) := by decide +kernel
theorem eX11_readRow_0 : decode MX11_readRow.2.1 0 = .ok (.lconst 0, 1) := by decide +kernel
theorem eX11_readRow_1 : decode MX11_readRow.2.1 1 = .ok (.lstore_n 3, 1) := by decide +kernel
theorem eX11_readRow_2 : decode MX11_readRow.2.1 2 = .ok (.iconst 1, 1) := by decide +kernel
theorem eX11_readRow_3 : decode MX11_readRow.2.1 3 = .ok (.istore 5, 2) := by decide +kernel
theorem eX11_readRow_5 : decode MX11_readRow.2.1 5 = .ok (.aload_n 0, 1) := by decide +kernel
theorem eX11_readRow_6 : decode MX11_readRow.2.1 6 = .ok (.aload_n 0, 1) := by decide +kernel
theorem eX11_readRow_7 : decode MX11_readRow.2.1 7 = .ok (.getfield 134, 3) := by decide +kernel
theorem eX11_readRow_10 : decode MX11_readRow.2.1 10 = .ok (.iconst 1, 1) := by decide +kernel
theorem eX11_readRow_11 : decode MX11_readRow.2.1 11 = .ok (.if_icmp .ne 7, 3) := by decide +kernel
theorem eX11_readRow_14 : decode MX11_readRow.2.1 14 = .ok (.iconst 1, 1) := by decide +kernel
theorem eX11_readRow_15 : decode MX11_readRow.2.1 15 = .ok (.goto 4, 3) := by decide +kernel
theorem eX11_readRow_18 : decode MX11_readRow.2.1 18 = .ok (.iconst 0, 1) := by decide +kernel
theorem eX11_readRow_19 : decode MX11_readRow.2.1 19 = .ok (.iconst 2, 1) := by decide +kernel
theorem eX11_readRow_20 : decode MX11_readRow.2.1 20 = .ok (.invokevirtual 144, 3) := by decide +kernel
theorem eX11_readRow_23 : decode MX11_readRow.2.1 23 = .ok (.aload_n 0, 1) := by decide +kernel
theorem eX11_readRow_24 : decode MX11_readRow.2.1 24 = .ok (.iload_n 2, 1) := by decide +kernel
theorem eX11_readRow_25 : decode MX11_readRow.2.1 25 = .ok (.bipush 32, 2) := by decide +kernel
theorem eX11_readRow_27 : decode MX11_readRow.2.1 27 = .ok (.if_icmp .ge 7, 3) := by decide +kernel
theorem eX11_readRow_30 : decode MX11_readRow.2.1 30 = .ok (.iconst 1, 1) := by decide +kernel
theorem eX11_readRow_31 : decode MX11_readRow.2.1 31 = .ok (.goto 4, 3) := by decide +kernel
theorem eX11_readRow_34 : decode MX11_readRow.2.1 34 = .ok (.iconst 0, 1) := by decide +kernel
theorem eX11_readRow_35 : decode MX11_readRow.2.1 35 = .ok (.iconst 5, 1) := by decide +kernel
theorem eX11_readRow_36 : decode MX11_readRow.2.1 36 = .ok (.invokevirtual 144, 3) := by decide +kernel
theorem eX11_readRow_39 : decode MX11_readRow.2.1 39 = .ok (.iload 5, 2) := by decide +kernel
theorem eX11_readRow_41 : decode MX11_readRow.2.1 41 = .ok (.ifCond .eq 139, 3) := by decide +kernel
theorem eX11_readRow_44 : decode MX11_readRow.2.1 44 = .ok (.aload_n 0, 1) := by decide +kernel
theorem eX11_readRow_45 : decode MX11_readRow.2.1 45 = .ok (.getfield 118, 3) := by decide +kernel
theorem eX11_readRow_48 : decode MX11_readRow.2.1 48 = .ok (.ifCond .ne 132, 3) := by decide +kernel
theorem eX11_readRow_51 : decode MX11_readRow.2.1 51 = .ok (.aload_n 0, 1) := by decide +kernel
theorem eX11_readRow_52 : decode MX11_readRow.2.1 52 = .ok (.aload_n 0, 1) := by decide +kernel
theorem eX11_readRow_53 : decode MX11_readRow.2.1 53 = .ok (.getfield 134, 3) := by decide +kernel
theorem eX11_readRow_56 : decode MX11_readRow.2.1 56 = .ok (.iconst 1, 1) := by decide +kernel
theorem eX11_readRow_57 : decode MX11_readRow.2.1 57 = .ok (.if_icmp .ne 7, 3) := by decide +kernel
theorem eX11_readRow_60 : decode MX11_readRow.2.1 60 = .ok (.iconst 1, 1) := by decide +kernel
theorem eX11_readRow_61 : decode MX11_readRow.2.1 61 = .ok (.goto 4, 3) := by decide +kernel
theorem eX11_readRow_64 : decode MX11_readRow.2.1 64 = .ok (.iconst 0, 1) := by decide +kernel
theorem eX11_readRow_65 : decode MX11_readRow.2.1 65 = .ok (.iconst 2, 1) := by decide +kernel
theorem eX11_readRow_66 : decode MX11_readRow.2.1 66 = .ok (.invokevirtual 144, 3) := by decide +kernel
theorem eX11_readRow_69 : decode MX11_readRow.2.1 69 = .ok (.aload_n 0, 1) := by decide +kernel
theorem eX11_readRow_70 : decode MX11_readRow.2.1 70 = .ok (.getfield 118, 3) := by decide +kernel
theorem eX11_readRow_73 : decode MX11_readRow.2.1 73 = .ok (.ifCond .ne 21, 3) := by decide +kernel
theorem eX11_readRow_76 : decode MX11_readRow.2.1 76 = .ok (.aload_n 0, 1) := by decide +kernel
theorem eX11_readRow_77 : decode MX11_readRow.2.1 77 = .ok (.aload_n 0, 1) := by decide +kernel
theorem eX11_readRow_78 : decode MX11_readRow.2.1 78 = .ok (.getfield 141, 3) := by decide +kernel
theorem eX11_readRow_81 : decode MX11_readRow.2.1 81 = .ok (.iload_n 1, 1) := by decide +kernel
theorem eX11_readRow_82 : decode MX11_readRow.2.1 82 = .ok (.if_icmp .ge 7, 3) := by decide +kernel
theorem eX11_readRow_85 : decode MX11_readRow.2.1 85 = .ok (.iconst 1, 1) := by decide +kernel
theorem eX11_readRow_86 : decode MX11_readRow.2.1 86 = .ok (.goto 4, 3) := by decide +kernel
theorem eX11_readRow_89 : decode MX11_readRow.2.1 89 = .ok (.iconst 0, 1) := by decide +kernel
theorem eX11_readRow_90 : decode MX11_readRow.2.1 90 = .ok (.iconst 3, 1) := by decide +kernel
theorem eX11_readRow_91 : decode MX11_readRow.2.1 91 = .ok (.invokevirtual 144, 3) := by decide +kernel
theorem eX11_readRow_94 : decode MX11_readRow.2.1 94 = .ok (.aload_n 0, 1) := by decide +kernel
theorem eX11_readRow_95 : decode MX11_readRow.2.1 95 = .ok (.getfield 118, 3) := by decide +kernel
theorem eX11_readRow_98 : decode MX11_readRow.2.1 98 = .ok (.ifCond .ne 38, 3) := by decide +kernel
theorem eX11_readRow_101 : decode MX11_readRow.2.1 101 = .ok (.aload_n 0, 1) := by decide +kernel
theorem eX11_readRow_102 : decode MX11_readRow.2.1 102 = .ok (.lload_n 3, 1) := by decide +kernel
theorem eX11_readRow_103 : decode MX11_readRow.2.1 103 = .ok (.aload_n 0, 1) := by decide +kernel
theorem eX11_readRow_104 : decode MX11_readRow.2.1 104 = .ok (.getfield 141, 3) := by decide +kernel
theorem eX11_readRow_107 : decode MX11_readRow.2.1 107 = .ok (.lshr, 1) := by decide +kernel
theorem eX11_readRow_108 : decode MX11_readRow.2.1 108 = .ok (.lconst 1, 1) := by decide +kernel
theorem eX11_readRow_109 : decode MX11_readRow.2.1 109 = .ok (.land, 1) := by decide +kernel
theorem eX11_readRow_110 : decode MX11_readRow.2.1 110 = .ok (.lconst 0, 1) := by decide +kernel
theorem eX11_readRow_111 : decode MX11_readRow.2.1 111 = .ok (.lcmp, 1) := by decide +kernel
theorem eX11_readRow_112 : decode MX11_readRow.2.1 112 = .ok (.ifCond .ne 19, 3) := by decide +kernel
theorem eX11_readRow_115 : decode MX11_readRow.2.1 115 = .ok (.aload_n 0, 1) := by decide +kernel
theorem eX11_readRow_116 : decode MX11_readRow.2.1 116 = .ok (.getfield 30, 3) := by decide +kernel
theorem eX11_readRow_119 : decode MX11_readRow.2.1 119 = .ok (.aload_n 0, 1) := by decide +kernel
theorem eX11_readRow_120 : decode MX11_readRow.2.1 120 = .ok (.getfield 141, 3) := by decide +kernel
theorem eX11_readRow_123 : decode MX11_readRow.2.1 123 = .ok (.iaload, 1) := by decide +kernel
theorem eX11_readRow_124 : decode MX11_readRow.2.1 124 = .ok (.ifCond .le 7, 3) := by decide +kernel
theorem eX11_readRow_127 : decode MX11_readRow.2.1 127 = .ok (.iconst 1, 1) := by decide +kernel
theorem eX11_readRow_128 : decode MX11_readRow.2.1 128 = .ok (.goto 4, 3) := by decide +kernel
theorem eX11_readRow_131 : decode MX11_readRow.2.1 131 = .ok (.iconst 0, 1) := by decide +kernel
theorem eX11_readRow_132 : decode MX11_readRow.2.1 132 = .ok (.iconst 4, 1) := by decide +kernel
theorem eX11_readRow_133 : decode MX11_readRow.2.1 133 = .ok (.invokevirtual 144, 3) := by decide +kernel
theorem eX11_readRow_136 : decode MX11_readRow.2.1 136 = .ok (.lload_n 3, 1) := by decide +kernel
theorem eX11_readRow_137 : decode MX11_readRow.2.1 137 = .ok (.aload_n 0, 1) := by decide +kernel
theorem eX11_readRow_138 : decode MX11_readRow.2.1 138 = .ok (.getfield 118, 3) := by decide +kernel
theorem eX11_readRow_141 : decode MX11_readRow.2.1 141 = .ok (.ifCond .ne 12, 3) := by decide +kernel
theorem eX11_readRow_144 : decode MX11_readRow.2.1 144 = .ok (.lconst 1, 1) := by decide +kernel
theorem eX11_readRow_145 : decode MX11_readRow.2.1 145 = .ok (.aload_n 0, 1) := by decide +kernel
theorem eX11_readRow_146 : decode MX11_readRow.2.1 146 = .ok (.getfield 141, 3) := by decide +kernel
theorem eX11_readRow_149 : decode MX11_readRow.2.1 149 = .ok (.lshl, 1) := by decide +kernel
theorem eX11_readRow_150 : decode MX11_readRow.2.1 150 = .ok (.goto 4, 3) := by decide +kernel
theorem eX11_readRow_153 : decode MX11_readRow.2.1 153 = .ok (.lconst 0, 1) := by decide +kernel
theorem eX11_readRow_154 : decode MX11_readRow.2.1 154 = .ok (.lor, 1) := by decide +kernel
theorem eX11_readRow_155 : decode MX11_readRow.2.1 155 = .ok (.lstore_n 3, 1) := by decide +kernel
theorem eX11_readRow_156 : decode MX11_readRow.2.1 156 = .ok (.aload_n 0, 1) := by decide +kernel
theorem eX11_readRow_157 : decode MX11_readRow.2.1 157 = .ok (.invokevirtual 148, 3) := by decide +kernel
theorem eX11_readRow_160 : decode MX11_readRow.2.1 160 = .ok (.aload_n 0, 1) := by decide +kernel
theorem eX11_readRow_161 : decode MX11_readRow.2.1 161 = .ok (.bipush 44, 2) := by decide +kernel
theorem eX11_readRow_163 : decode MX11_readRow.2.1 163 = .ok (.invokevirtual 151, 3) := by decide +kernel
theorem eX11_readRow_166 : decode MX11_readRow.2.1 166 = .ok (.istore 5, 2) := by decide +kernel
theorem eX11_readRow_168 : decode MX11_readRow.2.1 168 = .ok (.iload 5, 2) := by decide +kernel
theorem eX11_readRow_170 : decode MX11_readRow.2.1 170 = .ok (.ifCond .eq (-131), 3) := by decide +kernel
theorem eX11_readRow_173 : decode MX11_readRow.2.1 173 = .ok (.aload_n 0, 1) := by decide +kernel
theorem eX11_readRow_174 : decode MX11_readRow.2.1 174 = .ok (.invokevirtual 148, 3) := by decide +kernel
theorem eX11_readRow_177 : decode MX11_readRow.2.1 177 = .ok (.goto (-138), 3) := by decide +kernel
theorem eX11_readRow_180 : decode MX11_readRow.2.1 180 = .ok (.aload_n 0, 1) := by decide +kernel
theorem eX11_readRow_181 : decode MX11_readRow.2.1 181 = .ok (.getfield 118, 3) := by decide +kernel
theorem eX11_readRow_184 : decode MX11_readRow.2.1 184 = .ok (.ifCond .ne 14, 3) := by decide +kernel
theorem eX11_readRow_187 : decode MX11_readRow.2.1 187 = .ok (.aload_n 0, 1) := by decide +kernel
theorem eX11_readRow_188 : decode MX11_readRow.2.1 188 = .ok (.aload_n 0, 1) := by decide +kernel
theorem eX11_readRow_189 : decode MX11_readRow.2.1 189 = .ok (.bipush 59, 2) := by decide +kernel
theorem eX11_readRow_191 : decode MX11_readRow.2.1 191 = .ok (.invokevirtual 151, 3) := by decide +kernel
theorem eX11_readRow_194 : decode MX11_readRow.2.1 194 = .ok (.iconst 2, 1) := by decide +kernel
theorem eX11_readRow_195 : decode MX11_readRow.2.1 195 = .ok (.invokevirtual 144, 3) := by decide +kernel
theorem eX11_readRow_198 : decode MX11_readRow.2.1 198 = .ok (.aload_n 0, 1) := by decide +kernel
theorem eX11_readRow_199 : decode MX11_readRow.2.1 199 = .ok (.invokevirtual 148, 3) := by decide +kernel
theorem eX11_readRow_202 : decode MX11_readRow.2.1 202 = .ok (.lload_n 3, 1) := by decide +kernel
theorem eX11_readRow_203 : decode MX11_readRow.2.1 203 = .ok (.lreturn, 1) := by decide +kernel
theorem eX11_text_0 : decode MX11_text.2.1 0 = .ok (.aload_n 0, 1) := by decide +kernel
theorem eX11_text_1 : decode MX11_text.2.1 1 = .ok (.getfield 106, 3) := by decide +kernel
theorem eX11_text_4 : decode MX11_text.2.1 4 = .ok (.bipush 8, 2) := by decide +kernel
theorem eX11_text_6 : decode MX11_text.2.1 6 = .ok (.if_icmp .ne 6, 3) := by decide +kernel
theorem eX11_text_9 : decode MX11_text.2.1 9 = .ok (.bipush (-3), 2) := by decide +kernel
theorem eX11_text_11 : decode MX11_text.2.1 11 = .ok (.ireturn, 1) := by decide +kernel
theorem eX11_text_12 : decode MX11_text.2.1 12 = .ok (.aload_n 0, 1) := by decide +kernel
theorem eX11_text_13 : decode MX11_text.2.1 13 = .ok (.iconst 0, 1) := by decide +kernel
theorem eX11_text_14 : decode MX11_text.2.1 14 = .ok (.putfield 118, 3) := by decide +kernel
theorem eX11_text_17 : decode MX11_text.2.1 17 = .ok (.aload_n 0, 1) := by decide +kernel
theorem eX11_text_18 : decode MX11_text.2.1 18 = .ok (.iconst 0, 1) := by decide +kernel
theorem eX11_text_19 : decode MX11_text.2.1 19 = .ok (.putfield 127, 3) := by decide +kernel
theorem eX11_text_22 : decode MX11_text.2.1 22 = .ok (.aload_n 0, 1) := by decide +kernel
theorem eX11_text_23 : decode MX11_text.2.1 23 = .ok (.invokevirtual 91, 3) := by decide +kernel
theorem eX11_text_26 : decode MX11_text.2.1 26 = .ok (.aload_n 0, 1) := by decide +kernel
theorem eX11_text_27 : decode MX11_text.2.1 27 = .ok (.invokevirtual 148, 3) := by decide +kernel
theorem eX11_text_30 : decode MX11_text.2.1 30 = .ok (.aload_n 0, 1) := by decide +kernel
theorem eX11_text_31 : decode MX11_text.2.1 31 = .ok (.aload_n 0, 1) := by decide +kernel
theorem eX11_text_32 : decode MX11_text.2.1 32 = .ok (.getfield 134, 3) := by decide +kernel
theorem eX11_text_35 : decode MX11_text.2.1 35 = .ok (.iconst 1, 1) := by decide +kernel
theorem eX11_text_36 : decode MX11_text.2.1 36 = .ok (.if_icmp .ne 7, 3) := by decide +kernel
theorem eX11_text_39 : decode MX11_text.2.1 39 = .ok (.iconst 1, 1) := by decide +kernel
theorem eX11_text_40 : decode MX11_text.2.1 40 = .ok (.goto 4, 3) := by decide +kernel
theorem eX11_text_43 : decode MX11_text.2.1 43 = .ok (.iconst 0, 1) := by decide +kernel
theorem eX11_text_44 : decode MX11_text.2.1 44 = .ok (.iconst 2, 1) := by decide +kernel
theorem eX11_text_45 : decode MX11_text.2.1 45 = .ok (.invokevirtual 144, 3) := by decide +kernel
theorem eX11_text_48 : decode MX11_text.2.1 48 = .ok (.aload_n 0, 1) := by decide +kernel
theorem eX11_text_49 : decode MX11_text.2.1 49 = .ok (.getfield 118, 3) := by decide +kernel
theorem eX11_text_52 : decode MX11_text.2.1 52 = .ok (.ifCond .ne 22, 3) := by decide +kernel
theorem eX11_text_55 : decode MX11_text.2.1 55 = .ok (.aload_n 0, 1) := by decide +kernel
theorem eX11_text_56 : decode MX11_text.2.1 56 = .ok (.aload_n 0, 1) := by decide +kernel
theorem eX11_text_57 : decode MX11_text.2.1 57 = .ok (.getfield 141, 3) := by decide +kernel
theorem eX11_text_60 : decode MX11_text.2.1 60 = .ok (.i2l, 1) := by decide +kernel
theorem eX11_text_61 : decode MX11_text.2.1 61 = .ok (.ldc2_w 155, 3) := by decide +kernel
theorem eX11_text_64 : decode MX11_text.2.1 64 = .ok (.ldc2_w 157, 3) := by decide +kernel
theorem eX11_text_67 : decode MX11_text.2.1 67 = .ok (.invokestatic 109, 3) := by decide +kernel
theorem eX11_text_70 : decode MX11_text.2.1 70 = .ok (.iconst 3, 1) := by decide +kernel
theorem eX11_text_71 : decode MX11_text.2.1 71 = .ok (.invokevirtual 144, 3) := by decide +kernel
theorem eX11_text_74 : decode MX11_text.2.1 74 = .ok (.aload_n 0, 1) := by decide +kernel
theorem eX11_text_75 : decode MX11_text.2.1 75 = .ok (.getfield 141, 3) := by decide +kernel
theorem eX11_text_78 : decode MX11_text.2.1 78 = .ok (.istore_n 1, 1) := by decide +kernel
theorem eX11_text_79 : decode MX11_text.2.1 79 = .ok (.aload_n 0, 1) := by decide +kernel
theorem eX11_text_80 : decode MX11_text.2.1 80 = .ok (.invokevirtual 148, 3) := by decide +kernel
theorem eX11_text_83 : decode MX11_text.2.1 83 = .ok (.aload_n 0, 1) := by decide +kernel
theorem eX11_text_84 : decode MX11_text.2.1 84 = .ok (.getfield 118, 3) := by decide +kernel
theorem eX11_text_87 : decode MX11_text.2.1 87 = .ok (.ifCond .ne 14, 3) := by decide +kernel
theorem eX11_text_90 : decode MX11_text.2.1 90 = .ok (.aload_n 0, 1) := by decide +kernel
theorem eX11_text_91 : decode MX11_text.2.1 91 = .ok (.aload_n 0, 1) := by decide +kernel
theorem eX11_text_92 : decode MX11_text.2.1 92 = .ok (.bipush 58, 2) := by decide +kernel
theorem eX11_text_94 : decode MX11_text.2.1 94 = .ok (.invokevirtual 151, 3) := by decide +kernel
theorem eX11_text_97 : decode MX11_text.2.1 97 = .ok (.iconst 2, 1) := by decide +kernel
theorem eX11_text_98 : decode MX11_text.2.1 98 = .ok (.invokevirtual 144, 3) := by decide +kernel
theorem eX11_text_101 : decode MX11_text.2.1 101 = .ok (.aload_n 0, 1) := by decide +kernel
theorem eX11_text_102 : decode MX11_text.2.1 102 = .ok (.invokevirtual 148, 3) := by decide +kernel
theorem eX11_text_105 : decode MX11_text.2.1 105 = .ok (.iconst 0, 1) := by decide +kernel
theorem eX11_text_106 : decode MX11_text.2.1 106 = .ok (.istore_n 2, 1) := by decide +kernel
theorem eX11_text_107 : decode MX11_text.2.1 107 = .ok (.aload_n 0, 1) := by decide +kernel
theorem eX11_text_108 : decode MX11_text.2.1 108 = .ok (.getfield 118, 3) := by decide +kernel
theorem eX11_text_111 : decode MX11_text.2.1 111 = .ok (.ifCond .ne 50, 3) := by decide +kernel
theorem eX11_text_114 : decode MX11_text.2.1 114 = .ok (.aload_n 0, 1) := by decide +kernel
theorem eX11_text_115 : decode MX11_text.2.1 115 = .ok (.getfield 134, 3) := by decide +kernel
theorem eX11_text_118 : decode MX11_text.2.1 118 = .ok (.ifCond .eq 43, 3) := by decide +kernel
theorem eX11_text_121 : decode MX11_text.2.1 121 = .ok (.aload_n 0, 1) := by decide +kernel
theorem eX11_text_122 : decode MX11_text.2.1 122 = .ok (.iload_n 1, 1) := by decide +kernel
theorem eX11_text_123 : decode MX11_text.2.1 123 = .ok (.iload_n 2, 1) := by decide +kernel
theorem eX11_text_124 : decode MX11_text.2.1 124 = .ok (.invokevirtual 159, 3) := by decide +kernel
theorem eX11_text_127 : decode MX11_text.2.1 127 = .ok (.lstore_n 3, 1) := by decide +kernel
theorem eX11_text_128 : decode MX11_text.2.1 128 = .ok (.aload_n 0, 1) := by decide +kernel
theorem eX11_text_129 : decode MX11_text.2.1 129 = .ok (.getfield 118, 3) := by decide +kernel
theorem eX11_text_132 : decode MX11_text.2.1 132 = .ok (.ifCond .ne 26, 3) := by decide +kernel
theorem eX11_text_135 : decode MX11_text.2.1 135 = .ok (.aload_n 0, 1) := by decide +kernel
theorem eX11_text_136 : decode MX11_text.2.1 136 = .ok (.getfield 16, 3) := by decide +kernel
theorem eX11_text_139 : decode MX11_text.2.1 139 = .ok (.bipush 32, 2) := by decide +kernel
theorem eX11_text_141 : decode MX11_text.2.1 141 = .ok (.aload_n 0, 1) := by decide +kernel
theorem eX11_text_142 : decode MX11_text.2.1 142 = .ok (.getfield 106, 3) := by decide +kernel
theorem eX11_text_145 : decode MX11_text.2.1 145 = .ok (.imul, 1) := by decide +kernel
theorem eX11_text_146 : decode MX11_text.2.1 146 = .ok (.iload_n 2, 1) := by decide +kernel
theorem eX11_text_147 : decode MX11_text.2.1 147 = .ok (.iadd, 1) := by decide +kernel
theorem eX11_text_148 : decode MX11_text.2.1 148 = .ok (.lload_n 3, 1) := by decide +kernel
theorem eX11_text_149 : decode MX11_text.2.1 149 = .ok (.lastore, 1) := by decide +kernel
theorem eX11_text_150 : decode MX11_text.2.1 150 = .ok (.aload_n 0, 1) := by decide +kernel
theorem eX11_text_151 : decode MX11_text.2.1 151 = .ok (.lload_n 3, 1) := by decide +kernel
theorem eX11_text_152 : decode MX11_text.2.1 152 = .ok (.invokevirtual 98, 3) := by decide +kernel
theorem eX11_text_155 : decode MX11_text.2.1 155 = .ok (.iinc 2 1, 3) := by decide +kernel
theorem eX11_text_158 : decode MX11_text.2.1 158 = .ok (.goto (-51), 3) := by decide +kernel
theorem eX11_text_161 : decode MX11_text.2.1 161 = .ok (.aload_n 0, 1) := by decide +kernel
theorem eX11_text_162 : decode MX11_text.2.1 162 = .ok (.iconst 0, 1) := by decide +kernel
theorem eX11_text_163 : decode MX11_text.2.1 163 = .ok (.putfield 113, 3) := by decide +kernel
theorem eX11_text_166 : decode MX11_text.2.1 166 = .ok (.aload_n 0, 1) := by decide +kernel
theorem eX11_text_167 : decode MX11_text.2.1 167 = .ok (.getfield 118, 3) := by decide +kernel
theorem eX11_text_170 : decode MX11_text.2.1 170 = .ok (.ifCond .le 11, 3) := by decide +kernel
theorem eX11_text_173 : decode MX11_text.2.1 173 = .ok (.bipush (-10), 2) := by decide +kernel
theorem eX11_text_175 : decode MX11_text.2.1 175 = .ok (.aload_n 0, 1) := by decide +kernel
theorem eX11_text_176 : decode MX11_text.2.1 176 = .ok (.getfield 124, 3) := by decide +kernel
theorem eX11_text_179 : decode MX11_text.2.1 179 = .ok (.isub, 1) := by decide +kernel
theorem eX11_text_180 : decode MX11_text.2.1 180 = .ok (.ireturn, 1) := by decide +kernel
theorem eX11_text_181 : decode MX11_text.2.1 181 = .ok (.aload_n 0, 1) := by decide +kernel
theorem eX11_text_182 : decode MX11_text.2.1 182 = .ok (.getfield 7, 3) := by decide +kernel
theorem eX11_text_185 : decode MX11_text.2.1 185 = .ok (.aload_n 0, 1) := by decide +kernel
theorem eX11_text_186 : decode MX11_text.2.1 186 = .ok (.getfield 106, 3) := by decide +kernel
theorem eX11_text_189 : decode MX11_text.2.1 189 = .ok (.iload_n 1, 1) := by decide +kernel
theorem eX11_text_190 : decode MX11_text.2.1 190 = .ok (.iastore, 1) := by decide +kernel
theorem eX11_text_191 : decode MX11_text.2.1 191 = .ok (.aload_n 0, 1) := by decide +kernel
theorem eX11_text_192 : decode MX11_text.2.1 192 = .ok (.getfield 13, 3) := by decide +kernel
theorem eX11_text_195 : decode MX11_text.2.1 195 = .ok (.aload_n 0, 1) := by decide +kernel
theorem eX11_text_196 : decode MX11_text.2.1 196 = .ok (.getfield 106, 3) := by decide +kernel
theorem eX11_text_199 : decode MX11_text.2.1 199 = .ok (.iload_n 2, 1) := by decide +kernel
theorem eX11_text_200 : decode MX11_text.2.1 200 = .ok (.iastore, 1) := by decide +kernel
theorem eX11_text_201 : decode MX11_text.2.1 201 = .ok (.aload_n 0, 1) := by decide +kernel
theorem eX11_text_202 : decode MX11_text.2.1 202 = .ok (.dup, 1) := by decide +kernel
theorem eX11_text_203 : decode MX11_text.2.1 203 = .ok (.getfield 106, 3) := by decide +kernel
theorem eX11_text_206 : decode MX11_text.2.1 206 = .ok (.iconst 1, 1) := by decide +kernel
theorem eX11_text_207 : decode MX11_text.2.1 207 = .ok (.iadd, 1) := by decide +kernel
theorem eX11_text_208 : decode MX11_text.2.1 208 = .ok (.putfield 106, 3) := by decide +kernel
theorem eX11_text_211 : decode MX11_text.2.1 211 = .ok (.aload_n 0, 1) := by decide +kernel
theorem eX11_text_212 : decode MX11_text.2.1 212 = .ok (.getfield 106, 3) := by decide +kernel
theorem eX11_text_215 : decode MX11_text.2.1 215 = .ok (.iconst 1, 1) := by decide +kernel
theorem eX11_text_216 : decode MX11_text.2.1 216 = .ok (.isub, 1) := by decide +kernel
theorem eX11_text_217 : decode MX11_text.2.1 217 = .ok (.ireturn, 1) := by decide +kernel
theorem eX11_fault_0 : decode MX11_fault.2.1 0 = .ok (.aload_n 0, 1) := by decide +kernel
theorem eX11_fault_1 : decode MX11_fault.2.1 1 = .ok (.getfield 118, 3) := by decide +kernel
theorem eX11_fault_4 : decode MX11_fault.2.1 4 = .ok (.ireturn, 1) := by decide +kernel
theorem eX11_comes_0 : decode MX11_comes.2.1 0 = .ok (.lconst 0, 1) := by decide +kernel
theorem eX11_comes_1 : decode MX11_comes.2.1 1 = .ok (.lstore_n 3, 1) := by decide +kernel
theorem eX11_comes_2 : decode MX11_comes.2.1 2 = .ok (.iconst 0, 1) := by decide +kernel
theorem eX11_comes_3 : decode MX11_comes.2.1 3 = .ok (.istore 5, 2) := by decide +kernel
theorem eX11_comes_5 : decode MX11_comes.2.1 5 = .ok (.iload 5, 2) := by decide +kernel
theorem eX11_comes_7 : decode MX11_comes.2.1 7 = .ok (.aload_n 0, 1) := by decide +kernel
theorem eX11_comes_8 : decode MX11_comes.2.1 8 = .ok (.getfield 7, 3) := by decide +kernel
theorem eX11_comes_11 : decode MX11_comes.2.1 11 = .ok (.aload_n 0, 1) := by decide +kernel
theorem eX11_comes_12 : decode MX11_comes.2.1 12 = .ok (.getfield 106, 3) := by decide +kernel
theorem eX11_comes_15 : decode MX11_comes.2.1 15 = .ok (.iaload, 1) := by decide +kernel
theorem eX11_comes_16 : decode MX11_comes.2.1 16 = .ok (.if_icmp .ge 41, 3) := by decide +kernel
theorem eX11_comes_19 : decode MX11_comes.2.1 19 = .ok (.lload_n 3, 1) := by decide +kernel
theorem eX11_comes_20 : decode MX11_comes.2.1 20 = .ok (.lload_n 1, 1) := by decide +kernel
theorem eX11_comes_21 : decode MX11_comes.2.1 21 = .ok (.iload 5, 2) := by decide +kernel
theorem eX11_comes_23 : decode MX11_comes.2.1 23 = .ok (.lshr, 1) := by decide +kernel
theorem eX11_comes_24 : decode MX11_comes.2.1 24 = .ok (.lconst 1, 1) := by decide +kernel
theorem eX11_comes_25 : decode MX11_comes.2.1 25 = .ok (.land, 1) := by decide +kernel
theorem eX11_comes_26 : decode MX11_comes.2.1 26 = .ok (.lconst 1, 1) := by decide +kernel
theorem eX11_comes_27 : decode MX11_comes.2.1 27 = .ok (.lcmp, 1) := by decide +kernel
theorem eX11_comes_28 : decode MX11_comes.2.1 28 = .ok (.ifCond .ne 20, 3) := by decide +kernel
theorem eX11_comes_31 : decode MX11_comes.2.1 31 = .ok (.aload_n 0, 1) := by decide +kernel
theorem eX11_comes_32 : decode MX11_comes.2.1 32 = .ok (.getfield 30, 3) := by decide +kernel
theorem eX11_comes_35 : decode MX11_comes.2.1 35 = .ok (.iload 5, 2) := by decide +kernel
theorem eX11_comes_37 : decode MX11_comes.2.1 37 = .ok (.iaload, 1) := by decide +kernel
theorem eX11_comes_38 : decode MX11_comes.2.1 38 = .ok (.ifCond .le 10, 3) := by decide +kernel
theorem eX11_comes_41 : decode MX11_comes.2.1 41 = .ok (.lconst 1, 1) := by decide +kernel
theorem eX11_comes_42 : decode MX11_comes.2.1 42 = .ok (.iload 5, 2) := by decide +kernel
theorem eX11_comes_44 : decode MX11_comes.2.1 44 = .ok (.lshl, 1) := by decide +kernel
theorem eX11_comes_45 : decode MX11_comes.2.1 45 = .ok (.goto 4, 3) := by decide +kernel
theorem eX11_comes_48 : decode MX11_comes.2.1 48 = .ok (.lconst 0, 1) := by decide +kernel
theorem eX11_comes_49 : decode MX11_comes.2.1 49 = .ok (.lor, 1) := by decide +kernel
theorem eX11_comes_50 : decode MX11_comes.2.1 50 = .ok (.lstore_n 3, 1) := by decide +kernel
theorem eX11_comes_51 : decode MX11_comes.2.1 51 = .ok (.iinc 5 1, 3) := by decide +kernel
theorem eX11_comes_54 : decode MX11_comes.2.1 54 = .ok (.goto (-49), 3) := by decide +kernel
theorem eX11_comes_57 : decode MX11_comes.2.1 57 = .ok (.lload_n 3, 1) := by decide +kernel
theorem eX11_comes_58 : decode MX11_comes.2.1 58 = .ok (.lconst 0, 1) := by decide +kernel
theorem eX11_comes_59 : decode MX11_comes.2.1 59 = .ok (.lcmp, 1) := by decide +kernel
theorem eX11_comes_60 : decode MX11_comes.2.1 60 = .ok (.ifCond .eq 44, 3) := by decide +kernel
theorem eX11_comes_63 : decode MX11_comes.2.1 63 = .ok (.aload_n 0, 1) := by decide +kernel
theorem eX11_comes_64 : decode MX11_comes.2.1 64 = .ok (.getfield 16, 3) := by decide +kernel
theorem eX11_comes_67 : decode MX11_comes.2.1 67 = .ok (.bipush 32, 2) := by decide +kernel
theorem eX11_comes_69 : decode MX11_comes.2.1 69 = .ok (.aload_n 0, 1) := by decide +kernel
theorem eX11_comes_70 : decode MX11_comes.2.1 70 = .ok (.getfield 106, 3) := by decide +kernel
theorem eX11_comes_73 : decode MX11_comes.2.1 73 = .ok (.imul, 1) := by decide +kernel
theorem eX11_comes_74 : decode MX11_comes.2.1 74 = .ok (.aload_n 0, 1) := by decide +kernel
theorem eX11_comes_75 : decode MX11_comes.2.1 75 = .ok (.getfield 13, 3) := by decide +kernel
theorem eX11_comes_78 : decode MX11_comes.2.1 78 = .ok (.aload_n 0, 1) := by decide +kernel
theorem eX11_comes_79 : decode MX11_comes.2.1 79 = .ok (.getfield 106, 3) := by decide +kernel
theorem eX11_comes_82 : decode MX11_comes.2.1 82 = .ok (.iaload, 1) := by decide +kernel
theorem eX11_comes_83 : decode MX11_comes.2.1 83 = .ok (.iadd, 1) := by decide +kernel
theorem eX11_comes_84 : decode MX11_comes.2.1 84 = .ok (.lload_n 3, 1) := by decide +kernel
theorem eX11_comes_85 : decode MX11_comes.2.1 85 = .ok (.lastore, 1) := by decide +kernel
theorem eX11_comes_86 : decode MX11_comes.2.1 86 = .ok (.aload_n 0, 1) := by decide +kernel
theorem eX11_comes_87 : decode MX11_comes.2.1 87 = .ok (.getfield 13, 3) := by decide +kernel
theorem eX11_comes_90 : decode MX11_comes.2.1 90 = .ok (.aload_n 0, 1) := by decide +kernel
theorem eX11_comes_91 : decode MX11_comes.2.1 91 = .ok (.getfield 106, 3) := by decide +kernel
theorem eX11_comes_94 : decode MX11_comes.2.1 94 = .ok (.dup2, 1) := by decide +kernel
theorem eX11_comes_95 : decode MX11_comes.2.1 95 = .ok (.iaload, 1) := by decide +kernel
theorem eX11_comes_96 : decode MX11_comes.2.1 96 = .ok (.iconst 1, 1) := by decide +kernel
theorem eX11_comes_97 : decode MX11_comes.2.1 97 = .ok (.iadd, 1) := by decide +kernel
theorem eX11_comes_98 : decode MX11_comes.2.1 98 = .ok (.iastore, 1) := by decide +kernel
theorem eX11_comes_99 : decode MX11_comes.2.1 99 = .ok (.aload_n 0, 1) := by decide +kernel
theorem eX11_comes_100 : decode MX11_comes.2.1 100 = .ok (.lload_n 3, 1) := by decide +kernel
theorem eX11_comes_101 : decode MX11_comes.2.1 101 = .ok (.invokevirtual 98, 3) := by decide +kernel
theorem eX11_comes_104 : decode MX11_comes.2.1 104 = .ok (.return_, 1) := by decide +kernel
theorem eX11_placesFrom_0 : decode MX11_placesFrom.2.1 0 = .ok (.lconst 0, 1) := by decide +kernel
theorem eX11_placesFrom_1 : decode MX11_placesFrom.2.1 1 = .ok (.lstore 4, 2) := by decide +kernel
theorem eX11_placesFrom_3 : decode MX11_placesFrom.2.1 3 = .ok (.iload_n 1, 1) := by decide +kernel
theorem eX11_placesFrom_4 : decode MX11_placesFrom.2.1 4 = .ok (.istore 6, 2) := by decide +kernel
theorem eX11_placesFrom_6 : decode MX11_placesFrom.2.1 6 = .ok (.iload 6, 2) := by decide +kernel
theorem eX11_placesFrom_8 : decode MX11_placesFrom.2.1 8 = .ok (.aload_n 0, 1) := by decide +kernel
theorem eX11_placesFrom_9 : decode MX11_placesFrom.2.1 9 = .ok (.getfield 7, 3) := by decide +kernel
theorem eX11_placesFrom_12 : decode MX11_placesFrom.2.1 12 = .ok (.aload_n 0, 1) := by decide +kernel
theorem eX11_placesFrom_13 : decode MX11_placesFrom.2.1 13 = .ok (.getfield 106, 3) := by decide +kernel
theorem eX11_placesFrom_16 : decode MX11_placesFrom.2.1 16 = .ok (.iaload, 1) := by decide +kernel
theorem eX11_placesFrom_17 : decode MX11_placesFrom.2.1 17 = .ok (.if_icmp .ge 78, 3) := by decide +kernel
theorem eX11_placesFrom_20 : decode MX11_placesFrom.2.1 20 = .ok (.iload_n 2, 1) := by decide +kernel
theorem eX11_placesFrom_21 : decode MX11_placesFrom.2.1 21 = .ok (.ifCond .eq 43, 3) := by decide +kernel
theorem eX11_placesFrom_24 : decode MX11_placesFrom.2.1 24 = .ok (.iload_n 2, 1) := by decide +kernel
theorem eX11_placesFrom_25 : decode MX11_placesFrom.2.1 25 = .ok (.iconst 1, 1) := by decide +kernel
theorem eX11_placesFrom_26 : decode MX11_placesFrom.2.1 26 = .ok (.if_icmp .ne 13, 3) := by decide +kernel
theorem eX11_placesFrom_29 : decode MX11_placesFrom.2.1 29 = .ok (.iload 6, 2) := by decide +kernel
theorem eX11_placesFrom_31 : decode MX11_placesFrom.2.1 31 = .ok (.iload_n 3, 1) := by decide +kernel
theorem eX11_placesFrom_32 : decode MX11_placesFrom.2.1 32 = .ok (.ishr, 1) := by decide +kernel
theorem eX11_placesFrom_33 : decode MX11_placesFrom.2.1 33 = .ok (.iconst 1, 1) := by decide +kernel
theorem eX11_placesFrom_34 : decode MX11_placesFrom.2.1 34 = .ok (.iand, 1) := by decide +kernel
theorem eX11_placesFrom_35 : decode MX11_placesFrom.2.1 35 = .ok (.iconst 1, 1) := by decide +kernel
theorem eX11_placesFrom_36 : decode MX11_placesFrom.2.1 36 = .ok (.if_icmp .eq 28, 3) := by decide +kernel
theorem eX11_placesFrom_39 : decode MX11_placesFrom.2.1 39 = .ok (.iload_n 2, 1) := by decide +kernel
theorem eX11_placesFrom_40 : decode MX11_placesFrom.2.1 40 = .ok (.iconst 2, 1) := by decide +kernel
theorem eX11_placesFrom_41 : decode MX11_placesFrom.2.1 41 = .ok (.if_icmp .ne 11, 3) := by decide +kernel
theorem eX11_placesFrom_44 : decode MX11_placesFrom.2.1 44 = .ok (.iload 6, 2) := by decide +kernel
theorem eX11_placesFrom_46 : decode MX11_placesFrom.2.1 46 = .ok (.iconst 2, 1) := by decide +kernel
theorem eX11_placesFrom_47 : decode MX11_placesFrom.2.1 47 = .ok (.irem, 1) := by decide +kernel
theorem eX11_placesFrom_48 : decode MX11_placesFrom.2.1 48 = .ok (.iconst 1, 1) := by decide +kernel
theorem eX11_placesFrom_49 : decode MX11_placesFrom.2.1 49 = .ok (.if_icmp .eq 15, 3) := by decide +kernel
theorem eX11_placesFrom_52 : decode MX11_placesFrom.2.1 52 = .ok (.iload_n 2, 1) := by decide +kernel
theorem eX11_placesFrom_53 : decode MX11_placesFrom.2.1 53 = .ok (.iconst 3, 1) := by decide +kernel
theorem eX11_placesFrom_54 : decode MX11_placesFrom.2.1 54 = .ok (.if_icmp .ne 14, 3) := by decide +kernel
theorem eX11_placesFrom_57 : decode MX11_placesFrom.2.1 57 = .ok (.iload 6, 2) := by decide +kernel
theorem eX11_placesFrom_59 : decode MX11_placesFrom.2.1 59 = .ok (.iconst 2, 1) := by decide +kernel
theorem eX11_placesFrom_60 : decode MX11_placesFrom.2.1 60 = .ok (.irem, 1) := by decide +kernel
theorem eX11_placesFrom_61 : decode MX11_placesFrom.2.1 61 = .ok (.ifCond .ne 7, 3) := by decide +kernel
theorem eX11_placesFrom_64 : decode MX11_placesFrom.2.1 64 = .ok (.iconst 1, 1) := by decide +kernel
theorem eX11_placesFrom_65 : decode MX11_placesFrom.2.1 65 = .ok (.goto 4, 3) := by decide +kernel
theorem eX11_placesFrom_68 : decode MX11_placesFrom.2.1 68 = .ok (.iconst 0, 1) := by decide +kernel
theorem eX11_placesFrom_69 : decode MX11_placesFrom.2.1 69 = .ok (.istore 7, 2) := by decide +kernel
theorem eX11_placesFrom_71 : decode MX11_placesFrom.2.1 71 = .ok (.lload 4, 2) := by decide +kernel
theorem eX11_placesFrom_73 : decode MX11_placesFrom.2.1 73 = .ok (.iload 7, 2) := by decide +kernel
theorem eX11_placesFrom_75 : decode MX11_placesFrom.2.1 75 = .ok (.ifCond .eq 10, 3) := by decide +kernel
theorem eX11_placesFrom_78 : decode MX11_placesFrom.2.1 78 = .ok (.lconst 1, 1) := by decide +kernel
theorem eX11_placesFrom_79 : decode MX11_placesFrom.2.1 79 = .ok (.iload 6, 2) := by decide +kernel
theorem eX11_placesFrom_81 : decode MX11_placesFrom.2.1 81 = .ok (.lshl, 1) := by decide +kernel
theorem eX11_placesFrom_82 : decode MX11_placesFrom.2.1 82 = .ok (.goto 4, 3) := by decide +kernel
theorem eX11_placesFrom_85 : decode MX11_placesFrom.2.1 85 = .ok (.lconst 0, 1) := by decide +kernel
theorem eX11_placesFrom_86 : decode MX11_placesFrom.2.1 86 = .ok (.lor, 1) := by decide +kernel
theorem eX11_placesFrom_87 : decode MX11_placesFrom.2.1 87 = .ok (.lstore 4, 2) := by decide +kernel
theorem eX11_placesFrom_89 : decode MX11_placesFrom.2.1 89 = .ok (.iinc 6 1, 3) := by decide +kernel
theorem eX11_placesFrom_92 : decode MX11_placesFrom.2.1 92 = .ok (.goto (-86), 3) := by decide +kernel
theorem eX11_placesFrom_95 : decode MX11_placesFrom.2.1 95 = .ok (.lload 4, 2) := by decide +kernel
theorem eX11_placesFrom_97 : decode MX11_placesFrom.2.1 97 = .ok (.lreturn, 1) := by decide +kernel
theorem eX11_upAndDown_0 : decode MX11_upAndDown.2.1 0 = .ok (.iconst (-1), 1) := by decide +kernel
theorem eX11_upAndDown_1 : decode MX11_upAndDown.2.1 1 = .ok (.istore_n 2, 1) := by decide +kernel
theorem eX11_upAndDown_2 : decode MX11_upAndDown.2.1 2 = .ok (.iconst 0, 1) := by decide +kernel
theorem eX11_upAndDown_3 : decode MX11_upAndDown.2.1 3 = .ok (.istore_n 3, 1) := by decide +kernel
theorem eX11_upAndDown_4 : decode MX11_upAndDown.2.1 4 = .ok (.iconst 1, 1) := by decide +kernel
theorem eX11_upAndDown_5 : decode MX11_upAndDown.2.1 5 = .ok (.iload_n 3, 1) := by decide +kernel
theorem eX11_upAndDown_6 : decode MX11_upAndDown.2.1 6 = .ok (.iconst 1, 1) := by decide +kernel
theorem eX11_upAndDown_7 : decode MX11_upAndDown.2.1 7 = .ok (.iadd, 1) := by decide +kernel
theorem eX11_upAndDown_8 : decode MX11_upAndDown.2.1 8 = .ok (.ishl, 1) := by decide +kernel
theorem eX11_upAndDown_9 : decode MX11_upAndDown.2.1 9 = .ok (.iload_n 1, 1) := by decide +kernel
theorem eX11_upAndDown_10 : decode MX11_upAndDown.2.1 10 = .ok (.if_icmp .gt 61, 3) := by decide +kernel
theorem eX11_upAndDown_13 : decode MX11_upAndDown.2.1 13 = .ok (.lconst 0, 1) := by decide +kernel
theorem eX11_upAndDown_14 : decode MX11_upAndDown.2.1 14 = .ok (.lstore 4, 2) := by decide +kernel
theorem eX11_upAndDown_16 : decode MX11_upAndDown.2.1 16 = .ok (.iconst 0, 1) := by decide +kernel
theorem eX11_upAndDown_17 : decode MX11_upAndDown.2.1 17 = .ok (.istore 6, 2) := by decide +kernel
theorem eX11_upAndDown_19 : decode MX11_upAndDown.2.1 19 = .ok (.iload 6, 2) := by decide +kernel
theorem eX11_upAndDown_21 : decode MX11_upAndDown.2.1 21 = .ok (.iload_n 1, 1) := by decide +kernel
theorem eX11_upAndDown_22 : decode MX11_upAndDown.2.1 22 = .ok (.if_icmp .ge 35, 3) := by decide +kernel
theorem eX11_upAndDown_25 : decode MX11_upAndDown.2.1 25 = .ok (.lload 4, 2) := by decide +kernel
theorem eX11_upAndDown_27 : decode MX11_upAndDown.2.1 27 = .ok (.iload 6, 2) := by decide +kernel
theorem eX11_upAndDown_29 : decode MX11_upAndDown.2.1 29 = .ok (.iconst 1, 1) := by decide +kernel
theorem eX11_upAndDown_30 : decode MX11_upAndDown.2.1 30 = .ok (.iadd, 1) := by decide +kernel
theorem eX11_upAndDown_31 : decode MX11_upAndDown.2.1 31 = .ok (.iconst 1, 1) := by decide +kernel
theorem eX11_upAndDown_32 : decode MX11_upAndDown.2.1 32 = .ok (.iload_n 3, 1) := by decide +kernel
theorem eX11_upAndDown_33 : decode MX11_upAndDown.2.1 33 = .ok (.iconst 1, 1) := by decide +kernel
theorem eX11_upAndDown_34 : decode MX11_upAndDown.2.1 34 = .ok (.iadd, 1) := by decide +kernel
theorem eX11_upAndDown_35 : decode MX11_upAndDown.2.1 35 = .ok (.ishl, 1) := by decide +kernel
theorem eX11_upAndDown_36 : decode MX11_upAndDown.2.1 36 = .ok (.irem, 1) := by decide +kernel
theorem eX11_upAndDown_37 : decode MX11_upAndDown.2.1 37 = .ok (.ifCond .ne 10, 3) := by decide +kernel
theorem eX11_upAndDown_40 : decode MX11_upAndDown.2.1 40 = .ok (.lconst 1, 1) := by decide +kernel
theorem eX11_upAndDown_41 : decode MX11_upAndDown.2.1 41 = .ok (.iload 6, 2) := by decide +kernel
theorem eX11_upAndDown_43 : decode MX11_upAndDown.2.1 43 = .ok (.lshl, 1) := by decide +kernel
theorem eX11_upAndDown_44 : decode MX11_upAndDown.2.1 44 = .ok (.goto 4, 3) := by decide +kernel
theorem eX11_upAndDown_47 : decode MX11_upAndDown.2.1 47 = .ok (.lconst 0, 1) := by decide +kernel
theorem eX11_upAndDown_48 : decode MX11_upAndDown.2.1 48 = .ok (.lor, 1) := by decide +kernel
theorem eX11_upAndDown_49 : decode MX11_upAndDown.2.1 49 = .ok (.lstore 4, 2) := by decide +kernel
theorem eX11_upAndDown_51 : decode MX11_upAndDown.2.1 51 = .ok (.iinc 6 1, 3) := by decide +kernel
theorem eX11_upAndDown_54 : decode MX11_upAndDown.2.1 54 = .ok (.goto (-35), 3) := by decide +kernel
theorem eX11_upAndDown_57 : decode MX11_upAndDown.2.1 57 = .ok (.aload_n 0, 1) := by decide +kernel
theorem eX11_upAndDown_58 : decode MX11_upAndDown.2.1 58 = .ok (.lload 4, 2) := by decide +kernel
theorem eX11_upAndDown_60 : decode MX11_upAndDown.2.1 60 = .ok (.invokevirtual 162, 3) := by decide +kernel
theorem eX11_upAndDown_63 : decode MX11_upAndDown.2.1 63 = .ok (.iload_n 3, 1) := by decide +kernel
theorem eX11_upAndDown_64 : decode MX11_upAndDown.2.1 64 = .ok (.istore_n 2, 1) := by decide +kernel
theorem eX11_upAndDown_65 : decode MX11_upAndDown.2.1 65 = .ok (.iinc 3 1, 3) := by decide +kernel
theorem eX11_upAndDown_68 : decode MX11_upAndDown.2.1 68 = .ok (.goto (-64), 3) := by decide +kernel
theorem eX11_upAndDown_71 : decode MX11_upAndDown.2.1 71 = .ok (.iload_n 2, 1) := by decide +kernel
theorem eX11_upAndDown_72 : decode MX11_upAndDown.2.1 72 = .ok (.istore_n 3, 1) := by decide +kernel
theorem eX11_upAndDown_73 : decode MX11_upAndDown.2.1 73 = .ok (.iload_n 3, 1) := by decide +kernel
theorem eX11_upAndDown_74 : decode MX11_upAndDown.2.1 74 = .ok (.ifCond .lt 73, 3) := by decide +kernel
theorem eX11_upAndDown_77 : decode MX11_upAndDown.2.1 77 = .ok (.lconst 0, 1) := by decide +kernel
theorem eX11_upAndDown_78 : decode MX11_upAndDown.2.1 78 = .ok (.lstore 4, 2) := by decide +kernel
theorem eX11_upAndDown_80 : decode MX11_upAndDown.2.1 80 = .ok (.iconst 1, 1) := by decide +kernel
theorem eX11_upAndDown_81 : decode MX11_upAndDown.2.1 81 = .ok (.iload_n 3, 1) := by decide +kernel
theorem eX11_upAndDown_82 : decode MX11_upAndDown.2.1 82 = .ok (.iconst 1, 1) := by decide +kernel
theorem eX11_upAndDown_83 : decode MX11_upAndDown.2.1 83 = .ok (.iadd, 1) := by decide +kernel
theorem eX11_upAndDown_84 : decode MX11_upAndDown.2.1 84 = .ok (.ishl, 1) := by decide +kernel
theorem eX11_upAndDown_85 : decode MX11_upAndDown.2.1 85 = .ok (.istore 6, 2) := by decide +kernel
theorem eX11_upAndDown_87 : decode MX11_upAndDown.2.1 87 = .ok (.iload 6, 2) := by decide +kernel
theorem eX11_upAndDown_89 : decode MX11_upAndDown.2.1 89 = .ok (.iload_n 1, 1) := by decide +kernel
theorem eX11_upAndDown_90 : decode MX11_upAndDown.2.1 90 = .ok (.if_icmp .ge 45, 3) := by decide +kernel
theorem eX11_upAndDown_93 : decode MX11_upAndDown.2.1 93 = .ok (.lload 4, 2) := by decide +kernel
theorem eX11_upAndDown_95 : decode MX11_upAndDown.2.1 95 = .ok (.iload 6, 2) := by decide +kernel
theorem eX11_upAndDown_97 : decode MX11_upAndDown.2.1 97 = .ok (.iconst 1, 1) := by decide +kernel
theorem eX11_upAndDown_98 : decode MX11_upAndDown.2.1 98 = .ok (.iadd, 1) := by decide +kernel
theorem eX11_upAndDown_99 : decode MX11_upAndDown.2.1 99 = .ok (.iconst 1, 1) := by decide +kernel
theorem eX11_upAndDown_100 : decode MX11_upAndDown.2.1 100 = .ok (.iload_n 3, 1) := by decide +kernel
theorem eX11_upAndDown_101 : decode MX11_upAndDown.2.1 101 = .ok (.ishl, 1) := by decide +kernel
theorem eX11_upAndDown_102 : decode MX11_upAndDown.2.1 102 = .ok (.irem, 1) := by decide +kernel
theorem eX11_upAndDown_103 : decode MX11_upAndDown.2.1 103 = .ok (.ifCond .ne 22, 3) := by decide +kernel
theorem eX11_upAndDown_106 : decode MX11_upAndDown.2.1 106 = .ok (.iload 6, 2) := by decide +kernel
theorem eX11_upAndDown_108 : decode MX11_upAndDown.2.1 108 = .ok (.iconst 1, 1) := by decide +kernel
theorem eX11_upAndDown_109 : decode MX11_upAndDown.2.1 109 = .ok (.iadd, 1) := by decide +kernel
theorem eX11_upAndDown_110 : decode MX11_upAndDown.2.1 110 = .ok (.iload_n 3, 1) := by decide +kernel
theorem eX11_upAndDown_111 : decode MX11_upAndDown.2.1 111 = .ok (.ishr, 1) := by decide +kernel
theorem eX11_upAndDown_112 : decode MX11_upAndDown.2.1 112 = .ok (.iconst 2, 1) := by decide +kernel
theorem eX11_upAndDown_113 : decode MX11_upAndDown.2.1 113 = .ok (.irem, 1) := by decide +kernel
theorem eX11_upAndDown_114 : decode MX11_upAndDown.2.1 114 = .ok (.iconst 1, 1) := by decide +kernel
theorem eX11_upAndDown_115 : decode MX11_upAndDown.2.1 115 = .ok (.if_icmp .ne 10, 3) := by decide +kernel
theorem eX11_upAndDown_118 : decode MX11_upAndDown.2.1 118 = .ok (.lconst 1, 1) := by decide +kernel
theorem eX11_upAndDown_119 : decode MX11_upAndDown.2.1 119 = .ok (.iload 6, 2) := by decide +kernel
theorem eX11_upAndDown_121 : decode MX11_upAndDown.2.1 121 = .ok (.lshl, 1) := by decide +kernel
theorem eX11_upAndDown_122 : decode MX11_upAndDown.2.1 122 = .ok (.goto 4, 3) := by decide +kernel
theorem eX11_upAndDown_125 : decode MX11_upAndDown.2.1 125 = .ok (.lconst 0, 1) := by decide +kernel
theorem eX11_upAndDown_126 : decode MX11_upAndDown.2.1 126 = .ok (.lor, 1) := by decide +kernel
theorem eX11_upAndDown_127 : decode MX11_upAndDown.2.1 127 = .ok (.lstore 4, 2) := by decide +kernel
theorem eX11_upAndDown_129 : decode MX11_upAndDown.2.1 129 = .ok (.iinc 6 1, 3) := by decide +kernel
theorem eX11_upAndDown_132 : decode MX11_upAndDown.2.1 132 = .ok (.goto (-45), 3) := by decide +kernel
theorem eX11_upAndDown_135 : decode MX11_upAndDown.2.1 135 = .ok (.aload_n 0, 1) := by decide +kernel
theorem eX11_upAndDown_136 : decode MX11_upAndDown.2.1 136 = .ok (.lload 4, 2) := by decide +kernel
theorem eX11_upAndDown_138 : decode MX11_upAndDown.2.1 138 = .ok (.invokevirtual 162, 3) := by decide +kernel
theorem eX11_upAndDown_141 : decode MX11_upAndDown.2.1 141 = .ok (.iinc 3 (-1), 3) := by decide +kernel
theorem eX11_upAndDown_144 : decode MX11_upAndDown.2.1 144 = .ok (.goto (-71), 3) := by decide +kernel
theorem eX11_upAndDown_147 : decode MX11_upAndDown.2.1 147 = .ok (.return_, 1) := by decide +kernel
theorem eX11_net_0 : decode MX11_net.2.1 0 = .ok (.iload_n 1, 1) := by decide +kernel
theorem eX11_net_1 : decode MX11_net.2.1 1 = .ok (.i2l, 1) := by decide +kernel
theorem eX11_net_2 : decode MX11_net.2.1 2 = .ok (.ldc2_w 155, 3) := by decide +kernel
theorem eX11_net_5 : decode MX11_net.2.1 5 = .ok (.ldc2_w 157, 3) := by decide +kernel
theorem eX11_net_8 : decode MX11_net.2.1 8 = .ok (.invokestatic 109, 3) := by decide +kernel
theorem eX11_net_11 : decode MX11_net.2.1 11 = .ok (.ifCond .eq 15, 3) := by decide +kernel
theorem eX11_net_14 : decode MX11_net.2.1 14 = .ok (.iload_n 2, 1) := by decide +kernel
theorem eX11_net_15 : decode MX11_net.2.1 15 = .ok (.i2l, 1) := by decide +kernel
theorem eX11_net_16 : decode MX11_net.2.1 16 = .ok (.lconst 0, 1) := by decide +kernel
theorem eX11_net_17 : decode MX11_net.2.1 17 = .ok (.ldc2_w 165, 3) := by decide +kernel
theorem eX11_net_20 : decode MX11_net.2.1 20 = .ok (.invokestatic 109, 3) := by decide +kernel
theorem eX11_net_23 : decode MX11_net.2.1 23 = .ok (.ifCond .ne 5, 3) := by decide +kernel
theorem eX11_net_26 : decode MX11_net.2.1 26 = .ok (.iconst (-1), 1) := by decide +kernel
theorem eX11_net_27 : decode MX11_net.2.1 27 = .ok (.ireturn, 1) := by decide +kernel
theorem eX11_net_28 : decode MX11_net.2.1 28 = .ok (.aload_n 0, 1) := by decide +kernel
theorem eX11_net_29 : decode MX11_net.2.1 29 = .ok (.getfield 106, 3) := by decide +kernel
theorem eX11_net_32 : decode MX11_net.2.1 32 = .ok (.bipush 8, 2) := by decide +kernel
theorem eX11_net_34 : decode MX11_net.2.1 34 = .ok (.if_icmp .ne 6, 3) := by decide +kernel
theorem eX11_net_37 : decode MX11_net.2.1 37 = .ok (.bipush (-3), 2) := by decide +kernel
theorem eX11_net_39 : decode MX11_net.2.1 39 = .ok (.ireturn, 1) := by decide +kernel
theorem eX11_net_40 : decode MX11_net.2.1 40 = .ok (.aload_n 0, 1) := by decide +kernel
theorem eX11_net_41 : decode MX11_net.2.1 41 = .ok (.getfield 7, 3) := by decide +kernel
theorem eX11_net_44 : decode MX11_net.2.1 44 = .ok (.aload_n 0, 1) := by decide +kernel
theorem eX11_net_45 : decode MX11_net.2.1 45 = .ok (.getfield 106, 3) := by decide +kernel
theorem eX11_net_48 : decode MX11_net.2.1 48 = .ok (.iload_n 1, 1) := by decide +kernel
theorem eX11_net_49 : decode MX11_net.2.1 49 = .ok (.iastore, 1) := by decide +kernel
theorem eX11_net_50 : decode MX11_net.2.1 50 = .ok (.aload_n 0, 1) := by decide +kernel
theorem eX11_net_51 : decode MX11_net.2.1 51 = .ok (.getfield 13, 3) := by decide +kernel
theorem eX11_net_54 : decode MX11_net.2.1 54 = .ok (.aload_n 0, 1) := by decide +kernel
theorem eX11_net_55 : decode MX11_net.2.1 55 = .ok (.getfield 106, 3) := by decide +kernel
theorem eX11_net_58 : decode MX11_net.2.1 58 = .ok (.iconst 0, 1) := by decide +kernel
theorem eX11_net_59 : decode MX11_net.2.1 59 = .ok (.iastore, 1) := by decide +kernel
theorem eX11_net_60 : decode MX11_net.2.1 60 = .ok (.aload_n 0, 1) := by decide +kernel
theorem eX11_net_61 : decode MX11_net.2.1 61 = .ok (.invokevirtual 91, 3) := by decide +kernel
theorem eX11_net_64 : decode MX11_net.2.1 64 = .ok (.iload_n 2, 1) := by decide +kernel
theorem eX11_net_65 : decode MX11_net.2.1 65 = .ok (.ifCond .ne 30, 3) := by decide +kernel
theorem eX11_net_68 : decode MX11_net.2.1 68 = .ok (.iconst 0, 1) := by decide +kernel
theorem eX11_net_69 : decode MX11_net.2.1 69 = .ok (.istore_n 3, 1) := by decide +kernel
theorem eX11_net_70 : decode MX11_net.2.1 70 = .ok (.iload_n 3, 1) := by decide +kernel
theorem eX11_net_71 : decode MX11_net.2.1 71 = .ok (.iconst 1, 1) := by decide +kernel
theorem eX11_net_72 : decode MX11_net.2.1 72 = .ok (.iadd, 1) := by decide +kernel
theorem eX11_net_73 : decode MX11_net.2.1 73 = .ok (.iload_n 1, 1) := by decide +kernel
theorem eX11_net_74 : decode MX11_net.2.1 74 = .ok (.if_icmp .ge 18, 3) := by decide +kernel
theorem eX11_net_77 : decode MX11_net.2.1 77 = .ok (.aload_n 0, 1) := by decide +kernel
theorem eX11_net_78 : decode MX11_net.2.1 78 = .ok (.lconst 1, 1) := by decide +kernel
theorem eX11_net_79 : decode MX11_net.2.1 79 = .ok (.iload_n 3, 1) := by decide +kernel
theorem eX11_net_80 : decode MX11_net.2.1 80 = .ok (.iconst 1, 1) := by decide +kernel
theorem eX11_net_81 : decode MX11_net.2.1 81 = .ok (.iadd, 1) := by decide +kernel
theorem eX11_net_82 : decode MX11_net.2.1 82 = .ok (.lshl, 1) := by decide +kernel
theorem eX11_net_83 : decode MX11_net.2.1 83 = .ok (.invokevirtual 162, 3) := by decide +kernel
theorem eX11_net_86 : decode MX11_net.2.1 86 = .ok (.iinc 3 1, 3) := by decide +kernel
theorem eX11_net_89 : decode MX11_net.2.1 89 = .ok (.goto (-19), 3) := by decide +kernel
theorem eX11_net_92 : decode MX11_net.2.1 92 = .ok (.goto 109, 3) := by decide +kernel
theorem eX11_net_95 : decode MX11_net.2.1 95 = .ok (.iload_n 2, 1) := by decide +kernel
theorem eX11_net_96 : decode MX11_net.2.1 96 = .ok (.iconst 3, 1) := by decide +kernel
theorem eX11_net_97 : decode MX11_net.2.1 97 = .ok (.if_icmp .ne 11, 3) := by decide +kernel
theorem eX11_net_100 : decode MX11_net.2.1 100 = .ok (.aload_n 0, 1) := by decide +kernel
theorem eX11_net_101 : decode MX11_net.2.1 101 = .ok (.iload_n 1, 1) := by decide +kernel
theorem eX11_net_102 : decode MX11_net.2.1 102 = .ok (.invokevirtual 167, 3) := by decide +kernel
theorem eX11_net_105 : decode MX11_net.2.1 105 = .ok (.goto 96, 3) := by decide +kernel
theorem eX11_net_108 : decode MX11_net.2.1 108 = .ok (.iload_n 2, 1) := by decide +kernel
theorem eX11_net_109 : decode MX11_net.2.1 109 = .ok (.iconst 4, 1) := by decide +kernel
theorem eX11_net_110 : decode MX11_net.2.1 110 = .ok (.if_icmp .ne 14, 3) := by decide +kernel
theorem eX11_net_113 : decode MX11_net.2.1 113 = .ok (.aload_n 0, 1) := by decide +kernel
theorem eX11_net_114 : decode MX11_net.2.1 114 = .ok (.aload_n 0, 1) := by decide +kernel
theorem eX11_net_115 : decode MX11_net.2.1 115 = .ok (.iconst 0, 1) := by decide +kernel
theorem eX11_net_116 : decode MX11_net.2.1 116 = .ok (.iconst 2, 1) := by decide +kernel
theorem eX11_net_117 : decode MX11_net.2.1 117 = .ok (.iconst 0, 1) := by decide +kernel
theorem eX11_net_118 : decode MX11_net.2.1 118 = .ok (.invokevirtual 171, 3) := by decide +kernel
theorem eX11_net_121 : decode MX11_net.2.1 121 = .ok (.invokevirtual 162, 3) := by decide +kernel
theorem eX11_net_124 : decode MX11_net.2.1 124 = .ok (.iload_n 2, 1) := by decide +kernel
theorem eX11_net_125 : decode MX11_net.2.1 125 = .ok (.iconst 4, 1) := by decide +kernel
theorem eX11_net_126 : decode MX11_net.2.1 126 = .ok (.if_icmp .ne 7, 3) := by decide +kernel
theorem eX11_net_129 : decode MX11_net.2.1 129 = .ok (.iconst 1, 1) := by decide +kernel
theorem eX11_net_130 : decode MX11_net.2.1 130 = .ok (.goto 4, 3) := by decide +kernel
theorem eX11_net_133 : decode MX11_net.2.1 133 = .ok (.iconst 0, 1) := by decide +kernel
theorem eX11_net_134 : decode MX11_net.2.1 134 = .ok (.istore_n 3, 1) := by decide +kernel
theorem eX11_net_135 : decode MX11_net.2.1 135 = .ok (.iconst 1, 1) := by decide +kernel
theorem eX11_net_136 : decode MX11_net.2.1 136 = .ok (.iload_n 3, 1) := by decide +kernel
theorem eX11_net_137 : decode MX11_net.2.1 137 = .ok (.ishl, 1) := by decide +kernel
theorem eX11_net_138 : decode MX11_net.2.1 138 = .ok (.iload_n 1, 1) := by decide +kernel
theorem eX11_net_139 : decode MX11_net.2.1 139 = .ok (.if_icmp .ge 46, 3) := by decide +kernel
theorem eX11_net_142 : decode MX11_net.2.1 142 = .ok (.aload_n 0, 1) := by decide +kernel
theorem eX11_net_143 : decode MX11_net.2.1 143 = .ok (.iload_n 2, 1) := by decide +kernel
theorem eX11_net_144 : decode MX11_net.2.1 144 = .ok (.iconst 1, 1) := by decide +kernel
theorem eX11_net_145 : decode MX11_net.2.1 145 = .ok (.if_icmp .ne 13, 3) := by decide +kernel
theorem eX11_net_148 : decode MX11_net.2.1 148 = .ok (.aload_n 0, 1) := by decide +kernel
theorem eX11_net_149 : decode MX11_net.2.1 149 = .ok (.iconst 0, 1) := by decide +kernel
theorem eX11_net_150 : decode MX11_net.2.1 150 = .ok (.iconst 1, 1) := by decide +kernel
theorem eX11_net_151 : decode MX11_net.2.1 151 = .ok (.iload_n 3, 1) := by decide +kernel
theorem eX11_net_152 : decode MX11_net.2.1 152 = .ok (.invokevirtual 171, 3) := by decide +kernel
theorem eX11_net_155 : decode MX11_net.2.1 155 = .ok (.goto 21, 3) := by decide +kernel
theorem eX11_net_158 : decode MX11_net.2.1 158 = .ok (.aload_n 0, 1) := by decide +kernel
theorem eX11_net_159 : decode MX11_net.2.1 159 = .ok (.iconst 1, 1) := by decide +kernel
theorem eX11_net_160 : decode MX11_net.2.1 160 = .ok (.iload_n 3, 1) := by decide +kernel
theorem eX11_net_161 : decode MX11_net.2.1 161 = .ok (.ishl, 1) := by decide +kernel
theorem eX11_net_162 : decode MX11_net.2.1 162 = .ok (.iload_n 2, 1) := by decide +kernel
theorem eX11_net_163 : decode MX11_net.2.1 163 = .ok (.iconst 2, 1) := by decide +kernel
theorem eX11_net_164 : decode MX11_net.2.1 164 = .ok (.if_icmp .ne 7, 3) := by decide +kernel
theorem eX11_net_167 : decode MX11_net.2.1 167 = .ok (.iconst 0, 1) := by decide +kernel
theorem eX11_net_168 : decode MX11_net.2.1 168 = .ok (.goto 4, 3) := by decide +kernel
theorem eX11_net_171 : decode MX11_net.2.1 171 = .ok (.iconst 2, 1) := by decide +kernel
theorem eX11_net_172 : decode MX11_net.2.1 172 = .ok (.iload_n 3, 1) := by decide +kernel
theorem eX11_net_173 : decode MX11_net.2.1 173 = .ok (.invokevirtual 171, 3) := by decide +kernel
theorem eX11_net_176 : decode MX11_net.2.1 176 = .ok (.invokevirtual 162, 3) := by decide +kernel
theorem eX11_net_179 : decode MX11_net.2.1 179 = .ok (.iinc 3 1, 3) := by decide +kernel
theorem eX11_net_182 : decode MX11_net.2.1 182 = .ok (.goto (-47), 3) := by decide +kernel
theorem eX11_net_185 : decode MX11_net.2.1 185 = .ok (.iload_n 2, 1) := by decide +kernel
theorem eX11_net_186 : decode MX11_net.2.1 186 = .ok (.iconst 4, 1) := by decide +kernel
theorem eX11_net_187 : decode MX11_net.2.1 187 = .ok (.if_icmp .ne 14, 3) := by decide +kernel
theorem eX11_net_190 : decode MX11_net.2.1 190 = .ok (.aload_n 0, 1) := by decide +kernel
theorem eX11_net_191 : decode MX11_net.2.1 191 = .ok (.aload_n 0, 1) := by decide +kernel
theorem eX11_net_192 : decode MX11_net.2.1 192 = .ok (.iconst 2, 1) := by decide +kernel
theorem eX11_net_193 : decode MX11_net.2.1 193 = .ok (.iconst 3, 1) := by decide +kernel
theorem eX11_net_194 : decode MX11_net.2.1 194 = .ok (.iconst 0, 1) := by decide +kernel
theorem eX11_net_195 : decode MX11_net.2.1 195 = .ok (.invokevirtual 171, 3) := by decide +kernel
theorem eX11_net_198 : decode MX11_net.2.1 198 = .ok (.invokevirtual 162, 3) := by decide +kernel
theorem eX11_net_201 : decode MX11_net.2.1 201 = .ok (.aload_n 0, 1) := by decide +kernel
theorem eX11_net_202 : decode MX11_net.2.1 202 = .ok (.dup, 1) := by decide +kernel
theorem eX11_net_203 : decode MX11_net.2.1 203 = .ok (.getfield 106, 3) := by decide +kernel
theorem eX11_net_206 : decode MX11_net.2.1 206 = .ok (.iconst 1, 1) := by decide +kernel
theorem eX11_net_207 : decode MX11_net.2.1 207 = .ok (.iadd, 1) := by decide +kernel
theorem eX11_net_208 : decode MX11_net.2.1 208 = .ok (.putfield 106, 3) := by decide +kernel
theorem eX11_net_211 : decode MX11_net.2.1 211 = .ok (.aload_n 0, 1) := by decide +kernel
theorem eX11_net_212 : decode MX11_net.2.1 212 = .ok (.getfield 106, 3) := by decide +kernel
theorem eX11_net_215 : decode MX11_net.2.1 215 = .ok (.iconst 1, 1) := by decide +kernel
theorem eX11_net_216 : decode MX11_net.2.1 216 = .ok (.isub, 1) := by decide +kernel
theorem eX11_net_217 : decode MX11_net.2.1 217 = .ok (.ireturn, 1) := by decide +kernel
theorem eX11_drop_0 : decode MX11_drop.2.1 0 = .ok (.aload_n 0, 1) := by decide +kernel
theorem eX11_drop_1 : decode MX11_drop.2.1 1 = .ok (.getfield 106, 3) := by decide +kernel
theorem eX11_drop_4 : decode MX11_drop.2.1 4 = .ok (.ifCond .ne 6, 3) := by decide +kernel
theorem eX11_drop_7 : decode MX11_drop.2.1 7 = .ok (.bipush (-4), 2) := by decide +kernel
theorem eX11_drop_9 : decode MX11_drop.2.1 9 = .ok (.ireturn, 1) := by decide +kernel
theorem eX11_drop_10 : decode MX11_drop.2.1 10 = .ok (.aload_n 0, 1) := by decide +kernel
theorem eX11_drop_11 : decode MX11_drop.2.1 11 = .ok (.dup, 1) := by decide +kernel
theorem eX11_drop_12 : decode MX11_drop.2.1 12 = .ok (.getfield 106, 3) := by decide +kernel
theorem eX11_drop_15 : decode MX11_drop.2.1 15 = .ok (.iconst 1, 1) := by decide +kernel
theorem eX11_drop_16 : decode MX11_drop.2.1 16 = .ok (.isub, 1) := by decide +kernel
theorem eX11_drop_17 : decode MX11_drop.2.1 17 = .ok (.putfield 106, 3) := by decide +kernel
theorem eX11_drop_20 : decode MX11_drop.2.1 20 = .ok (.aload_n 0, 1) := by decide +kernel
theorem eX11_drop_21 : decode MX11_drop.2.1 21 = .ok (.getfield 106, 3) := by decide +kernel
theorem eX11_drop_24 : decode MX11_drop.2.1 24 = .ok (.ireturn, 1) := by decide +kernel
theorem eX11_findTakes_0 : decode MX11_findTakes.2.1 0 = .ok (.aload_n 0, 1) := by decide +kernel
theorem eX11_findTakes_1 : decode MX11_findTakes.2.1 1 = .ok (.iload_n 1, 1) := by decide +kernel
theorem eX11_findTakes_2 : decode MX11_findTakes.2.1 2 = .ok (.iload_n 2, 1) := by decide +kernel
theorem eX11_findTakes_3 : decode MX11_findTakes.2.1 3 = .ok (.invokevirtual 102, 3) := by decide +kernel
theorem eX11_findTakes_6 : decode MX11_findTakes.2.1 6 = .ok (.iconst 0, 1) := by decide +kernel
theorem eX11_findTakes_7 : decode MX11_findTakes.2.1 7 = .ok (.istore_n 3, 1) := by decide +kernel
theorem eX11_findTakes_8 : decode MX11_findTakes.2.1 8 = .ok (.iload_n 3, 1) := by decide +kernel
theorem eX11_findTakes_9 : decode MX11_findTakes.2.1 9 = .ok (.bipush 32, 2) := by decide +kernel
theorem eX11_findTakes_11 : decode MX11_findTakes.2.1 11 = .ok (.if_icmp .ge 43, 3) := by decide +kernel
theorem eX11_findTakes_14 : decode MX11_findTakes.2.1 14 = .ok (.aload_n 0, 1) := by decide +kernel
theorem eX11_findTakes_15 : decode MX11_findTakes.2.1 15 = .ok (.getfield 39, 3) := by decide +kernel
theorem eX11_findTakes_18 : decode MX11_findTakes.2.1 18 = .ok (.iload_n 3, 1) := by decide +kernel
theorem eX11_findTakes_19 : decode MX11_findTakes.2.1 19 = .ok (.aload_n 0, 1) := by decide +kernel
theorem eX11_findTakes_20 : decode MX11_findTakes.2.1 20 = .ok (.iload_n 1, 1) := by decide +kernel
theorem eX11_findTakes_21 : decode MX11_findTakes.2.1 21 = .ok (.iload_n 2, 1) := by decide +kernel
theorem eX11_findTakes_22 : decode MX11_findTakes.2.1 22 = .ok (.invokevirtual 94, 3) := by decide +kernel
theorem eX11_findTakes_25 : decode MX11_findTakes.2.1 25 = .ok (.iload_n 3, 1) := by decide +kernel
theorem eX11_findTakes_26 : decode MX11_findTakes.2.1 26 = .ok (.lshr, 1) := by decide +kernel
theorem eX11_findTakes_27 : decode MX11_findTakes.2.1 27 = .ok (.lconst 1, 1) := by decide +kernel
theorem eX11_findTakes_28 : decode MX11_findTakes.2.1 28 = .ok (.land, 1) := by decide +kernel
theorem eX11_findTakes_29 : decode MX11_findTakes.2.1 29 = .ok (.lconst 1, 1) := by decide +kernel
theorem eX11_findTakes_30 : decode MX11_findTakes.2.1 30 = .ok (.lcmp, 1) := by decide +kernel
theorem eX11_findTakes_31 : decode MX11_findTakes.2.1 31 = .ok (.ifCond .ne 14, 3) := by decide +kernel
theorem eX11_findTakes_34 : decode MX11_findTakes.2.1 34 = .ok (.aload_n 0, 1) := by decide +kernel
theorem eX11_findTakes_35 : decode MX11_findTakes.2.1 35 = .ok (.getfield 30, 3) := by decide +kernel
theorem eX11_findTakes_38 : decode MX11_findTakes.2.1 38 = .ok (.iload_n 3, 1) := by decide +kernel
theorem eX11_findTakes_39 : decode MX11_findTakes.2.1 39 = .ok (.iaload, 1) := by decide +kernel
theorem eX11_findTakes_40 : decode MX11_findTakes.2.1 40 = .ok (.iconst 1, 1) := by decide +kernel
theorem eX11_findTakes_41 : decode MX11_findTakes.2.1 41 = .ok (.isub, 1) := by decide +kernel
theorem eX11_findTakes_42 : decode MX11_findTakes.2.1 42 = .ok (.goto 5, 3) := by decide +kernel
theorem eX11_findTakes_45 : decode MX11_findTakes.2.1 45 = .ok (.bipush (-4), 2) := by decide +kernel
theorem eX11_findTakes_47 : decode MX11_findTakes.2.1 47 = .ok (.iastore, 1) := by decide +kernel
theorem eX11_findTakes_48 : decode MX11_findTakes.2.1 48 = .ok (.iinc 3 1, 3) := by decide +kernel
theorem eX11_findTakes_51 : decode MX11_findTakes.2.1 51 = .ok (.goto (-43), 3) := by decide +kernel
theorem eX11_findTakes_54 : decode MX11_findTakes.2.1 54 = .ok (.return_, 1) := by decide +kernel
theorem eX11_loadOf_0 : decode MX11_loadOf.2.1 0 = .ok (.iconst 0, 1) := by decide +kernel
theorem eX11_loadOf_1 : decode MX11_loadOf.2.1 1 = .ok (.istore_n 2, 1) := by decide +kernel
