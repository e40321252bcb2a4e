theorem dX6_in_0 : decode cX6_in 0 = .ok (.iload_n 0, 1) := by decide +kernel
theorem dX6_in_1 : decode cX6_in 1 = .ok (.iload_n 1, 1) := by decide +kernel
theorem dX6_in_2 : decode cX6_in 2 = .ok (.if_icmp .lt 12, 3) := by decide +kernel
theorem dX6_in_5 : decode cX6_in 5 = .ok (.iload_n 0, 1) := by decide +kernel
theorem dX6_in_6 : decode cX6_in 6 = .ok (.iload_n 2, 1) := by decide +kernel
theorem dX6_in_7 : decode cX6_in 7 = .ok (.if_icmp .gt 7, 3) := by decide +kernel
theorem dX6_in_10 : decode cX6_in 10 = .ok (.iconst 1, 1) := by decide +kernel
theorem dX6_in_11 : decode cX6_in 11 = .ok (.goto 4, 3) := by decide +kernel
theorem dX6_in_14 : decode cX6_in 14 = .ok (.iconst 0, 1) := by decide +kernel
theorem dX6_in_15 : decode cX6_in 15 = .ok (.ireturn, 1) := by decide +kernel
theorem dX6_held_0 : decode cX6_held 0 = .ok (.iload_n 0, 1) := by decide +kernel
theorem dX6_held_1 : decode cX6_held 1 = .ok (.iload_n 1, 1) := by decide +kernel
theorem dX6_held_2 : decode cX6_held 2 = .ok (.if_icmp .ge 7, 3) := by decide +kernel
theorem dX6_held_5 : decode cX6_held 5 = .ok (.iload_n 1, 1) := by decide +kernel
theorem dX6_held_6 : decode cX6_held 6 = .ok (.goto 13, 3) := by decide +kernel
theorem dX6_held_9 : decode cX6_held 9 = .ok (.iload_n 0, 1) := by decide +kernel
theorem dX6_held_10 : decode cX6_held 10 = .ok (.iload_n 2, 1) := by decide +kernel
theorem dX6_held_11 : decode cX6_held 11 = .ok (.if_icmp .le 7, 3) := by decide +kernel
theorem dX6_held_14 : decode cX6_held 14 = .ok (.iload_n 2, 1) := by decide +kernel
theorem dX6_held_15 : decode cX6_held 15 = .ok (.goto 4, 3) := by decide +kernel
theorem dX6_held_18 : decode cX6_held 18 = .ok (.iload_n 0, 1) := by decide +kernel
theorem dX6_held_19 : decode cX6_held 19 = .ok (.ireturn, 1) := by decide +kernel
theorem dX6_moveAll_0 : decode cX6_moveAll 0 = .ok (.iconst 0, 1) := by decide +kernel
theorem dX6_moveAll_1 : decode cX6_moveAll 1 = .ok (.istore_n 2, 1) := by decide +kernel
theorem dX6_moveAll_2 : decode cX6_moveAll 2 = .ok (.iload_n 2, 1) := by decide +kernel
theorem dX6_moveAll_3 : decode cX6_moveAll 3 = .ok (.bipush 76, 2) := by decide +kernel
theorem dX6_moveAll_5 : decode cX6_moveAll 5 = .ok (.if_icmp .ge 15, 3) := by decide +kernel
theorem dX6_moveAll_8 : decode cX6_moveAll 8 = .ok (.aload_n 1, 1) := by decide +kernel
theorem dX6_moveAll_9 : decode cX6_moveAll 9 = .ok (.iload_n 2, 1) := by decide +kernel
theorem dX6_moveAll_10 : decode cX6_moveAll 10 = .ok (.aload_n 0, 1) := by decide +kernel
theorem dX6_moveAll_11 : decode cX6_moveAll 11 = .ok (.iload_n 2, 1) := by decide +kernel
theorem dX6_moveAll_12 : decode cX6_moveAll 12 = .ok (.iaload, 1) := by decide +kernel
theorem dX6_moveAll_13 : decode cX6_moveAll 13 = .ok (.iastore, 1) := by decide +kernel
theorem dX6_moveAll_14 : decode cX6_moveAll 14 = .ok (.iinc 2 1, 3) := by decide +kernel
theorem dX6_moveAll_17 : decode cX6_moveAll 17 = .ok (.goto (-15), 3) := by decide +kernel
theorem dX6_moveAll_20 : decode cX6_moveAll 20 = .ok (.return_, 1) := by decide +kernel
theorem dX6_isOne_0 : decode cX6_isOne 0 = .ok (.iload_n 1, 1) := by decide +kernel
theorem dX6_isOne_1 : decode cX6_isOne 1 = .ok (.iconst 0, 1) := by decide +kernel
theorem dX6_isOne_2 : decode cX6_isOne 2 = .ok (.aload_n 0, 1) := by decide +kernel
theorem dX6_isOne_3 : decode cX6_isOne 3 = .ok (.getfield 7, 3) := by decide +kernel
theorem dX6_isOne_6 : decode cX6_isOne 6 = .ok (.bipush 6, 2) := by decide +kernel
theorem dX6_isOne_8 : decode cX6_isOne 8 = .ok (.iaload, 1) := by decide +kernel
theorem dX6_isOne_9 : decode cX6_isOne 9 = .ok (.iconst 1, 1) := by decide +kernel
theorem dX6_isOne_10 : decode cX6_isOne 10 = .ok (.isub, 1) := by decide +kernel
theorem dX6_isOne_11 : decode cX6_isOne 11 = .ok (.invokestatic 57, 3) := by decide +kernel
theorem dX6_isOne_14 : decode cX6_isOne 14 = .ok (.ireturn, 1) := by decide +kernel
theorem dX6_its_0 : decode cX6_its 0 = .ok (.aload_n 0, 1) := by decide +kernel
theorem dX6_its_1 : decode cX6_its 1 = .ok (.getfield 7, 3) := by decide +kernel
theorem dX6_its_4 : decode cX6_its 4 = .ok (.bipush 44, 2) := by decide +kernel
theorem dX6_its_6 : decode cX6_its 6 = .ok (.iconst 4, 1) := by decide +kernel
theorem dX6_its_7 : decode cX6_its 7 = .ok (.iload_n 1, 1) := by decide +kernel
theorem dX6_its_8 : decode cX6_its 8 = .ok (.imul, 1) := by decide +kernel
theorem dX6_its_9 : decode cX6_its 9 = .ok (.iadd, 1) := by decide +kernel
theorem dX6_its_10 : decode cX6_its 10 = .ok (.iload_n 2, 1) := by decide +kernel
theorem dX6_its_11 : decode cX6_its 11 = .ok (.iadd, 1) := by decide +kernel
theorem dX6_its_12 : decode cX6_its 12 = .ok (.iaload, 1) := by decide +kernel
theorem dX6_its_13 : decode cX6_its 13 = .ok (.ireturn, 1) := by decide +kernel
theorem dX6_sets_0 : decode cX6_sets 0 = .ok (.aload_n 0, 1) := by decide +kernel
theorem dX6_sets_1 : decode cX6_sets 1 = .ok (.getfield 7, 3) := by decide +kernel
theorem dX6_sets_4 : decode cX6_sets 4 = .ok (.bipush 44, 2) := by decide +kernel
theorem dX6_sets_6 : decode cX6_sets 6 = .ok (.iconst 4, 1) := by decide +kernel
theorem dX6_sets_7 : decode cX6_sets 7 = .ok (.iload_n 1, 1) := by decide +kernel
theorem dX6_sets_8 : decode cX6_sets 8 = .ok (.imul, 1) := by decide +kernel
theorem dX6_sets_9 : decode cX6_sets 9 = .ok (.iadd, 1) := by decide +kernel
theorem dX6_sets_10 : decode cX6_sets 10 = .ok (.iload_n 2, 1) := by decide +kernel
theorem dX6_sets_11 : decode cX6_sets 11 = .ok (.iadd, 1) := by decide +kernel
theorem dX6_sets_12 : decode cX6_sets 12 = .ok (.iload_n 3, 1) := by decide +kernel
theorem dX6_sets_13 : decode cX6_sets 13 = .ok (.iastore, 1) := by decide +kernel
theorem dX6_sets_14 : decode cX6_sets 14 = .ok (.return_, 1) := by decide +kernel
theorem dX6_isSaying_0 : decode cX6_isSaying 0 = .ok (.iload_n 1, 1) := by decide +kernel
theorem dX6_isSaying_1 : decode cX6_isSaying 1 = .ok (.iconst 0, 1) := by decide +kernel
theorem dX6_isSaying_2 : decode cX6_isSaying 2 = .ok (.aload_n 0, 1) := by decide +kernel
theorem dX6_isSaying_3 : decode cX6_isSaying 3 = .ok (.getfield 7, 3) := by decide +kernel
theorem dX6_isSaying_6 : decode cX6_isSaying 6 = .ok (.iconst 5, 1) := by decide +kernel
theorem dX6_isSaying_7 : decode cX6_isSaying 7 = .ok (.iaload, 1) := by decide +kernel
theorem dX6_isSaying_8 : decode cX6_isSaying 8 = .ok (.iconst 1, 1) := by decide +kernel
theorem dX6_isSaying_9 : decode cX6_isSaying 9 = .ok (.isub, 1) := by decide +kernel
theorem dX6_isSaying_10 : decode cX6_isSaying 10 = .ok (.invokestatic 57, 3) := by decide +kernel
theorem dX6_isSaying_13 : decode cX6_isSaying 13 = .ok (.ireturn, 1) := by decide +kernel
theorem dX6_words_0 : decode cX6_words 0 = .ok (.aload_n 0, 1) := by decide +kernel
theorem dX6_words_1 : decode cX6_words 1 = .ok (.getfield 7, 3) := by decide +kernel
theorem dX6_words_4 : decode cX6_words 4 = .ok (.bipush 8, 2) := by decide +kernel
theorem dX6_words_6 : decode cX6_words 6 = .ok (.iconst 3, 1) := by decide +kernel
theorem dX6_words_7 : decode cX6_words 7 = .ok (.iload_n 1, 1) := by decide +kernel
theorem dX6_words_8 : decode cX6_words 8 = .ok (.imul, 1) := by decide +kernel
theorem dX6_words_9 : decode cX6_words 9 = .ok (.iadd, 1) := by decide +kernel
theorem dX6_words_10 : decode cX6_words 10 = .ok (.iload_n 2, 1) := by decide +kernel
theorem dX6_words_11 : decode cX6_words 11 = .ok (.iadd, 1) := by decide +kernel
theorem dX6_words_12 : decode cX6_words 12 = .ok (.iaload, 1) := by decide +kernel
theorem dX6_words_13 : decode cX6_words 13 = .ok (.ireturn, 1) := by decide +kernel
theorem dX6_becomes_0 : decode cX6_becomes 0 = .ok (.aload_n 0, 1) := by decide +kernel
theorem dX6_becomes_1 : decode cX6_becomes 1 = .ok (.getfield 7, 3) := by decide +kernel
theorem dX6_becomes_4 : decode cX6_becomes 4 = .ok (.iload_n 1, 1) := by decide +kernel
theorem dX6_becomes_5 : decode cX6_becomes 5 = .ok (.iaload, 1) := by decide +kernel
theorem dX6_becomes_6 : decode cX6_becomes 6 = .ok (.istore_n 3, 1) := by decide +kernel
theorem dX6_becomes_7 : decode cX6_becomes 7 = .ok (.aload_n 0, 1) := by decide +kernel
theorem dX6_becomes_8 : decode cX6_becomes 8 = .ok (.getfield 7, 3) := by decide +kernel
theorem dX6_becomes_11 : decode cX6_becomes 11 = .ok (.iload_n 1, 1) := by decide +kernel
theorem dX6_becomes_12 : decode cX6_becomes 12 = .ok (.iload_n 2, 1) := by decide +kernel
theorem dX6_becomes_13 : decode cX6_becomes 13 = .ok (.iastore, 1) := by decide +kernel
theorem dX6_becomes_14 : decode cX6_becomes 14 = .ok (.iload_n 3, 1) := by decide +kernel
theorem dX6_becomes_15 : decode cX6_becomes 15 = .ok (.ireturn, 1) := by decide +kernel
theorem dX6_ones_0 : decode cX6_ones 0 = .ok (.iconst 0, 1) := by decide +kernel
theorem dX6_ones_1 : decode cX6_ones 1 = .ok (.istore_n 1, 1) := by decide +kernel
theorem dX6_ones_2 : decode cX6_ones 2 = .ok (.iload_n 0, 1) := by decide +kernel
theorem dX6_ones_3 : decode cX6_ones 3 = .ok (.istore_n 2, 1) := by decide +kernel
theorem dX6_ones_4 : decode cX6_ones 4 = .ok (.iload_n 2, 1) := by decide +kernel
theorem dX6_ones_5 : decode cX6_ones 5 = .ok (.ifCond .eq 15, 3) := by decide +kernel
theorem dX6_ones_8 : decode cX6_ones 8 = .ok (.iinc 1 1, 3) := by decide +kernel
theorem dX6_ones_11 : decode cX6_ones 11 = .ok (.iload_n 2, 1) := by decide +kernel
theorem dX6_ones_12 : decode cX6_ones 12 = .ok (.iload_n 2, 1) := by decide +kernel
theorem dX6_ones_13 : decode cX6_ones 13 = .ok (.iconst 1, 1) := by decide +kernel
theorem dX6_ones_14 : decode cX6_ones 14 = .ok (.isub, 1) := by decide +kernel
theorem dX6_ones_15 : decode cX6_ones 15 = .ok (.iand, 1) := by decide +kernel
theorem dX6_ones_16 : decode cX6_ones 16 = .ok (.istore_n 2, 1) := by decide +kernel
theorem dX6_ones_17 : decode cX6_ones 17 = .ok (.goto (-13), 3) := by decide +kernel
theorem dX6_ones_20 : decode cX6_ones 20 = .ok (.iload_n 1, 1) := by decide +kernel
theorem dX6_ones_21 : decode cX6_ones 21 = .ok (.ireturn, 1) := by decide +kernel
theorem dX6_feed_0 : decode cX6_feed 0 = .ok (.iload_n 3, 1) := by decide +kernel
theorem dX6_feed_1 : decode cX6_feed 1 = .ok (.iconst 1, 1) := by decide +kernel
theorem dX6_feed_2 : decode cX6_feed 2 = .ok (.bipush 8, 2) := by decide +kernel
theorem dX6_feed_4 : decode cX6_feed 4 = .ok (.invokestatic 57, 3) := by decide +kernel
theorem dX6_feed_7 : decode cX6_feed 7 = .ok (.ifCond .ne 5, 3) := by decide +kernel
theorem dX6_feed_10 : decode cX6_feed 10 = .ok (.iconst (-1), 1) := by decide +kernel
theorem dX6_feed_11 : decode cX6_feed 11 = .ok (.ireturn, 1) := by decide +kernel
theorem dX6_feed_12 : decode cX6_feed 12 = .ok (.aload_n 0, 1) := by decide +kernel
theorem dX6_feed_13 : decode cX6_feed 13 = .ok (.getfield 61, 3) := by decide +kernel
theorem dX6_feed_16 : decode cX6_feed 16 = .ok (.iload_n 3, 1) := by decide +kernel
theorem dX6_feed_17 : decode cX6_feed 17 = .ok (.iadd, 1) := by decide +kernel
theorem dX6_feed_18 : decode cX6_feed 18 = .ok (.sipush 200, 3) := by decide +kernel
theorem dX6_feed_21 : decode cX6_feed 21 = .ok (.if_icmp .le 6, 3) := by decide +kernel
theorem dX6_feed_24 : decode cX6_feed 24 = .ok (.bipush (-2), 2) := by decide +kernel
theorem dX6_feed_26 : decode cX6_feed 26 = .ok (.ireturn, 1) := by decide +kernel
theorem dX6_feed_27 : decode cX6_feed 27 = .ok (.iconst 0, 1) := by decide +kernel
theorem dX6_feed_28 : decode cX6_feed 28 = .ok (.istore 4, 2) := by decide +kernel
theorem dX6_feed_30 : decode cX6_feed 30 = .ok (.iload 4, 2) := by decide +kernel
theorem dX6_feed_32 : decode cX6_feed 32 = .ok (.iload_n 3, 1) := by decide +kernel
theorem dX6_feed_33 : decode cX6_feed 33 = .ok (.if_icmp .ge 40, 3) := by decide +kernel
theorem dX6_feed_36 : decode cX6_feed 36 = .ok (.aload_n 0, 1) := by decide +kernel
theorem dX6_feed_37 : decode cX6_feed 37 = .ok (.getfield 22, 3) := by decide +kernel
theorem dX6_feed_40 : decode cX6_feed 40 = .ok (.aload_n 0, 1) := by decide +kernel
theorem dX6_feed_41 : decode cX6_feed 41 = .ok (.getfield 61, 3) := by decide +kernel
theorem dX6_feed_44 : decode cX6_feed 44 = .ok (.lload_n 1, 1) := by decide +kernel
theorem dX6_feed_45 : decode cX6_feed 45 = .ok (.bipush 8, 2) := by decide +kernel
theorem dX6_feed_47 : decode cX6_feed 47 = .ok (.iload 4, 2) := by decide +kernel
theorem dX6_feed_49 : decode cX6_feed 49 = .ok (.imul, 1) := by decide +kernel
theorem dX6_feed_50 : decode cX6_feed 50 = .ok (.lshr, 1) := by decide +kernel
theorem dX6_feed_51 : decode cX6_feed 51 = .ok (.ldc2_w 65, 3) := by decide +kernel
theorem dX6_feed_54 : decode cX6_feed 54 = .ok (.land, 1) := by decide +kernel
theorem dX6_feed_55 : decode cX6_feed 55 = .ok (.l2i, 1) := by decide +kernel
theorem dX6_feed_56 : decode cX6_feed 56 = .ok (.iastore, 1) := by decide +kernel
theorem dX6_feed_57 : decode cX6_feed 57 = .ok (.aload_n 0, 1) := by decide +kernel
theorem dX6_feed_58 : decode cX6_feed 58 = .ok (.dup, 1) := by decide +kernel
theorem dX6_feed_59 : decode cX6_feed 59 = .ok (.getfield 61, 3) := by decide +kernel
theorem dX6_feed_62 : decode cX6_feed 62 = .ok (.iconst 1, 1) := by decide +kernel
theorem dX6_feed_63 : decode cX6_feed 63 = .ok (.iadd, 1) := by decide +kernel
theorem dX6_feed_64 : decode cX6_feed 64 = .ok (.putfield 61, 3) := by decide +kernel
theorem dX6_feed_67 : decode cX6_feed 67 = .ok (.iinc 4 1, 3) := by decide +kernel
theorem dX6_feed_70 : decode cX6_feed 70 = .ok (.goto (-40), 3) := by decide +kernel
theorem dX6_feed_73 : decode cX6_feed 73 = .ok (.aload_n 0, 1) := by decide +kernel
theorem dX6_feed_74 : decode cX6_feed 74 = .ok (.getfield 61, 3) := by decide +kernel
theorem dX6_feed_77 : decode cX6_feed 77 = .ok (.ireturn, 1) := by decide +kernel
theorem dX6_byteAt_0 : decode cX6_byteAt 0 = .ok (.iload_n 1, 1) := by decide +kernel
theorem dX6_byteAt_1 : decode cX6_byteAt 1 = .ok (.aload_n 0, 1) := by decide +kernel
theorem dX6_byteAt_2 : decode cX6_byteAt 2 = .ok (.getfield 61, 3) := by decide +kernel
theorem dX6_byteAt_5 : decode cX6_byteAt 5 = .ok (.if_icmp .ge 12, 3) := by decide +kernel
theorem dX6_byteAt_8 : decode cX6_byteAt 8 = .ok (.aload_n 0, 1) := by decide +kernel
theorem dX6_byteAt_9 : decode cX6_byteAt 9 = .ok (.getfield 22, 3) := by decide +kernel
theorem dX6_byteAt_12 : decode cX6_byteAt 12 = .ok (.iload_n 1, 1) := by decide +kernel
theorem dX6_byteAt_13 : decode cX6_byteAt 13 = .ok (.iaload, 1) := by decide +kernel
theorem dX6_byteAt_14 : decode cX6_byteAt 14 = .ok (.goto 4, 3) := by decide +kernel
theorem dX6_byteAt_17 : decode cX6_byteAt 17 = .ok (.iconst (-1), 1) := by decide +kernel
theorem dX6_byteAt_18 : decode cX6_byteAt 18 = .ok (.ireturn, 1) := by decide +kernel
theorem dX6_isLetter_0 : decode cX6_isLetter 0 = .ok (.iload_n 0, 1) := by decide +kernel
theorem dX6_isLetter_1 : decode cX6_isLetter 1 = .ok (.bipush 97, 2) := by decide +kernel
theorem dX6_isLetter_3 : decode cX6_isLetter 3 = .ok (.bipush 122, 2) := by decide +kernel
theorem dX6_isLetter_5 : decode cX6_isLetter 5 = .ok (.invokestatic 57, 3) := by decide +kernel
theorem dX6_isLetter_8 : decode cX6_isLetter 8 = .ok (.ireturn, 1) := by decide +kernel
theorem dX6_isDigit_0 : decode cX6_isDigit 0 = .ok (.iload_n 0, 1) := by decide +kernel
theorem dX6_isDigit_1 : decode cX6_isDigit 1 = .ok (.bipush 48, 2) := by decide +kernel
theorem dX6_isDigit_3 : decode cX6_isDigit 3 = .ok (.bipush 57, 2) := by decide +kernel
theorem dX6_isDigit_5 : decode cX6_isDigit 5 = .ok (.invokestatic 57, 3) := by decide +kernel
theorem dX6_isDigit_8 : decode cX6_isDigit 8 = .ok (.ireturn, 1) := by decide +kernel
theorem dX6_advance_0 : decode cX6_advance 0 = .ok (.aload_n 0, 1) := by decide +kernel
theorem dX6_advance_1 : decode cX6_advance 1 = .ok (.aload_n 0, 1) := by decide +kernel
theorem dX6_advance_2 : decode cX6_advance 2 = .ok (.getfield 67, 3) := by decide +kernel
theorem dX6_advance_5 : decode cX6_advance 5 = .ok (.putfield 70, 3) := by decide +kernel
theorem dX6_advance_8 : decode cX6_advance 8 = .ok (.aload_n 0, 1) := by decide +kernel
theorem dX6_advance_9 : decode cX6_advance 9 = .ok (.aload_n 0, 1) := by decide +kernel
theorem dX6_advance_10 : decode cX6_advance 10 = .ok (.getfield 70, 3) := by decide +kernel
theorem dX6_advance_13 : decode cX6_advance 13 = .ok (.invokevirtual 72, 3) := by decide +kernel
theorem dX6_advance_16 : decode cX6_advance 16 = .ok (.bipush 32, 2) := by decide +kernel
theorem dX6_advance_18 : decode cX6_advance 18 = .ok (.if_icmp .ne 16, 3) := by decide +kernel
theorem dX6_advance_21 : decode cX6_advance 21 = .ok (.aload_n 0, 1) := by decide +kernel
theorem dX6_advance_22 : decode cX6_advance 22 = .ok (.dup, 1) := by decide +kernel
theorem dX6_advance_23 : decode cX6_advance 23 = .ok (.getfield 70, 3) := by decide +kernel
theorem dX6_advance_26 : decode cX6_advance 26 = .ok (.iconst 1, 1) := by decide +kernel
theorem dX6_advance_27 : decode cX6_advance 27 = .ok (.iadd, 1) := by decide +kernel
theorem dX6_advance_28 : decode cX6_advance 28 = .ok (.putfield 70, 3) := by decide +kernel
theorem dX6_advance_31 : decode cX6_advance 31 = .ok (.goto (-23), 3) := by decide +kernel
theorem dX6_advance_34 : decode cX6_advance 34 = .ok (.aload_n 0, 1) := by decide +kernel
theorem dX6_advance_35 : decode cX6_advance 35 = .ok (.aload_n 0, 1) := by decide +kernel
theorem dX6_advance_36 : decode cX6_advance 36 = .ok (.getfield 70, 3) := by decide +kernel
theorem dX6_advance_39 : decode cX6_advance 39 = .ok (.putfield 67, 3) := by decide +kernel
theorem dX6_advance_42 : decode cX6_advance 42 = .ok (.aload_n 0, 1) := by decide +kernel
theorem dX6_advance_43 : decode cX6_advance 43 = .ok (.aload_n 0, 1) := by decide +kernel
theorem dX6_advance_44 : decode cX6_advance 44 = .ok (.getfield 70, 3) := by decide +kernel
theorem dX6_advance_47 : decode cX6_advance 47 = .ok (.invokevirtual 72, 3) := by decide +kernel
theorem dX6_advance_50 : decode cX6_advance 50 = .ok (.istore_n 1, 1) := by decide +kernel
theorem dX6_advance_51 : decode cX6_advance 51 = .ok (.aload_n 0, 1) := by decide +kernel
theorem dX6_advance_52 : decode cX6_advance 52 = .ok (.iload_n 1, 1) := by decide +kernel
theorem dX6_advance_53 : decode cX6_advance 53 = .ok (.ifCond .ge 7, 3) := by decide +kernel
theorem dX6_advance_56 : decode cX6_advance 56 = .ok (.iconst 0, 1) := by decide +kernel
theorem dX6_advance_57 : decode cX6_advance 57 = .ok (.goto 26, 3) := by decide +kernel
theorem dX6_advance_60 : decode cX6_advance 60 = .ok (.iload_n 1, 1) := by decide +kernel
theorem dX6_advance_61 : decode cX6_advance 61 = .ok (.invokestatic 76, 3) := by decide +kernel
theorem dX6_advance_64 : decode cX6_advance 64 = .ok (.ifCond .eq 7, 3) := by decide +kernel
theorem dX6_advance_67 : decode cX6_advance 67 = .ok (.iconst 1, 1) := by decide +kernel
theorem dX6_advance_68 : decode cX6_advance 68 = .ok (.goto 15, 3) := by decide +kernel
theorem dX6_advance_71 : decode cX6_advance 71 = .ok (.iload_n 1, 1) := by decide +kernel
theorem dX6_advance_72 : decode cX6_advance 72 = .ok (.invokestatic 80, 3) := by decide +kernel
theorem dX6_advance_75 : decode cX6_advance 75 = .ok (.ifCond .eq 7, 3) := by decide +kernel
theorem dX6_advance_78 : decode cX6_advance 78 = .ok (.iconst 2, 1) := by decide +kernel
theorem dX6_advance_79 : decode cX6_advance 79 = .ok (.goto 4, 3) := by decide +kernel
theorem dX6_advance_82 : decode cX6_advance 82 = .ok (.iconst 3, 1) := by decide +kernel
theorem dX6_advance_83 : decode cX6_advance 83 = .ok (.putfield 83, 3) := by decide +kernel
theorem dX6_advance_86 : decode cX6_advance 86 = .ok (.aload_n 0, 1) := by decide +kernel
theorem dX6_advance_87 : decode cX6_advance 87 = .ok (.lconst 0, 1) := by decide +kernel
theorem dX6_advance_88 : decode cX6_advance 88 = .ok (.putfield 86, 3) := by decide +kernel
theorem dX6_advance_91 : decode cX6_advance 91 = .ok (.aload_n 0, 1) := by decide +kernel
theorem dX6_advance_92 : decode cX6_advance 92 = .ok (.aload_n 0, 1) := by decide +kernel
theorem dX6_advance_93 : decode cX6_advance 93 = .ok (.getfield 83, 3) := by decide +kernel
theorem dX6_advance_96 : decode cX6_advance 96 = .ok (.iconst 2, 1) := by decide +kernel
theorem dX6_advance_97 : decode cX6_advance 97 = .ok (.if_icmp .ne 7, 3) := by decide +kernel
theorem dX6_advance_100 : decode cX6_advance 100 = .ok (.iconst 0, 1) := by decide +kernel
theorem dX6_advance_101 : decode cX6_advance 101 = .ok (.goto 4, 3) := by decide +kernel
theorem dX6_advance_104 : decode cX6_advance 104 = .ok (.iload_n 1, 1) := by decide +kernel
theorem dX6_advance_105 : decode cX6_advance 105 = .ok (.putfield 90, 3) := by decide +kernel
theorem dX6_advance_108 : decode cX6_advance 108 = .ok (.aload_n 0, 1) := by decide +kernel
theorem dX6_advance_109 : decode cX6_advance 109 = .ok (.getfield 83, 3) := by decide +kernel
theorem dX6_advance_112 : decode cX6_advance 112 = .ok (.iconst 3, 1) := by decide +kernel
theorem dX6_advance_113 : decode cX6_advance 113 = .ok (.if_icmp .ne 13, 3) := by decide +kernel
theorem dX6_advance_116 : decode cX6_advance 116 = .ok (.aload_n 0, 1) := by decide +kernel
theorem dX6_advance_117 : decode cX6_advance 117 = .ok (.dup, 1) := by decide +kernel
theorem dX6_advance_118 : decode cX6_advance 118 = .ok (.getfield 67, 3) := by decide +kernel
theorem dX6_advance_121 : decode cX6_advance 121 = .ok (.iconst 1, 1) := by decide +kernel
theorem dX6_advance_122 : decode cX6_advance 122 = .ok (.iadd, 1) := by decide +kernel
theorem dX6_advance_123 : decode cX6_advance 123 = .ok (.putfield 67, 3) := by decide +kernel
theorem dX6_advance_126 : decode cX6_advance 126 = .ok (.aload_n 0, 1) := by decide +kernel
theorem dX6_advance_127 : decode cX6_advance 127 = .ok (.getfield 83, 3) := by decide +kernel
theorem dX6_advance_130 : decode cX6_advance 130 = .ok (.iconst 1, 1) := by decide +kernel
theorem dX6_advance_131 : decode cX6_advance 131 = .ok (.if_icmp .ne 76, 3) := by decide +kernel
theorem dX6_advance_134 : decode cX6_advance 134 = .ok (.aload_n 0, 1) := by decide +kernel
theorem dX6_advance_135 : decode cX6_advance 135 = .ok (.aload_n 0, 1) := by decide +kernel
theorem dX6_advance_136 : decode cX6_advance 136 = .ok (.getfield 67, 3) := by decide +kernel
theorem dX6_advance_139 : decode cX6_advance 139 = .ok (.invokevirtual 72, 3) := by decide +kernel
theorem dX6_advance_142 : decode cX6_advance 142 = .ok (.invokestatic 76, 3) := by decide +kernel
theorem dX6_advance_145 : decode cX6_advance 145 = .ok (.ifCond .eq 62, 3) := by decide +kernel
theorem dX6_advance_148 : decode cX6_advance 148 = .ok (.aload_n 0, 1) := by decide +kernel
theorem dX6_advance_149 : decode cX6_advance 149 = .ok (.aload_n 0, 1) := by decide +kernel
theorem dX6_advance_150 : decode cX6_advance 150 = .ok (.getfield 67, 3) := by decide +kernel
theorem dX6_advance_153 : decode cX6_advance 153 = .ok (.aload_n 0, 1) := by decide +kernel
theorem dX6_advance_154 : decode cX6_advance 154 = .ok (.getfield 70, 3) := by decide +kernel
theorem dX6_advance_157 : decode cX6_advance 157 = .ok (.isub, 1) := by decide +kernel
theorem dX6_advance_158 : decode cX6_advance 158 = .ok (.bipush 9, 2) := by decide +kernel
theorem dX6_advance_160 : decode cX6_advance 160 = .ok (.if_icmp .ge 28, 3) := by decide +kernel
theorem dX6_advance_163 : decode cX6_advance 163 = .ok (.ldc2_w 93, 3) := by decide +kernel
theorem dX6_advance_166 : decode cX6_advance 166 = .ok (.aload_n 0, 1) := by decide +kernel
theorem dX6_advance_167 : decode cX6_advance 167 = .ok (.getfield 86, 3) := by decide +kernel
theorem dX6_advance_170 : decode cX6_advance 170 = .ok (.lmul, 1) := by decide +kernel
theorem dX6_advance_171 : decode cX6_advance 171 = .ok (.aload_n 0, 1) := by decide +kernel
theorem dX6_advance_172 : decode cX6_advance 172 = .ok (.aload_n 0, 1) := by decide +kernel
theorem dX6_advance_173 : decode cX6_advance 173 = .ok (.getfield 67, 3) := by decide +kernel
theorem dX6_advance_176 : decode cX6_advance 176 = .ok (.invokevirtual 72, 3) := by decide +kernel
theorem dX6_advance_179 : decode cX6_advance 179 = .ok (.i2l, 1) := by decide +kernel
theorem dX6_advance_180 : decode cX6_advance 180 = .ok (.ladd, 1) := by decide +kernel
theorem dX6_advance_181 : decode cX6_advance 181 = .ok (.ldc2_w 95, 3) := by decide +kernel
theorem dX6_advance_184 : decode cX6_advance 184 = .ok (.lsub, 1) := by decide +kernel
theorem dX6_advance_185 : decode cX6_advance 185 = .ok (.goto 6, 3) := by decide +kernel
theorem dX6_advance_188 : decode cX6_advance 188 = .ok (.ldc2_w 97, 3) := by decide +kernel
theorem dX6_advance_191 : decode cX6_advance 191 = .ok (.putfield 86, 3) := by decide +kernel
theorem dX6_advance_194 : decode cX6_advance 194 = .ok (.aload_n 0, 1) := by decide +kernel
theorem dX6_advance_195 : decode cX6_advance 195 = .ok (.dup, 1) := by decide +kernel
theorem dX6_advance_196 : decode cX6_advance 196 = .ok (.getfield 67, 3) := by decide +kernel
theorem dX6_advance_199 : decode cX6_advance 199 = .ok (.iconst 1, 1) := by decide +kernel
theorem dX6_advance_200 : decode cX6_advance 200 = .ok (.iadd, 1) := by decide +kernel
theorem dX6_advance_201 : decode cX6_advance 201 = .ok (.putfield 67, 3) := by decide +kernel
theorem dX6_advance_204 : decode cX6_advance 204 = .ok (.goto (-78), 3) := by decide +kernel
theorem dX6_advance_207 : decode cX6_advance 207 = .ok (.aload_n 0, 1) := by decide +kernel
theorem dX6_advance_208 : decode cX6_advance 208 = .ok (.getfield 83, 3) := by decide +kernel
theorem dX6_advance_211 : decode cX6_advance 211 = .ok (.iconst 2, 1) := by decide +kernel
theorem dX6_advance_212 : decode cX6_advance 212 = .ok (.if_icmp .ne 70, 3) := by decide +kernel
theorem dX6_advance_215 : decode cX6_advance 215 = .ok (.aload_n 0, 1) := by decide +kernel
theorem dX6_advance_216 : decode cX6_advance 216 = .ok (.aload_n 0, 1) := by decide +kernel
theorem dX6_advance_217 : decode cX6_advance 217 = .ok (.getfield 67, 3) := by decide +kernel
theorem dX6_advance_220 : decode cX6_advance 220 = .ok (.invokevirtual 72, 3) := by decide +kernel
theorem dX6_advance_223 : decode cX6_advance 223 = .ok (.invokestatic 80, 3) := by decide +kernel
theorem dX6_advance_226 : decode cX6_advance 226 = .ok (.ifCond .eq 56, 3) := by decide +kernel
theorem dX6_advance_229 : decode cX6_advance 229 = .ok (.aload_n 0, 1) := by decide +kernel
theorem dX6_advance_230 : decode cX6_advance 230 = .ok (.aload_n 0, 1) := by decide +kernel
theorem dX6_advance_231 : decode cX6_advance 231 = .ok (.getfield 67, 3) := by decide +kernel
theorem dX6_advance_234 : decode cX6_advance 234 = .ok (.aload_n 0, 1) := by decide +kernel
theorem dX6_advance_235 : decode cX6_advance 235 = .ok (.getfield 70, 3) := by decide +kernel
theorem dX6_advance_238 : decode cX6_advance 238 = .ok (.isub, 1) := by decide +kernel
theorem dX6_advance_239 : decode cX6_advance 239 = .ok (.iconst 3, 1) := by decide +kernel
theorem dX6_advance_240 : decode cX6_advance 240 = .ok (.if_icmp .ge 25, 3) := by decide +kernel
theorem dX6_advance_243 : decode cX6_advance 243 = .ok (.bipush 10, 2) := by decide +kernel
theorem dX6_advance_245 : decode cX6_advance 245 = .ok (.aload_n 0, 1) := by decide +kernel
theorem dX6_advance_246 : decode cX6_advance 246 = .ok (.getfield 90, 3) := by decide +kernel
theorem dX6_advance_249 : decode cX6_advance 249 = .ok (.imul, 1) := by decide +kernel
theorem dX6_advance_250 : decode cX6_advance 250 = .ok (.aload_n 0, 1) := by decide +kernel
theorem dX6_advance_251 : decode cX6_advance 251 = .ok (.aload_n 0, 1) := by decide +kernel
theorem dX6_advance_252 : decode cX6_advance 252 = .ok (.getfield 67, 3) := by decide +kernel
theorem dX6_advance_255 : decode cX6_advance 255 = .ok (.invokevirtual 72, 3) := by decide +kernel
theorem dX6_advance_258 : decode cX6_advance 258 = .ok (.iadd, 1) := by decide +kernel
theorem dX6_advance_259 : decode cX6_advance 259 = .ok (.bipush 48, 2) := by decide +kernel
theorem dX6_advance_261 : decode cX6_advance 261 = .ok (.isub, 1) := by decide +kernel
theorem dX6_advance_262 : decode cX6_advance 262 = .ok (.goto 4, 3) := by decide +kernel
theorem dX6_advance_265 : decode cX6_advance 265 = .ok (.iconst (-1), 1) := by decide +kernel
theorem dX6_advance_266 : decode cX6_advance 266 = .ok (.putfield 90, 3) := by decide +kernel
theorem dX6_advance_269 : decode cX6_advance 269 = .ok (.aload_n 0, 1) := by decide +kernel
theorem dX6_advance_270 : decode cX6_advance 270 = .ok (.dup, 1) := by decide +kernel
theorem dX6_advance_271 : decode cX6_advance 271 = .ok (.getfield 67, 3) := by decide +kernel
theorem dX6_advance_274 : decode cX6_advance 274 = .ok (.iconst 1, 1) := by decide +kernel
theorem dX6_advance_275 : decode cX6_advance 275 = .ok (.iadd, 1) := by decide +kernel
theorem dX6_advance_276 : decode cX6_advance 276 = .ok (.putfield 67, 3) := by decide +kernel
theorem dX6_advance_279 : decode cX6_advance 279 = .ok (.goto (-72), 3) := by decide +kernel
theorem dX6_advance_282 : decode cX6_advance 282 = .ok (.return_, 1) := by decide +kernel
theorem dX6_isWord_0 : decode cX6_isWord 0 = .ok (.aload_n 0, 1) := by decide +kernel
theorem dX6_isWord_1 : decode cX6_isWord 1 = .ok (.getfield 83, 3) := by decide +kernel
theorem dX6_isWord_4 : decode cX6_isWord 4 = .ok (.iconst 1, 1) := by decide +kernel
theorem dX6_isWord_5 : decode cX6_isWord 5 = .ok (.if_icmp .ne 16, 3) := by decide +kernel
theorem dX6_isWord_8 : decode cX6_isWord 8 = .ok (.aload_n 0, 1) := by decide +kernel
theorem dX6_isWord_9 : decode cX6_isWord 9 = .ok (.getfield 86, 3) := by decide +kernel
theorem dX6_isWord_12 : decode cX6_isWord 12 = .ok (.lload_n 1, 1) := by decide +kernel
theorem dX6_isWord_13 : decode cX6_isWord 13 = .ok (.lcmp, 1) := by decide +kernel
theorem dX6_isWord_14 : decode cX6_isWord 14 = .ok (.ifCond .ne 7, 3) := by decide +kernel
theorem dX6_isWord_17 : decode cX6_isWord 17 = .ok (.iconst 1, 1) := by decide +kernel
theorem dX6_isWord_18 : decode cX6_isWord 18 = .ok (.goto 4, 3) := by decide +kernel
theorem dX6_isWord_21 : decode cX6_isWord 21 = .ok (.iconst 0, 1) := by decide +kernel
theorem dX6_isWord_22 : decode cX6_isWord 22 = .ok (.ireturn, 1) := by decide +kernel
theorem dX6_isMark_0 : decode cX6_isMark 0 = .ok (.aload_n 0, 1) := by decide +kernel
theorem dX6_isMark_1 : decode cX6_isMark 1 = .ok (.getfield 83, 3) := by decide +kernel
theorem dX6_isMark_4 : decode cX6_isMark 4 = .ok (.iconst 3, 1) := by decide +kernel
theorem dX6_isMark_5 : decode cX6_isMark 5 = .ok (.if_icmp .ne 15, 3) := by decide +kernel
theorem dX6_isMark_8 : decode cX6_isMark 8 = .ok (.aload_n 0, 1) := by decide +kernel
theorem dX6_isMark_9 : decode cX6_isMark 9 = .ok (.getfield 90, 3) := by decide +kernel
theorem dX6_isMark_12 : decode cX6_isMark 12 = .ok (.iload_n 1, 1) := by decide +kernel
theorem dX6_isMark_13 : decode cX6_isMark 13 = .ok (.if_icmp .ne 7, 3) := by decide +kernel
theorem dX6_isMark_16 : decode cX6_isMark 16 = .ok (.iconst 1, 1) := by decide +kernel
theorem dX6_isMark_17 : decode cX6_isMark 17 = .ok (.goto 4, 3) := by decide +kernel
theorem dX6_isMark_20 : decode cX6_isMark 20 = .ok (.iconst 0, 1) := by decide +kernel
theorem dX6_isMark_21 : decode cX6_isMark 21 = .ok (.ireturn, 1) := by decide +kernel
theorem dX6_kindHere_0 : decode cX6_kindHere 0 = .ok (.aload_n 0, 1) := by decide +kernel
theorem dX6_kindHere_1 : decode cX6_kindHere 1 = .ok (.ldc2_w 99, 3) := by decide +kernel
theorem dX6_kindHere_4 : decode cX6_kindHere 4 = .ok (.invokevirtual 101, 3) := by decide +kernel
theorem dX6_kindHere_7 : decode cX6_kindHere 7 = .ok (.ifCond .eq 7, 3) := by decide +kernel
theorem dX6_kindHere_10 : decode cX6_kindHere 10 = .ok (.iconst 0, 1) := by decide +kernel
theorem dX6_kindHere_11 : decode cX6_kindHere 11 = .ok (.goto 74, 3) := by decide +kernel
theorem dX6_kindHere_14 : decode cX6_kindHere 14 = .ok (.aload_n 0, 1) := by decide +kernel
theorem dX6_kindHere_15 : decode cX6_kindHere 15 = .ok (.ldc2_w 105, 3) := by decide +kernel
theorem dX6_kindHere_18 : decode cX6_kindHere 18 = .ok (.invokevirtual 101, 3) := by decide +kernel
theorem dX6_kindHere_21 : decode cX6_kindHere 21 = .ok (.ifCond .eq 7, 3) := by decide +kernel
theorem dX6_kindHere_24 : decode cX6_kindHere 24 = .ok (.iconst 1, 1) := by decide +kernel
theorem dX6_kindHere_25 : decode cX6_kindHere 25 = .ok (.goto 60, 3) := by decide +kernel
theorem dX6_kindHere_28 : decode cX6_kindHere 28 = .ok (.aload_n 0, 1) := by decide +kernel
theorem dX6_kindHere_29 : decode cX6_kindHere 29 = .ok (.ldc2_w 107, 3) := by decide +kernel
theorem dX6_kindHere_32 : decode cX6_kindHere 32 = .ok (.invokevirtual 101, 3) := by decide +kernel
theorem dX6_kindHere_35 : decode cX6_kindHere 35 = .ok (.ifCond .eq 7, 3) := by decide +kernel
theorem dX6_kindHere_38 : decode cX6_kindHere 38 = .ok (.iconst 2, 1) := by decide +kernel
theorem dX6_kindHere_39 : decode cX6_kindHere 39 = .ok (.goto 46, 3) := by decide +kernel
theorem dX6_kindHere_42 : decode cX6_kindHere 42 = .ok (.aload_n 0, 1) := by decide +kernel
theorem dX6_kindHere_43 : decode cX6_kindHere 43 = .ok (.ldc2_w 109, 3) := by decide +kernel
theorem dX6_kindHere_46 : decode cX6_kindHere 46 = .ok (.invokevirtual 101, 3) := by decide +kernel
theorem dX6_kindHere_49 : decode cX6_kindHere 49 = .ok (.ifCond .eq 7, 3) := by decide +kernel
theorem dX6_kindHere_52 : decode cX6_kindHere 52 = .ok (.iconst 3, 1) := by decide +kernel
theorem dX6_kindHere_53 : decode cX6_kindHere 53 = .ok (.goto 32, 3) := by decide +kernel
theorem dX6_kindHere_56 : decode cX6_kindHere 56 = .ok (.aload_n 0, 1) := by decide +kernel
theorem dX6_kindHere_57 : decode cX6_kindHere 57 = .ok (.ldc2_w 111, 3) := by decide +kernel
theorem dX6_kindHere_60 : decode cX6_kindHere 60 = .ok (.invokevirtual 101, 3) := by decide +kernel
theorem dX6_kindHere_63 : decode cX6_kindHere 63 = .ok (.ifCond .eq 7, 3) := by decide +kernel
theorem dX6_kindHere_66 : decode cX6_kindHere 66 = .ok (.iconst 4, 1) := by decide +kernel
theorem dX6_kindHere_67 : decode cX6_kindHere 67 = .ok (.goto 18, 3) := by decide +kernel
theorem dX6_kindHere_70 : decode cX6_kindHere 70 = .ok (.aload_n 0, 1) := by decide +kernel
theorem dX6_kindHere_71 : decode cX6_kindHere 71 = .ok (.ldc2_w 113, 3) := by decide +kernel
theorem dX6_kindHere_74 : decode cX6_kindHere 74 = .ok (.invokevirtual 101, 3) := by decide +kernel
theorem dX6_kindHere_77 : decode cX6_kindHere 77 = .ok (.ifCond .eq 7, 3) := by decide +kernel
theorem dX6_kindHere_80 : decode cX6_kindHere 80 = .ok (.iconst 5, 1) := by decide +kernel
theorem dX6_kindHere_81 : decode cX6_kindHere 81 = .ok (.goto 4, 3) := by decide +kernel
theorem dX6_kindHere_84 : decode cX6_kindHere 84 = .ok (.iconst (-1), 1) := by decide +kernel
theorem dX6_kindHere_85 : decode cX6_kindHere 85 = .ok (.ireturn, 1) := by decide +kernel
theorem dX6_lawHere_0 : decode cX6_lawHere 0 = .ok (.aload_n 0, 1) := by decide +kernel
theorem dX6_lawHere_1 : decode cX6_lawHere 1 = .ok (.ldc2_w 115, 3) := by decide +kernel
theorem dX6_lawHere_4 : decode cX6_lawHere 4 = .ok (.invokevirtual 101, 3) := by decide +kernel
theorem dX6_lawHere_7 : decode cX6_lawHere 7 = .ok (.ifCond .eq 7, 3) := by decide +kernel
theorem dX6_lawHere_10 : decode cX6_lawHere 10 = .ok (.iconst 0, 1) := by decide +kernel
theorem dX6_lawHere_11 : decode cX6_lawHere 11 = .ok (.goto 46, 3) := by decide +kernel
theorem dX6_lawHere_14 : decode cX6_lawHere 14 = .ok (.aload_n 0, 1) := by decide +kernel
theorem dX6_lawHere_15 : decode cX6_lawHere 15 = .ok (.ldc2_w 117, 3) := by decide +kernel
theorem dX6_lawHere_18 : decode cX6_lawHere 18 = .ok (.invokevirtual 101, 3) := by decide +kernel
theorem dX6_lawHere_21 : decode cX6_lawHere 21 = .ok (.ifCond .eq 7, 3) := by decide +kernel
theorem dX6_lawHere_24 : decode cX6_lawHere 24 = .ok (.iconst 1, 1) := by decide +kernel
theorem dX6_lawHere_25 : decode cX6_lawHere 25 = .ok (.goto 32, 3) := by decide +kernel
theorem dX6_lawHere_28 : decode cX6_lawHere 28 = .ok (.aload_n 0, 1) := by decide +kernel
theorem dX6_lawHere_29 : decode cX6_lawHere 29 = .ok (.ldc2_w 119, 3) := by decide +kernel
theorem dX6_lawHere_32 : decode cX6_lawHere 32 = .ok (.invokevirtual 101, 3) := by decide +kernel
theorem dX6_lawHere_35 : decode cX6_lawHere 35 = .ok (.ifCond .eq 7, 3) := by decide +kernel
theorem dX6_lawHere_38 : decode cX6_lawHere 38 = .ok (.iconst 2, 1) := by decide +kernel
theorem dX6_lawHere_39 : decode cX6_lawHere 39 = .ok (.goto 18, 3) := by decide +kernel
theorem dX6_lawHere_42 : decode cX6_lawHere 42 = .ok (.aload_n 0, 1) := by decide +kernel
theorem dX6_lawHere_43 : decode cX6_lawHere 43 = .ok (.ldc2_w 121, 3) := by decide +kernel
theorem dX6_lawHere_46 : decode cX6_lawHere 46 = .ok (.invokevirtual 101, 3) := by decide +kernel
theorem dX6_lawHere_49 : decode cX6_lawHere 49 = .ok (.ifCond .eq 7, 3) := by decide +kernel
theorem dX6_lawHere_52 : decode cX6_lawHere 52 = .ok (.iconst 3, 1) := by decide +kernel
theorem dX6_lawHere_53 : decode cX6_lawHere 53 = .ok (.goto 4, 3) := by decide +kernel
theorem dX6_lawHere_56 : decode cX6_lawHere 56 = .ok (.iconst (-1), 1) := by decide +kernel
theorem dX6_lawHere_57 : decode cX6_lawHere 57 = .ok (.ireturn, 1) := by decide +kernel
theorem dX6_wantNumber_0 : decode cX6_wantNumber 0 = .ok (.aload_n 0, 1) := by decide +kernel
theorem dX6_wantNumber_1 : decode cX6_wantNumber 1 = .ok (.getfield 90, 3) := by decide +kernel
theorem dX6_wantNumber_4 : decode cX6_wantNumber 4 = .ok (.istore_n 3, 1) := by decide +kernel
theorem dX6_wantNumber_5 : decode cX6_wantNumber 5 = .ok (.aload_n 0, 1) := by decide +kernel
theorem dX6_wantNumber_6 : decode cX6_wantNumber 6 = .ok (.aload_n 0, 1) := by decide +kernel
theorem dX6_wantNumber_7 : decode cX6_wantNumber 7 = .ok (.getfield 123, 3) := by decide +kernel
theorem dX6_wantNumber_10 : decode cX6_wantNumber 10 = .ok (.ifCond .eq 24, 3) := by decide +kernel
theorem dX6_wantNumber_13 : decode cX6_wantNumber 13 = .ok (.aload_n 0, 1) := by decide +kernel
theorem dX6_wantNumber_14 : decode cX6_wantNumber 14 = .ok (.getfield 83, 3) := by decide +kernel
theorem dX6_wantNumber_17 : decode cX6_wantNumber 17 = .ok (.iconst 2, 1) := by decide +kernel
theorem dX6_wantNumber_18 : decode cX6_wantNumber 18 = .ok (.if_icmp .ne 16, 3) := by decide +kernel
theorem dX6_wantNumber_21 : decode cX6_wantNumber 21 = .ok (.iload_n 3, 1) := by decide +kernel
theorem dX6_wantNumber_22 : decode cX6_wantNumber 22 = .ok (.iload_n 1, 1) := by decide +kernel
theorem dX6_wantNumber_23 : decode cX6_wantNumber 23 = .ok (.iload_n 2, 1) := by decide +kernel
theorem dX6_wantNumber_24 : decode cX6_wantNumber 24 = .ok (.invokestatic 57, 3) := by decide +kernel
theorem dX6_wantNumber_27 : decode cX6_wantNumber 27 = .ok (.ifCond .eq 7, 3) := by decide +kernel
theorem dX6_wantNumber_30 : decode cX6_wantNumber 30 = .ok (.iconst 1, 1) := by decide +kernel
theorem dX6_wantNumber_31 : decode cX6_wantNumber 31 = .ok (.goto 4, 3) := by decide +kernel
theorem dX6_wantNumber_34 : decode cX6_wantNumber 34 = .ok (.iconst 0, 1) := by decide +kernel
theorem dX6_wantNumber_35 : decode cX6_wantNumber 35 = .ok (.putfield 123, 3) := by decide +kernel
theorem dX6_wantNumber_38 : decode cX6_wantNumber 38 = .ok (.aload_n 0, 1) := by decide +kernel
theorem dX6_wantNumber_39 : decode cX6_wantNumber 39 = .ok (.getfield 123, 3) := by decide +kernel
theorem dX6_wantNumber_42 : decode cX6_wantNumber 42 = .ok (.ifCond .eq 7, 3) := by decide +kernel
theorem dX6_wantNumber_45 : decode cX6_wantNumber 45 = .ok (.aload_n 0, 1) := by decide +kernel
theorem dX6_wantNumber_46 : decode cX6_wantNumber 46 = .ok (.invokevirtual 127, 3) := by decide +kernel
theorem dX6_wantNumber_49 : decode cX6_wantNumber 49 = .ok (.iload_n 3, 1) := by decide +kernel
theorem dX6_wantNumber_50 : decode cX6_wantNumber 50 = .ok (.ireturn, 1) := by decide +kernel
theorem dX6_wantEnd_0 : decode cX6_wantEnd 0 = .ok (.aload_n 0, 1) := by decide +kernel
theorem dX6_wantEnd_1 : decode cX6_wantEnd 1 = .ok (.aload_n 0, 1) := by decide +kernel
theorem dX6_wantEnd_2 : decode cX6_wantEnd 2 = .ok (.getfield 123, 3) := by decide +kernel
theorem dX6_wantEnd_5 : decode cX6_wantEnd 5 = .ok (.ifCond .eq 16, 3) := by decide +kernel
theorem dX6_wantEnd_8 : decode cX6_wantEnd 8 = .ok (.aload_n 0, 1) := by decide +kernel
theorem dX6_wantEnd_9 : decode cX6_wantEnd 9 = .ok (.bipush 59, 2) := by decide +kernel
theorem dX6_wantEnd_11 : decode cX6_wantEnd 11 = .ok (.invokevirtual 130, 3) := by decide +kernel
theorem dX6_wantEnd_14 : decode cX6_wantEnd 14 = .ok (.ifCond .eq 7, 3) := by decide +kernel
theorem dX6_wantEnd_17 : decode cX6_wantEnd 17 = .ok (.iconst 1, 1) := by decide +kernel
theorem dX6_wantEnd_18 : decode cX6_wantEnd 18 = .ok (.goto 4, 3) := by decide +kernel
theorem dX6_wantEnd_21 : decode cX6_wantEnd 21 = .ok (.iconst 0, 1) := by decide +kernel
theorem dX6_wantEnd_22 : decode cX6_wantEnd 22 = .ok (.putfield 123, 3) := by decide +kernel
theorem dX6_wantEnd_25 : decode cX6_wantEnd 25 = .ok (.aload_n 0, 1) := by decide +kernel
theorem dX6_wantEnd_26 : decode cX6_wantEnd 26 = .ok (.getfield 123, 3) := by decide +kernel
theorem dX6_wantEnd_29 : decode cX6_wantEnd 29 = .ok (.ifCond .eq 7, 3) := by decide +kernel
theorem dX6_wantEnd_32 : decode cX6_wantEnd 32 = .ok (.aload_n 0, 1) := by decide +kernel
theorem dX6_wantEnd_33 : decode cX6_wantEnd 33 = .ok (.invokevirtual 127, 3) := by decide +kernel
theorem dX6_wantEnd_36 : decode cX6_wantEnd 36 = .ok (.return_, 1) := by decide +kernel
theorem dX6_may_0 : decode cX6_may 0 = .ok (.aload_n 0, 1) := by decide +kernel
theorem dX6_may_1 : decode cX6_may 1 = .ok (.getfield 123, 3) := by decide +kernel
theorem dX6_may_4 : decode cX6_may 4 = .ok (.ifCond .eq 15, 3) := by decide +kernel
theorem dX6_may_7 : decode cX6_may 7 = .ok (.aload_n 0, 1) := by decide +kernel
theorem dX6_may_8 : decode cX6_may 8 = .ok (.lload_n 1, 1) := by decide +kernel
theorem dX6_may_9 : decode cX6_may 9 = .ok (.invokevirtual 101, 3) := by decide +kernel
theorem dX6_may_12 : decode cX6_may 12 = .ok (.ifCond .eq 7, 3) := by decide +kernel
theorem dX6_may_15 : decode cX6_may 15 = .ok (.iconst 1, 1) := by decide +kernel
theorem dX6_may_16 : decode cX6_may 16 = .ok (.goto 4, 3) := by decide +kernel
theorem dX6_may_19 : decode cX6_may 19 = .ok (.iconst 0, 1) := by decide +kernel
theorem dX6_may_20 : decode cX6_may 20 = .ok (.istore_n 3, 1) := by decide +kernel
theorem dX6_may_21 : decode cX6_may 21 = .ok (.iload_n 3, 1) := by decide +kernel
theorem dX6_may_22 : decode cX6_may 22 = .ok (.ifCond .eq 7, 3) := by decide +kernel
theorem dX6_may_25 : decode cX6_may 25 = .ok (.aload_n 0, 1) := by decide +kernel
theorem dX6_may_26 : decode cX6_may 26 = .ok (.invokevirtual 127, 3) := by decide +kernel
theorem dX6_may_29 : decode cX6_may 29 = .ok (.iload_n 3, 1) := by decide +kernel
theorem dX6_may_30 : decode cX6_may 30 = .ok (.ireturn, 1) := by decide +kernel
theorem dX6_wantOne_0 : decode cX6_wantOne 0 = .ok (.aload_n 0, 1) := by decide +kernel
theorem dX6_wantOne_1 : decode cX6_wantOne 1 = .ok (.aload_n 0, 1) := by decide +kernel
theorem dX6_wantOne_2 : decode cX6_wantOne 2 = .ok (.getfield 13, 3) := by decide +kernel
theorem dX6_wantOne_5 : decode cX6_wantOne 5 = .ok (.bipush 6, 2) := by decide +kernel
theorem dX6_wantOne_7 : decode cX6_wantOne 7 = .ok (.iaload, 1) := by decide +kernel
theorem dX6_wantOne_8 : decode cX6_wantOne 8 = .ok (.bipush 8, 2) := by decide +kernel
theorem dX6_wantOne_10 : decode cX6_wantOne 10 = .ok (.if_icmp .ge 7, 3) := by decide +kernel
theorem dX6_wantOne_13 : decode cX6_wantOne 13 = .ok (.iconst 1, 1) := by decide +kernel
theorem dX6_wantOne_14 : decode cX6_wantOne 14 = .ok (.goto 4, 3) := by decide +kernel
theorem dX6_wantOne_17 : decode cX6_wantOne 17 = .ok (.iconst 0, 1) := by decide +kernel
theorem dX6_wantOne_18 : decode cX6_wantOne 18 = .ok (.putfield 123, 3) := by decide +kernel
theorem dX6_wantOne_21 : decode cX6_wantOne 21 = .ok (.aload_n 0, 1) := by decide +kernel
theorem dX6_wantOne_22 : decode cX6_wantOne 22 = .ok (.getfield 123, 3) := by decide +kernel
theorem dX6_wantOne_25 : decode cX6_wantOne 25 = .ok (.ifCond .eq 7, 3) := by decide +kernel
theorem dX6_wantOne_28 : decode cX6_wantOne 28 = .ok (.aload_n 0, 1) := by decide +kernel
theorem dX6_wantOne_29 : decode cX6_wantOne 29 = .ok (.invokevirtual 127, 3) := by decide +kernel
theorem dX6_wantOne_32 : decode cX6_wantOne 32 = .ok (.aload_n 0, 1) := by decide +kernel
theorem dX6_wantOne_33 : decode cX6_wantOne 33 = .ok (.ldc2_w 133, 3) := by decide +kernel
theorem dX6_wantOne_36 : decode cX6_wantOne 36 = .ok (.invokevirtual 135, 3) := by decide +kernel
theorem dX6_wantOne_39 : decode cX6_wantOne 39 = .ok (.ifCond .eq 13, 3) := by decide +kernel
theorem dX6_wantOne_42 : decode cX6_wantOne 42 = .ok (.aload_n 0, 1) := by decide +kernel
theorem dX6_wantOne_43 : decode cX6_wantOne 43 = .ok (.iconst 0, 1) := by decide +kernel
theorem dX6_wantOne_44 : decode cX6_wantOne 44 = .ok (.bipush 99, 2) := by decide +kernel
theorem dX6_wantOne_46 : decode cX6_wantOne 46 = .ok (.invokevirtual 138, 3) := by decide +kernel
theorem dX6_wantOne_49 : decode cX6_wantOne 49 = .ok (.goto 4, 3) := by decide +kernel
theorem dX6_wantOne_52 : decode cX6_wantOne 52 = .ok (.iconst 3, 1) := by decide +kernel
theorem dX6_wantOne_53 : decode cX6_wantOne 53 = .ok (.istore_n 2, 1) := by decide +kernel
theorem dX6_wantOne_54 : decode cX6_wantOne 54 = .ok (.aload_n 0, 1) := by decide +kernel
theorem dX6_wantOne_55 : decode cX6_wantOne 55 = .ok (.ldc2_w 142, 3) := by decide +kernel
theorem dX6_wantOne_58 : decode cX6_wantOne 58 = .ok (.invokevirtual 135, 3) := by decide +kernel
theorem dX6_wantOne_61 : decode cX6_wantOne 61 = .ok (.ifCond .eq 14, 3) := by decide +kernel
theorem dX6_wantOne_64 : decode cX6_wantOne 64 = .ok (.aload_n 0, 1) := by decide +kernel
theorem dX6_wantOne_65 : decode cX6_wantOne 65 = .ok (.iconst 0, 1) := by decide +kernel
theorem dX6_wantOne_66 : decode cX6_wantOne 66 = .ok (.sipush 255, 3) := by decide +kernel
theorem dX6_wantOne_69 : decode cX6_wantOne 69 = .ok (.invokevirtual 138, 3) := by decide +kernel
theorem dX6_wantOne_72 : decode cX6_wantOne 72 = .ok (.goto 6, 3) := by decide +kernel
theorem dX6_wantOne_75 : decode cX6_wantOne 75 = .ok (.sipush 255, 3) := by decide +kernel
theorem dX6_wantOne_78 : decode cX6_wantOne 78 = .ok (.istore_n 3, 1) := by decide +kernel
theorem dX6_wantOne_79 : decode cX6_wantOne 79 = .ok (.aload_n 0, 1) := by decide +kernel
theorem dX6_wantOne_80 : decode cX6_wantOne 80 = .ok (.invokevirtual 144, 3) := by decide +kernel
theorem dX6_wantOne_83 : decode cX6_wantOne 83 = .ok (.aload_n 0, 1) := by decide +kernel
theorem dX6_wantOne_84 : decode cX6_wantOne 84 = .ok (.getfield 123, 3) := by decide +kernel
theorem dX6_wantOne_87 : decode cX6_wantOne 87 = .ok (.ifCond .eq 66, 3) := by decide +kernel
theorem dX6_wantOne_90 : decode cX6_wantOne 90 = .ok (.bipush 44, 2) := by decide +kernel
theorem dX6_wantOne_92 : decode cX6_wantOne 92 = .ok (.iconst 4, 1) := by decide +kernel
theorem dX6_wantOne_93 : decode cX6_wantOne 93 = .ok (.aload_n 0, 1) := by decide +kernel
theorem dX6_wantOne_94 : decode cX6_wantOne 94 = .ok (.getfield 13, 3) := by decide +kernel
theorem dX6_wantOne_97 : decode cX6_wantOne 97 = .ok (.bipush 6, 2) := by decide +kernel
theorem dX6_wantOne_99 : decode cX6_wantOne 99 = .ok (.iaload, 1) := by decide +kernel
theorem dX6_wantOne_100 : decode cX6_wantOne 100 = .ok (.imul, 1) := by decide +kernel
theorem dX6_wantOne_101 : decode cX6_wantOne 101 = .ok (.iadd, 1) := by decide +kernel
theorem dX6_wantOne_102 : decode cX6_wantOne 102 = .ok (.istore 4, 2) := by decide +kernel
theorem dX6_wantOne_104 : decode cX6_wantOne 104 = .ok (.aload_n 0, 1) := by decide +kernel
theorem dX6_wantOne_105 : decode cX6_wantOne 105 = .ok (.getfield 13, 3) := by decide +kernel
theorem dX6_wantOne_108 : decode cX6_wantOne 108 = .ok (.iload 4, 2) := by decide +kernel
theorem dX6_wantOne_110 : decode cX6_wantOne 110 = .ok (.iload_n 1, 1) := by decide +kernel
theorem dX6_wantOne_111 : decode cX6_wantOne 111 = .ok (.iastore, 1) := by decide +kernel
theorem dX6_wantOne_112 : decode cX6_wantOne 112 = .ok (.aload_n 0, 1) := by decide +kernel
theorem dX6_wantOne_113 : decode cX6_wantOne 113 = .ok (.getfield 13, 3) := by decide +kernel
theorem dX6_wantOne_116 : decode cX6_wantOne 116 = .ok (.iload 4, 2) := by decide +kernel
theorem dX6_wantOne_118 : decode cX6_wantOne 118 = .ok (.iconst 1, 1) := by decide +kernel
theorem dX6_wantOne_119 : decode cX6_wantOne 119 = .ok (.iadd, 1) := by decide +kernel
theorem dX6_wantOne_120 : decode cX6_wantOne 120 = .ok (.iload_n 2, 1) := by decide +kernel
theorem dX6_wantOne_121 : decode cX6_wantOne 121 = .ok (.iastore, 1) := by decide +kernel
theorem dX6_wantOne_122 : decode cX6_wantOne 122 = .ok (.aload_n 0, 1) := by decide +kernel
theorem dX6_wantOne_123 : decode cX6_wantOne 123 = .ok (.getfield 13, 3) := by decide +kernel
theorem dX6_wantOne_126 : decode cX6_wantOne 126 = .ok (.iload 4, 2) := by decide +kernel
theorem dX6_wantOne_128 : decode cX6_wantOne 128 = .ok (.iconst 2, 1) := by decide +kernel
theorem dX6_wantOne_129 : decode cX6_wantOne 129 = .ok (.iadd, 1) := by decide +kernel
theorem dX6_wantOne_130 : decode cX6_wantOne 130 = .ok (.iload_n 3, 1) := by decide +kernel
theorem dX6_wantOne_131 : decode cX6_wantOne 131 = .ok (.iastore, 1) := by decide +kernel
theorem dX6_wantOne_132 : decode cX6_wantOne 132 = .ok (.aload_n 0, 1) := by decide +kernel
theorem dX6_wantOne_133 : decode cX6_wantOne 133 = .ok (.getfield 13, 3) := by decide +kernel
theorem dX6_wantOne_136 : decode cX6_wantOne 136 = .ok (.iload 4, 2) := by decide +kernel
theorem dX6_wantOne_138 : decode cX6_wantOne 138 = .ok (.iconst 3, 1) := by decide +kernel
theorem dX6_wantOne_139 : decode cX6_wantOne 139 = .ok (.iadd, 1) := by decide +kernel
theorem dX6_wantOne_140 : decode cX6_wantOne 140 = .ok (.iconst 0, 1) := by decide +kernel
theorem dX6_wantOne_141 : decode cX6_wantOne 141 = .ok (.iastore, 1) := by decide +kernel
theorem dX6_wantOne_142 : decode cX6_wantOne 142 = .ok (.aload_n 0, 1) := by decide +kernel
theorem dX6_wantOne_143 : decode cX6_wantOne 143 = .ok (.getfield 13, 3) := by decide +kernel
theorem dX6_wantOne_146 : decode cX6_wantOne 146 = .ok (.bipush 6, 2) := by decide +kernel
theorem dX6_wantOne_148 : decode cX6_wantOne 148 = .ok (.dup2, 1) := by decide +kernel
theorem dX6_wantOne_149 : decode cX6_wantOne 149 = .ok (.iaload, 1) := by decide +kernel
theorem dX6_wantOne_150 : decode cX6_wantOne 150 = .ok (.iconst 1, 1) := by decide +kernel
theorem dX6_wantOne_151 : decode cX6_wantOne 151 = .ok (.iadd, 1) := by decide +kernel
theorem dX6_wantOne_152 : decode cX6_wantOne 152 = .ok (.iastore, 1) := by decide +kernel
theorem dX6_wantOne_153 : decode cX6_wantOne 153 = .ok (.return_, 1) := by decide +kernel
theorem dX6_wantSaying_0 : decode cX6_wantSaying 0 = .ok (.aload_n 0, 1) := by decide +kernel
theorem dX6_wantSaying_1 : decode cX6_wantSaying 1 = .ok (.aload_n 0, 1) := by decide +kernel
theorem dX6_wantSaying_2 : decode cX6_wantSaying 2 = .ok (.getfield 13, 3) := by decide +kernel
theorem dX6_wantSaying_5 : decode cX6_wantSaying 5 = .ok (.iconst 5, 1) := by decide +kernel
theorem dX6_wantSaying_6 : decode cX6_wantSaying 6 = .ok (.iaload, 1) := by decide +kernel
theorem dX6_wantSaying_7 : decode cX6_wantSaying 7 = .ok (.bipush 12, 2) := by decide +kernel
theorem dX6_wantSaying_9 : decode cX6_wantSaying 9 = .ok (.if_icmp .ge 7, 3) := by decide +kernel
theorem dX6_wantSaying_12 : decode cX6_wantSaying 12 = .ok (.iconst 1, 1) := by decide +kernel
theorem dX6_wantSaying_13 : decode cX6_wantSaying 13 = .ok (.goto 4, 3) := by decide +kernel
theorem dX6_wantSaying_16 : decode cX6_wantSaying 16 = .ok (.iconst 0, 1) := by decide +kernel
theorem dX6_wantSaying_17 : decode cX6_wantSaying 17 = .ok (.putfield 123, 3) := by decide +kernel
theorem dX6_wantSaying_20 : decode cX6_wantSaying 20 = .ok (.aload_n 0, 1) := by decide +kernel
theorem dX6_wantSaying_21 : decode cX6_wantSaying 21 = .ok (.getfield 123, 3) := by decide +kernel
theorem dX6_wantSaying_24 : decode cX6_wantSaying 24 = .ok (.ifCond .eq 7, 3) := by decide +kernel
theorem dX6_wantSaying_27 : decode cX6_wantSaying 27 = .ok (.aload_n 0, 1) := by decide +kernel
theorem dX6_wantSaying_28 : decode cX6_wantSaying 28 = .ok (.invokevirtual 127, 3) := by decide +kernel
theorem dX6_wantSaying_31 : decode cX6_wantSaying 31 = .ok (.aload_n 0, 1) := by decide +kernel
theorem dX6_wantSaying_32 : decode cX6_wantSaying 32 = .ok (.iconst 0, 1) := by decide +kernel
theorem dX6_wantSaying_33 : decode cX6_wantSaying 33 = .ok (.bipush 7, 2) := by decide +kernel
theorem dX6_wantSaying_35 : decode cX6_wantSaying 35 = .ok (.invokevirtual 138, 3) := by decide +kernel
theorem dX6_wantSaying_38 : decode cX6_wantSaying 38 = .ok (.istore_n 1, 1) := by decide +kernel
theorem dX6_wantSaying_39 : decode cX6_wantSaying 39 = .ok (.aload_n 0, 1) := by decide +kernel
theorem dX6_wantSaying_40 : decode cX6_wantSaying 40 = .ok (.ldc2_w 147, 3) := by decide +kernel
theorem dX6_wantSaying_43 : decode cX6_wantSaying 43 = .ok (.invokevirtual 135, 3) := by decide +kernel
theorem dX6_wantSaying_46 : decode cX6_wantSaying 46 = .ok (.ifCond .eq 13, 3) := by decide +kernel
theorem dX6_wantSaying_49 : decode cX6_wantSaying 49 = .ok (.aload_n 0, 1) := by decide +kernel
theorem dX6_wantSaying_50 : decode cX6_wantSaying 50 = .ok (.iconst 0, 1) := by decide +kernel
theorem dX6_wantSaying_51 : decode cX6_wantSaying 51 = .ok (.bipush 9, 2) := by decide +kernel
theorem dX6_wantSaying_53 : decode cX6_wantSaying 53 = .ok (.invokevirtual 138, 3) := by decide +kernel
theorem dX6_wantSaying_56 : decode cX6_wantSaying 56 = .ok (.goto 4, 3) := by decide +kernel
theorem dX6_wantSaying_59 : decode cX6_wantSaying 59 = .ok (.iconst 5, 1) := by decide +kernel
theorem dX6_wantSaying_60 : decode cX6_wantSaying 60 = .ok (.istore_n 2, 1) := by decide +kernel
theorem dX6_wantSaying_61 : decode cX6_wantSaying 61 = .ok (.aload_n 0, 1) := by decide +kernel
theorem dX6_wantSaying_62 : decode cX6_wantSaying 62 = .ok (.ldc2_w 149, 3) := by decide +kernel
theorem dX6_wantSaying_65 : decode cX6_wantSaying 65 = .ok (.invokevirtual 135, 3) := by decide +kernel
theorem dX6_wantSaying_68 : decode cX6_wantSaying 68 = .ok (.ifCond .eq 7, 3) := by decide +kernel
theorem dX6_wantSaying_71 : decode cX6_wantSaying 71 = .ok (.iconst 1, 1) := by decide +kernel
theorem dX6_wantSaying_72 : decode cX6_wantSaying 72 = .ok (.goto 4, 3) := by decide +kernel
theorem dX6_wantSaying_75 : decode cX6_wantSaying 75 = .ok (.iconst 0, 1) := by decide +kernel
theorem dX6_wantSaying_76 : decode cX6_wantSaying 76 = .ok (.istore_n 3, 1) := by decide +kernel
theorem dX6_wantSaying_77 : decode cX6_wantSaying 77 = .ok (.aload_n 0, 1) := by decide +kernel
theorem dX6_wantSaying_78 : decode cX6_wantSaying 78 = .ok (.invokevirtual 144, 3) := by decide +kernel
theorem dX6_wantSaying_81 : decode cX6_wantSaying 81 = .ok (.aload_n 0, 1) := by decide +kernel
theorem dX6_wantSaying_82 : decode cX6_wantSaying 82 = .ok (.getfield 123, 3) := by decide +kernel
theorem dX6_wantSaying_85 : decode cX6_wantSaying 85 = .ok (.ifCond .eq 54, 3) := by decide +kernel
theorem dX6_wantSaying_88 : decode cX6_wantSaying 88 = .ok (.bipush 8, 2) := by decide +kernel
theorem dX6_wantSaying_90 : decode cX6_wantSaying 90 = .ok (.iconst 3, 1) := by decide +kernel
theorem dX6_wantSaying_91 : decode cX6_wantSaying 91 = .ok (.aload_n 0, 1) := by decide +kernel
theorem dX6_wantSaying_92 : decode cX6_wantSaying 92 = .ok (.getfield 13, 3) := by decide +kernel
theorem dX6_wantSaying_95 : decode cX6_wantSaying 95 = .ok (.iconst 5, 1) := by decide +kernel
theorem dX6_wantSaying_96 : decode cX6_wantSaying 96 = .ok (.iaload, 1) := by decide +kernel
theorem dX6_wantSaying_97 : decode cX6_wantSaying 97 = .ok (.imul, 1) := by decide +kernel
theorem dX6_wantSaying_98 : decode cX6_wantSaying 98 = .ok (.iadd, 1) := by decide +kernel
theorem dX6_wantSaying_99 : decode cX6_wantSaying 99 = .ok (.istore 4, 2) := by decide +kernel
theorem dX6_wantSaying_101 : decode cX6_wantSaying 101 = .ok (.aload_n 0, 1) := by decide +kernel
theorem dX6_wantSaying_102 : decode cX6_wantSaying 102 = .ok (.getfield 13, 3) := by decide +kernel
theorem dX6_wantSaying_105 : decode cX6_wantSaying 105 = .ok (.iload 4, 2) := by decide +kernel
theorem dX6_wantSaying_107 : decode cX6_wantSaying 107 = .ok (.iload_n 1, 1) := by decide +kernel
theorem dX6_wantSaying_108 : decode cX6_wantSaying 108 = .ok (.iastore, 1) := by decide +kernel
theorem dX6_wantSaying_109 : decode cX6_wantSaying 109 = .ok (.aload_n 0, 1) := by decide +kernel
theorem dX6_wantSaying_110 : decode cX6_wantSaying 110 = .ok (.getfield 13, 3) := by decide +kernel
theorem dX6_wantSaying_113 : decode cX6_wantSaying 113 = .ok (.iload 4, 2) := by decide +kernel
theorem dX6_wantSaying_115 : decode cX6_wantSaying 115 = .ok (.iconst 1, 1) := by decide +kernel
theorem dX6_wantSaying_116 : decode cX6_wantSaying 116 = .ok (.iadd, 1) := by decide +kernel
theorem dX6_wantSaying_117 : decode cX6_wantSaying 117 = .ok (.iload_n 2, 1) := by decide +kernel
theorem dX6_wantSaying_118 : decode cX6_wantSaying 118 = .ok (.iastore, 1) := by decide +kernel
theorem dX6_wantSaying_119 : decode cX6_wantSaying 119 = .ok (.aload_n 0, 1) := by decide +kernel
theorem dX6_wantSaying_120 : decode cX6_wantSaying 120 = .ok (.getfield 13, 3) := by decide +kernel
theorem dX6_wantSaying_123 : decode cX6_wantSaying 123 = .ok (.iload 4, 2) := by decide +kernel
theorem dX6_wantSaying_125 : decode cX6_wantSaying 125 = .ok (.iconst 2, 1) := by decide +kernel
theorem dX6_wantSaying_126 : decode cX6_wantSaying 126 = .ok (.iadd, 1) := by decide +kernel
theorem dX6_wantSaying_127 : decode cX6_wantSaying 127 = .ok (.iload_n 3, 1) := by decide +kernel
theorem dX6_wantSaying_128 : decode cX6_wantSaying 128 = .ok (.iastore, 1) := by decide +kernel
theorem dX6_wantSaying_129 : decode cX6_wantSaying 129 = .ok (.aload_n 0, 1) := by decide +kernel
theorem dX6_wantSaying_130 : decode cX6_wantSaying 130 = .ok (.getfield 13, 3) := by decide +kernel
theorem dX6_wantSaying_133 : decode cX6_wantSaying 133 = .ok (.iconst 5, 1) := by decide +kernel
theorem dX6_wantSaying_134 : decode cX6_wantSaying 134 = .ok (.dup2, 1) := by decide +kernel
theorem dX6_wantSaying_135 : decode cX6_wantSaying 135 = .ok (.iaload, 1) := by decide +kernel
theorem dX6_wantSaying_136 : decode cX6_wantSaying 136 = .ok (.iconst 1, 1) := by decide +kernel
theorem dX6_wantSaying_137 : decode cX6_wantSaying 137 = .ok (.iadd, 1) := by decide +kernel
theorem dX6_wantSaying_138 : decode cX6_wantSaying 138 = .ok (.iastore, 1) := by decide +kernel
theorem dX6_wantSaying_139 : decode cX6_wantSaying 139 = .ok (.return_, 1) := by decide +kernel
theorem dX6_wantClause_0 : decode cX6_wantClause 0 = .ok (.aload_n 0, 1) := by decide +kernel
theorem dX6_wantClause_1 : decode cX6_wantClause 1 = .ok (.invokevirtual 151, 3) := by decide +kernel
theorem dX6_wantClause_4 : decode cX6_wantClause 4 = .ok (.istore_n 1, 1) := by decide +kernel
theorem dX6_wantClause_5 : decode cX6_wantClause 5 = .ok (.aload_n 0, 1) := by decide +kernel
theorem dX6_wantClause_6 : decode cX6_wantClause 6 = .ok (.invokevirtual 155, 3) := by decide +kernel
theorem dX6_wantClause_9 : decode cX6_wantClause 9 = .ok (.ifCond .lt 14, 3) := by decide +kernel
theorem dX6_wantClause_12 : decode cX6_wantClause 12 = .ok (.aload_n 0, 1) := by decide +kernel
theorem dX6_wantClause_13 : decode cX6_wantClause 13 = .ok (.aload_n 0, 1) := by decide +kernel
theorem dX6_wantClause_14 : decode cX6_wantClause 14 = .ok (.invokevirtual 155, 3) := by decide +kernel
theorem dX6_wantClause_17 : decode cX6_wantClause 17 = .ok (.invokevirtual 158, 3) := by decide +kernel
theorem dX6_wantClause_20 : decode cX6_wantClause 20 = .ok (.goto 55, 3) := by decide +kernel
theorem dX6_wantClause_23 : decode cX6_wantClause 23 = .ok (.iload_n 1, 1) := by decide +kernel
theorem dX6_wantClause_24 : decode cX6_wantClause 24 = .ok (.ifCond .lt 29, 3) := by decide +kernel
theorem dX6_wantClause_27 : decode cX6_wantClause 27 = .ok (.aload_n 0, 1) := by decide +kernel
theorem dX6_wantClause_28 : decode cX6_wantClause 28 = .ok (.invokevirtual 127, 3) := by decide +kernel
theorem dX6_wantClause_31 : decode cX6_wantClause 31 = .ok (.aload_n 0, 1) := by decide +kernel
theorem dX6_wantClause_32 : decode cX6_wantClause 32 = .ok (.getfield 13, 3) := by decide +kernel
theorem dX6_wantClause_35 : decode cX6_wantClause 35 = .ok (.iload_n 1, 1) := by decide +kernel
theorem dX6_wantClause_36 : decode cX6_wantClause 36 = .ok (.aload_n 0, 1) := by decide +kernel
theorem dX6_wantClause_37 : decode cX6_wantClause 37 = .ok (.iconst 0, 1) := by decide +kernel
theorem dX6_wantClause_38 : decode cX6_wantClause 38 = .ok (.iload_n 1, 1) := by decide +kernel
theorem dX6_wantClause_39 : decode cX6_wantClause 39 = .ok (.invokestatic 162, 3) := by decide +kernel
theorem dX6_wantClause_42 : decode cX6_wantClause 42 = .ok (.invokevirtual 138, 3) := by decide +kernel
theorem dX6_wantClause_45 : decode cX6_wantClause 45 = .ok (.iastore, 1) := by decide +kernel
theorem dX6_wantClause_46 : decode cX6_wantClause 46 = .ok (.aload_n 0, 1) := by decide +kernel
theorem dX6_wantClause_47 : decode cX6_wantClause 47 = .ok (.invokevirtual 144, 3) := by decide +kernel
theorem dX6_wantClause_50 : decode cX6_wantClause 50 = .ok (.goto 25, 3) := by decide +kernel
theorem dX6_wantClause_53 : decode cX6_wantClause 53 = .ok (.aload_n 0, 1) := by decide +kernel
theorem dX6_wantClause_54 : decode cX6_wantClause 54 = .ok (.ldc2_w 165, 3) := by decide +kernel
theorem dX6_wantClause_57 : decode cX6_wantClause 57 = .ok (.invokevirtual 101, 3) := by decide +kernel
theorem dX6_wantClause_60 : decode cX6_wantClause 60 = .ok (.ifCond .eq 10, 3) := by decide +kernel
theorem dX6_wantClause_63 : decode cX6_wantClause 63 = .ok (.aload_n 0, 1) := by decide +kernel
theorem dX6_wantClause_64 : decode cX6_wantClause 64 = .ok (.invokevirtual 167, 3) := by decide +kernel
theorem dX6_wantClause_67 : decode cX6_wantClause 67 = .ok (.goto 8, 3) := by decide +kernel
theorem dX6_wantClause_70 : decode cX6_wantClause 70 = .ok (.aload_n 0, 1) := by decide +kernel
theorem dX6_wantClause_71 : decode cX6_wantClause 71 = .ok (.iconst 0, 1) := by decide +kernel
theorem dX6_wantClause_72 : decode cX6_wantClause 72 = .ok (.putfield 123, 3) := by decide +kernel
theorem dX6_wantClause_75 : decode cX6_wantClause 75 = .ok (.return_, 1) := by decide +kernel
theorem dX6_court_0 : decode cX6_court 0 = .ok (.aload_n 0, 1) := by decide +kernel
theorem dX6_court_1 : decode cX6_court 1 = .ok (.iconst 0, 1) := by decide +kernel
theorem dX6_court_2 : decode cX6_court 2 = .ok (.putfield 67, 3) := by decide +kernel
theorem dX6_court_5 : decode cX6_court 5 = .ok (.aload_n 0, 1) := by decide +kernel
theorem dX6_court_6 : decode cX6_court 6 = .ok (.iconst 1, 1) := by decide +kernel
theorem dX6_court_7 : decode cX6_court 7 = .ok (.putfield 123, 3) := by decide +kernel
theorem dX6_court_10 : decode cX6_court 10 = .ok (.aload_n 0, 1) := by decide +kernel
theorem dX6_court_11 : decode cX6_court 11 = .ok (.getfield 13, 3) := by decide +kernel
theorem dX6_court_14 : decode cX6_court 14 = .ok (.invokestatic 53, 3) := by decide +kernel
theorem dX6_court_17 : decode cX6_court 17 = .ok (.aload_n 0, 1) := by decide +kernel
theorem dX6_court_18 : decode cX6_court 18 = .ok (.invokevirtual 127, 3) := by decide +kernel
theorem dX6_court_21 : decode cX6_court 21 = .ok (.aload_n 0, 1) := by decide +kernel
theorem dX6_court_22 : decode cX6_court 22 = .ok (.getfield 123, 3) := by decide +kernel
theorem dX6_court_25 : decode cX6_court 25 = .ok (.ifCond .eq 17, 3) := by decide +kernel
theorem dX6_court_28 : decode cX6_court 28 = .ok (.aload_n 0, 1) := by decide +kernel
theorem dX6_court_29 : decode cX6_court 29 = .ok (.getfield 83, 3) := by decide +kernel
theorem dX6_court_32 : decode cX6_court 32 = .ok (.ifCond .eq 10, 3) := by decide +kernel
theorem dX6_court_35 : decode cX6_court 35 = .ok (.aload_n 0, 1) := by decide +kernel
theorem dX6_court_36 : decode cX6_court 36 = .ok (.invokevirtual 170, 3) := by decide +kernel
theorem dX6_court_39 : decode cX6_court 39 = .ok (.goto (-18), 3) := by decide +kernel
theorem dX6_court_42 : decode cX6_court 42 = .ok (.aload_n 0, 1) := by decide +kernel
theorem dX6_court_43 : decode cX6_court 43 = .ok (.iconst 0, 1) := by decide +kernel
theorem dX6_court_44 : decode cX6_court 44 = .ok (.putfield 61, 3) := by decide +kernel
theorem dX6_court_47 : decode cX6_court 47 = .ok (.aload_n 0, 1) := by decide +kernel
theorem dX6_court_48 : decode cX6_court 48 = .ok (.getfield 123, 3) := by decide +kernel
theorem dX6_court_51 : decode cX6_court 51 = .ok (.ifCond .ne 11, 3) := by decide +kernel
theorem dX6_court_54 : decode cX6_court 54 = .ok (.bipush (-100), 2) := by decide +kernel
theorem dX6_court_56 : decode cX6_court 56 = .ok (.aload_n 0, 1) := by decide +kernel
theorem dX6_court_57 : decode cX6_court 57 = .ok (.getfield 70, 3) := by decide +kernel
theorem dX6_court_60 : decode cX6_court 60 = .ok (.isub, 1) := by decide +kernel
theorem dX6_court_61 : decode cX6_court 61 = .ok (.ireturn, 1) := by decide +kernel
theorem dX6_court_62 : decode cX6_court 62 = .ok (.aload_n 0, 1) := by decide +kernel
theorem dX6_court_63 : decode cX6_court 63 = .ok (.getfield 13, 3) := by decide +kernel
theorem dX6_court_66 : decode cX6_court 66 = .ok (.bipush 7, 2) := by decide +kernel
theorem dX6_court_68 : decode cX6_court 68 = .ok (.aload_n 0, 1) := by decide +kernel
theorem dX6_court_69 : decode cX6_court 69 = .ok (.getfield 7, 3) := by decide +kernel
theorem dX6_court_72 : decode cX6_court 72 = .ok (.bipush 7, 2) := by decide +kernel
theorem dX6_court_74 : decode cX6_court 74 = .ok (.iaload, 1) := by decide +kernel
theorem dX6_court_75 : decode cX6_court 75 = .ok (.iastore, 1) := by decide +kernel
theorem dX6_court_76 : decode cX6_court 76 = .ok (.aload_n 0, 1) := by decide +kernel
theorem dX6_court_77 : decode cX6_court 77 = .ok (.getfield 13, 3) := by decide +kernel
theorem dX6_court_80 : decode cX6_court 80 = .ok (.aload_n 0, 1) := by decide +kernel
theorem dX6_court_81 : decode cX6_court 81 = .ok (.getfield 7, 3) := by decide +kernel
theorem dX6_court_84 : decode cX6_court 84 = .ok (.invokestatic 173, 3) := by decide +kernel
theorem dX6_court_87 : decode cX6_court 87 = .ok (.aload_n 0, 1) := by decide +kernel
theorem dX6_court_88 : decode cX6_court 88 = .ok (.iconst 0, 1) := by decide +kernel
theorem dX6_court_89 : decode cX6_court 89 = .ok (.putfield 177, 3) := by decide +kernel
theorem dX6_court_92 : decode cX6_court 92 = .ok (.aload_n 0, 1) := by decide +kernel
theorem dX6_court_93 : decode cX6_court 93 = .ok (.getfield 7, 3) := by decide +kernel
theorem dX6_court_96 : decode cX6_court 96 = .ok (.bipush 6, 2) := by decide +kernel
theorem dX6_court_98 : decode cX6_court 98 = .ok (.iaload, 1) := by decide +kernel
theorem dX6_court_99 : decode cX6_court 99 = .ok (.ireturn, 1) := by decide +kernel
theorem dX6_mostOf_0 : decode cX6_mostOf 0 = .ok (.iload_n 0, 1) := by decide +kernel
theorem dX6_mostOf_1 : decode cX6_mostOf 1 = .ok (.iconst 3, 1) := by decide +kernel
theorem dX6_mostOf_2 : decode cX6_mostOf 2 = .ok (.if_icmp .ne 8, 3) := by decide +kernel
theorem dX6_mostOf_5 : decode cX6_mostOf 5 = .ok (.bipush 99, 2) := by decide +kernel
theorem dX6_mostOf_7 : decode cX6_mostOf 7 = .ok (.goto 5, 3) := by decide +kernel
theorem dX6_mostOf_10 : decode cX6_mostOf 10 = .ok (.bipush 9, 2) := by decide +kernel
theorem dX6_mostOf_12 : decode cX6_mostOf 12 = .ok (.ireturn, 1) := by decide +kernel
theorem dX6_set_0 : decode cX6_set 0 = .ok (.iload_n 1, 1) := by decide +kernel
theorem dX6_set_1 : decode cX6_set 1 = .ok (.iconst 0, 1) := by decide +kernel
theorem dX6_set_2 : decode cX6_set 2 = .ok (.iconst 3, 1) := by decide +kernel
theorem dX6_set_3 : decode cX6_set 3 = .ok (.invokestatic 57, 3) := by decide +kernel
theorem dX6_set_6 : decode cX6_set 6 = .ok (.ifCond .eq 24, 3) := by decide +kernel
theorem dX6_set_9 : decode cX6_set 9 = .ok (.iload_n 2, 1) := by decide +kernel
theorem dX6_set_10 : decode cX6_set 10 = .ok (.iconst 0, 1) := by decide +kernel
theorem dX6_set_11 : decode cX6_set 11 = .ok (.iload_n 1, 1) := by decide +kernel
theorem dX6_set_12 : decode cX6_set 12 = .ok (.invokestatic 162, 3) := by decide +kernel
theorem dX6_set_15 : decode cX6_set 15 = .ok (.invokestatic 57, 3) := by decide +kernel
theorem dX6_set_18 : decode cX6_set 18 = .ok (.ifCond .eq 12, 3) := by decide +kernel
theorem dX6_set_21 : decode cX6_set 21 = .ok (.aload_n 0, 1) := by decide +kernel
theorem dX6_set_22 : decode cX6_set 22 = .ok (.iload_n 1, 1) := by decide +kernel
theorem dX6_set_23 : decode cX6_set 23 = .ok (.iload_n 2, 1) := by decide +kernel
theorem dX6_set_24 : decode cX6_set 24 = .ok (.invokevirtual 180, 3) := by decide +kernel
theorem dX6_set_27 : decode cX6_set 27 = .ok (.goto 4, 3) := by decide +kernel
theorem dX6_set_30 : decode cX6_set 30 = .ok (.iconst (-1), 1) := by decide +kernel
theorem dX6_set_31 : decode cX6_set 31 = .ok (.ireturn, 1) := by decide +kernel
theorem dX6_lawOf_0 : decode cX6_lawOf 0 = .ok (.iload_n 1, 1) := by decide +kernel
theorem dX6_lawOf_1 : decode cX6_lawOf 1 = .ok (.iconst 0, 1) := by decide +kernel
theorem dX6_lawOf_2 : decode cX6_lawOf 2 = .ok (.iconst 3, 1) := by decide +kernel
theorem dX6_lawOf_3 : decode cX6_lawOf 3 = .ok (.invokestatic 57, 3) := by decide +kernel
theorem dX6_lawOf_6 : decode cX6_lawOf 6 = .ok (.ifCond .eq 12, 3) := by decide +kernel
theorem dX6_lawOf_9 : decode cX6_lawOf 9 = .ok (.aload_n 0, 1) := by decide +kernel
theorem dX6_lawOf_10 : decode cX6_lawOf 10 = .ok (.getfield 7, 3) := by decide +kernel
theorem dX6_lawOf_13 : decode cX6_lawOf 13 = .ok (.iload_n 1, 1) := by decide +kernel
theorem dX6_lawOf_14 : decode cX6_lawOf 14 = .ok (.iaload, 1) := by decide +kernel
theorem dX6_lawOf_15 : decode cX6_lawOf 15 = .ok (.goto 4, 3) := by decide +kernel
theorem dX6_lawOf_18 : decode cX6_lawOf 18 = .ok (.iconst (-1), 1) := by decide +kernel
theorem dX6_lawOf_19 : decode cX6_lawOf 19 = .ok (.ireturn, 1) := by decide +kernel
theorem dX6_isWords_0 : decode cX6_isWords 0 = .ok (.iload_n 0, 1) := by decide +kernel
theorem dX6_isWords_1 : decode cX6_isWords 1 = .ok (.ifCond .ne 13, 3) := by decide +kernel
theorem dX6_isWords_4 : decode cX6_isWords 4 = .ok (.iload_n 1, 1) := by decide +kernel
theorem dX6_isWords_5 : decode cX6_isWords 5 = .ok (.iconst 0, 1) := by decide +kernel
theorem dX6_isWords_6 : decode cX6_isWords 6 = .ok (.bipush 7, 2) := by decide +kernel
theorem dX6_isWords_8 : decode cX6_isWords 8 = .ok (.invokestatic 57, 3) := by decide +kernel
theorem dX6_isWords_11 : decode cX6_isWords 11 = .ok (.goto 37, 3) := by decide +kernel
theorem dX6_isWords_14 : decode cX6_isWords 14 = .ok (.iload_n 0, 1) := by decide +kernel
theorem dX6_isWords_15 : decode cX6_isWords 15 = .ok (.iconst 1, 1) := by decide +kernel
theorem dX6_isWords_16 : decode cX6_isWords 16 = .ok (.if_icmp .ne 13, 3) := by decide +kernel
theorem dX6_isWords_19 : decode cX6_isWords 19 = .ok (.iload_n 1, 1) := by decide +kernel
theorem dX6_isWords_20 : decode cX6_isWords 20 = .ok (.iconst 0, 1) := by decide +kernel
theorem dX6_isWords_21 : decode cX6_isWords 21 = .ok (.bipush 9, 2) := by decide +kernel
theorem dX6_isWords_23 : decode cX6_isWords 23 = .ok (.invokestatic 57, 3) := by decide +kernel
theorem dX6_isWords_26 : decode cX6_isWords 26 = .ok (.goto 22, 3) := by decide +kernel
theorem dX6_isWords_29 : decode cX6_isWords 29 = .ok (.iload_n 0, 1) := by decide +kernel
theorem dX6_isWords_30 : decode cX6_isWords 30 = .ok (.iconst 2, 1) := by decide +kernel
theorem dX6_isWords_31 : decode cX6_isWords 31 = .ok (.if_icmp .ne 16, 3) := by decide +kernel
theorem dX6_isWords_34 : decode cX6_isWords 34 = .ok (.iload_n 1, 1) := by decide +kernel
theorem dX6_isWords_35 : decode cX6_isWords 35 = .ok (.iconst 0, 1) := by decide +kernel
theorem dX6_isWords_36 : decode cX6_isWords 36 = .ok (.iconst 1, 1) := by decide +kernel
theorem dX6_isWords_37 : decode cX6_isWords 37 = .ok (.invokestatic 57, 3) := by decide +kernel
theorem dX6_isWords_40 : decode cX6_isWords 40 = .ok (.ifCond .eq 7, 3) := by decide +kernel
theorem dX6_isWords_43 : decode cX6_isWords 43 = .ok (.iconst 1, 1) := by decide +kernel
theorem dX6_isWords_44 : decode cX6_isWords 44 = .ok (.goto 4, 3) := by decide +kernel
theorem dX6_isWords_47 : decode cX6_isWords 47 = .ok (.iconst 0, 1) := by decide +kernel
theorem dX6_isWords_48 : decode cX6_isWords 48 = .ok (.ireturn, 1) := by decide +kernel
theorem dX6_saying_0 : decode cX6_saying 0 = .ok (.iconst 0, 1) := by decide +kernel
theorem dX6_saying_1 : decode cX6_saying 1 = .ok (.iload_n 1, 1) := by decide +kernel
theorem dX6_saying_2 : decode cX6_saying 2 = .ok (.invokestatic 183, 3) := by decide +kernel
theorem dX6_saying_5 : decode cX6_saying 5 = .ok (.ifCond .eq 19, 3) := by decide +kernel
theorem dX6_saying_8 : decode cX6_saying 8 = .ok (.iconst 1, 1) := by decide +kernel
theorem dX6_saying_9 : decode cX6_saying 9 = .ok (.iload_n 2, 1) := by decide +kernel
theorem dX6_saying_10 : decode cX6_saying 10 = .ok (.invokestatic 183, 3) := by decide +kernel
theorem dX6_saying_13 : decode cX6_saying 13 = .ok (.ifCond .eq 11, 3) := by decide +kernel
theorem dX6_saying_16 : decode cX6_saying 16 = .ok (.iconst 2, 1) := by decide +kernel
theorem dX6_saying_17 : decode cX6_saying 17 = .ok (.iload_n 3, 1) := by decide +kernel
theorem dX6_saying_18 : decode cX6_saying 18 = .ok (.invokestatic 183, 3) := by decide +kernel
theorem dX6_saying_21 : decode cX6_saying 21 = .ok (.ifCond .ne 5, 3) := by decide +kernel
theorem dX6_saying_24 : decode cX6_saying 24 = .ok (.iconst (-1), 1) := by decide +kernel
theorem dX6_saying_25 : decode cX6_saying 25 = .ok (.ireturn, 1) := by decide +kernel
theorem dX6_saying_26 : decode cX6_saying 26 = .ok (.aload_n 0, 1) := by decide +kernel
theorem dX6_saying_27 : decode cX6_saying 27 = .ok (.getfield 7, 3) := by decide +kernel
theorem dX6_saying_30 : decode cX6_saying 30 = .ok (.iconst 5, 1) := by decide +kernel
theorem dX6_saying_31 : decode cX6_saying 31 = .ok (.iaload, 1) := by decide +kernel
theorem dX6_saying_32 : decode cX6_saying 32 = .ok (.bipush 12, 2) := by decide +kernel
theorem dX6_saying_34 : decode cX6_saying 34 = .ok (.if_icmp .ne 6, 3) := by decide +kernel
theorem dX6_saying_37 : decode cX6_saying 37 = .ok (.bipush (-2), 2) := by decide +kernel
theorem dX6_saying_39 : decode cX6_saying 39 = .ok (.ireturn, 1) := by decide +kernel
theorem dX6_saying_40 : decode cX6_saying 40 = .ok (.aload_n 0, 1) := by decide +kernel
theorem dX6_saying_41 : decode cX6_saying 41 = .ok (.getfield 7, 3) := by decide +kernel
theorem dX6_saying_44 : decode cX6_saying 44 = .ok (.iconst 5, 1) := by decide +kernel
theorem dX6_saying_45 : decode cX6_saying 45 = .ok (.iaload, 1) := by decide +kernel
theorem dX6_saying_46 : decode cX6_saying 46 = .ok (.istore 4, 2) := by decide +kernel
theorem dX6_saying_48 : decode cX6_saying 48 = .ok (.aload_n 0, 1) := by decide +kernel
theorem dX6_saying_49 : decode cX6_saying 49 = .ok (.getfield 7, 3) := by decide +kernel
theorem dX6_saying_52 : decode cX6_saying 52 = .ok (.bipush 8, 2) := by decide +kernel
theorem dX6_saying_54 : decode cX6_saying 54 = .ok (.iconst 3, 1) := by decide +kernel
theorem dX6_saying_55 : decode cX6_saying 55 = .ok (.iload 4, 2) := by decide +kernel
theorem dX6_saying_57 : decode cX6_saying 57 = .ok (.imul, 1) := by decide +kernel
theorem dX6_saying_58 : decode cX6_saying 58 = .ok (.iadd, 1) := by decide +kernel
theorem dX6_saying_59 : decode cX6_saying 59 = .ok (.iload_n 1, 1) := by decide +kernel
theorem dX6_saying_60 : decode cX6_saying 60 = .ok (.iastore, 1) := by decide +kernel
theorem dX6_saying_61 : decode cX6_saying 61 = .ok (.aload_n 0, 1) := by decide +kernel
theorem dX6_saying_62 : decode cX6_saying 62 = .ok (.getfield 7, 3) := by decide +kernel
theorem dX6_saying_65 : decode cX6_saying 65 = .ok (.bipush 8, 2) := by decide +kernel
theorem dX6_saying_67 : decode cX6_saying 67 = .ok (.iconst 3, 1) := by decide +kernel
theorem dX6_saying_68 : decode cX6_saying 68 = .ok (.iload 4, 2) := by decide +kernel
theorem dX6_saying_70 : decode cX6_saying 70 = .ok (.imul, 1) := by decide +kernel
theorem dX6_saying_71 : decode cX6_saying 71 = .ok (.iadd, 1) := by decide +kernel
theorem dX6_saying_72 : decode cX6_saying 72 = .ok (.iconst 1, 1) := by decide +kernel
theorem dX6_saying_73 : decode cX6_saying 73 = .ok (.iadd, 1) := by decide +kernel
theorem dX6_saying_74 : decode cX6_saying 74 = .ok (.iload_n 2, 1) := by decide +kernel
theorem dX6_saying_75 : decode cX6_saying 75 = .ok (.iastore, 1) := by decide +kernel
theorem dX6_saying_76 : decode cX6_saying 76 = .ok (.aload_n 0, 1) := by decide +kernel
theorem dX6_saying_77 : decode cX6_saying 77 = .ok (.getfield 7, 3) := by decide +kernel
theorem dX6_saying_80 : decode cX6_saying 80 = .ok (.bipush 8, 2) := by decide +kernel
theorem dX6_saying_82 : decode cX6_saying 82 = .ok (.iconst 3, 1) := by decide +kernel
theorem dX6_saying_83 : decode cX6_saying 83 = .ok (.iload 4, 2) := by decide +kernel
theorem dX6_saying_85 : decode cX6_saying 85 = .ok (.imul, 1) := by decide +kernel
theorem dX6_saying_86 : decode cX6_saying 86 = .ok (.iadd, 1) := by decide +kernel
theorem dX6_saying_87 : decode cX6_saying 87 = .ok (.iconst 2, 1) := by decide +kernel
theorem dX6_saying_88 : decode cX6_saying 88 = .ok (.iadd, 1) := by decide +kernel
theorem dX6_saying_89 : decode cX6_saying 89 = .ok (.iload_n 3, 1) := by decide +kernel
theorem dX6_saying_90 : decode cX6_saying 90 = .ok (.iastore, 1) := by decide +kernel
theorem dX6_saying_91 : decode cX6_saying 91 = .ok (.aload_n 0, 1) := by decide +kernel
theorem dX6_saying_92 : decode cX6_saying 92 = .ok (.getfield 7, 3) := by decide +kernel
theorem dX6_saying_95 : decode cX6_saying 95 = .ok (.iconst 5, 1) := by decide +kernel
theorem dX6_saying_96 : decode cX6_saying 96 = .ok (.dup2, 1) := by decide +kernel
theorem dX6_saying_97 : decode cX6_saying 97 = .ok (.iaload, 1) := by decide +kernel
theorem dX6_saying_98 : decode cX6_saying 98 = .ok (.iconst 1, 1) := by decide +kernel
theorem dX6_saying_99 : decode cX6_saying 99 = .ok (.iadd, 1) := by decide +kernel
theorem dX6_saying_100 : decode cX6_saying 100 = .ok (.iastore, 1) := by decide +kernel
theorem dX6_saying_101 : decode cX6_saying 101 = .ok (.iload 4, 2) := by decide +kernel
theorem dX6_saying_103 : decode cX6_saying 103 = .ok (.ireturn, 1) := by decide +kernel
theorem dX6_raisedBy_0 : decode cX6_raisedBy 0 = .ok (.iconst 0, 1) := by decide +kernel
theorem dX6_raisedBy_1 : decode cX6_raisedBy 1 = .ok (.istore_n 2, 1) := by decide +kernel
theorem dX6_raisedBy_2 : decode cX6_raisedBy 2 = .ok (.iconst 0, 1) := by decide +kernel
theorem dX6_raisedBy_3 : decode cX6_raisedBy 3 = .ok (.istore_n 3, 1) := by decide +kernel
theorem dX6_raisedBy_4 : decode cX6_raisedBy 4 = .ok (.iload_n 3, 1) := by decide +kernel
theorem dX6_raisedBy_5 : decode cX6_raisedBy 5 = .ok (.aload_n 0, 1) := by decide +kernel
theorem dX6_raisedBy_6 : decode cX6_raisedBy 6 = .ok (.getfield 7, 3) := by decide +kernel
theorem dX6_raisedBy_9 : decode cX6_raisedBy 9 = .ok (.bipush 6, 2) := by decide +kernel
theorem dX6_raisedBy_11 : decode cX6_raisedBy 11 = .ok (.iaload, 1) := by decide +kernel
theorem dX6_raisedBy_12 : decode cX6_raisedBy 12 = .ok (.if_icmp .ge 24, 3) := by decide +kernel
theorem dX6_raisedBy_15 : decode cX6_raisedBy 15 = .ok (.iload_n 2, 1) := by decide +kernel
theorem dX6_raisedBy_16 : decode cX6_raisedBy 16 = .ok (.aload_n 0, 1) := by decide +kernel
theorem dX6_raisedBy_17 : decode cX6_raisedBy 17 = .ok (.iload_n 3, 1) := by decide +kernel
theorem dX6_raisedBy_18 : decode cX6_raisedBy 18 = .ok (.iconst 3, 1) := by decide +kernel
theorem dX6_raisedBy_19 : decode cX6_raisedBy 19 = .ok (.invokevirtual 187, 3) := by decide +kernel
theorem dX6_raisedBy_22 : decode cX6_raisedBy 22 = .ok (.iload_n 1, 1) := by decide +kernel
theorem dX6_raisedBy_23 : decode cX6_raisedBy 23 = .ok (.ishr, 1) := by decide +kernel
theorem dX6_raisedBy_24 : decode cX6_raisedBy 24 = .ok (.iconst 1, 1) := by decide +kernel
theorem dX6_raisedBy_25 : decode cX6_raisedBy 25 = .ok (.iand, 1) := by decide +kernel
theorem dX6_raisedBy_26 : decode cX6_raisedBy 26 = .ok (.iload_n 3, 1) := by decide +kernel
theorem dX6_raisedBy_27 : decode cX6_raisedBy 27 = .ok (.ishl, 1) := by decide +kernel
theorem dX6_raisedBy_28 : decode cX6_raisedBy 28 = .ok (.ior, 1) := by decide +kernel
theorem dX6_raisedBy_29 : decode cX6_raisedBy 29 = .ok (.istore_n 2, 1) := by decide +kernel
theorem dX6_raisedBy_30 : decode cX6_raisedBy 30 = .ok (.iinc 3 1, 3) := by decide +kernel
theorem dX6_raisedBy_33 : decode cX6_raisedBy 33 = .ok (.goto (-29), 3) := by decide +kernel
theorem dX6_raisedBy_36 : decode cX6_raisedBy 36 = .ok (.iload_n 2, 1) := by decide +kernel
theorem dX6_raisedBy_37 : decode cX6_raisedBy 37 = .ok (.ireturn, 1) := by decide +kernel
theorem dX6_sayingOf_0 : decode cX6_sayingOf 0 = .ok (.aload_n 0, 1) := by decide +kernel
theorem dX6_sayingOf_1 : decode cX6_sayingOf 1 = .ok (.iload_n 1, 1) := by decide +kernel
theorem dX6_sayingOf_2 : decode cX6_sayingOf 2 = .ok (.invokevirtual 190, 3) := by decide +kernel
theorem dX6_sayingOf_5 : decode cX6_sayingOf 5 = .ok (.ifCond .eq 12, 3) := by decide +kernel
theorem dX6_sayingOf_8 : decode cX6_sayingOf 8 = .ok (.iload_n 2, 1) := by decide +kernel
theorem dX6_sayingOf_9 : decode cX6_sayingOf 9 = .ok (.iconst 0, 1) := by decide +kernel
theorem dX6_sayingOf_10 : decode cX6_sayingOf 10 = .ok (.iconst 3, 1) := by decide +kernel
theorem dX6_sayingOf_11 : decode cX6_sayingOf 11 = .ok (.invokestatic 57, 3) := by decide +kernel
theorem dX6_sayingOf_14 : decode cX6_sayingOf 14 = .ok (.ifCond .ne 5, 3) := by decide +kernel
theorem dX6_sayingOf_17 : decode cX6_sayingOf 17 = .ok (.iconst (-1), 1) := by decide +kernel
theorem dX6_sayingOf_18 : decode cX6_sayingOf 18 = .ok (.ireturn, 1) := by decide +kernel
theorem dX6_sayingOf_19 : decode cX6_sayingOf 19 = .ok (.iload_n 2, 1) := by decide +kernel
theorem dX6_sayingOf_20 : decode cX6_sayingOf 20 = .ok (.iconst 3, 1) := by decide +kernel
theorem dX6_sayingOf_21 : decode cX6_sayingOf 21 = .ok (.if_icmp .ge 12, 3) := by decide +kernel
theorem dX6_sayingOf_24 : decode cX6_sayingOf 24 = .ok (.aload_n 0, 1) := by decide +kernel
theorem dX6_sayingOf_25 : decode cX6_sayingOf 25 = .ok (.iload_n 1, 1) := by decide +kernel
theorem dX6_sayingOf_26 : decode cX6_sayingOf 26 = .ok (.iload_n 2, 1) := by decide +kernel
theorem dX6_sayingOf_27 : decode cX6_sayingOf 27 = .ok (.invokevirtual 193, 3) := by decide +kernel
theorem dX6_sayingOf_30 : decode cX6_sayingOf 30 = .ok (.goto 8, 3) := by decide +kernel
theorem dX6_sayingOf_33 : decode cX6_sayingOf 33 = .ok (.aload_n 0, 1) := by decide +kernel
theorem dX6_sayingOf_34 : decode cX6_sayingOf 34 = .ok (.iload_n 1, 1) := by decide +kernel
theorem dX6_sayingOf_35 : decode cX6_sayingOf 35 = .ok (.invokevirtual 196, 3) := by decide +kernel
theorem dX6_sayingOf_38 : decode cX6_sayingOf 38 = .ok (.ireturn, 1) := by decide +kernel
theorem dX6_alter_0 : decode cX6_alter 0 = .ok (.aload_n 0, 1) := by decide +kernel
theorem dX6_alter_1 : decode cX6_alter 1 = .ok (.iload_n 1, 1) := by decide +kernel
theorem dX6_alter_2 : decode cX6_alter 2 = .ok (.invokevirtual 190, 3) := by decide +kernel
theorem dX6_alter_5 : decode cX6_alter 5 = .ok (.ifCond .eq 27, 3) := by decide +kernel
theorem dX6_alter_8 : decode cX6_alter 8 = .ok (.iload_n 2, 1) := by decide +kernel
theorem dX6_alter_9 : decode cX6_alter 9 = .ok (.iload_n 3, 1) := by decide +kernel
theorem dX6_alter_10 : decode cX6_alter 10 = .ok (.invokestatic 183, 3) := by decide +kernel
theorem dX6_alter_13 : decode cX6_alter 13 = .ok (.ifCond .eq 19, 3) := by decide +kernel
theorem dX6_alter_16 : decode cX6_alter 16 = .ok (.aload_n 0, 1) := by decide +kernel
theorem dX6_alter_17 : decode cX6_alter 17 = .ok (.bipush 8, 2) := by decide +kernel
theorem dX6_alter_19 : decode cX6_alter 19 = .ok (.iconst 3, 1) := by decide +kernel
theorem dX6_alter_20 : decode cX6_alter 20 = .ok (.iload_n 1, 1) := by decide +kernel
theorem dX6_alter_21 : decode cX6_alter 21 = .ok (.imul, 1) := by decide +kernel
theorem dX6_alter_22 : decode cX6_alter 22 = .ok (.iadd, 1) := by decide +kernel
theorem dX6_alter_23 : decode cX6_alter 23 = .ok (.iload_n 2, 1) := by decide +kernel
theorem dX6_alter_24 : decode cX6_alter 24 = .ok (.iadd, 1) := by decide +kernel
theorem dX6_alter_25 : decode cX6_alter 25 = .ok (.iload_n 3, 1) := by decide +kernel
theorem dX6_alter_26 : decode cX6_alter 26 = .ok (.invokevirtual 180, 3) := by decide +kernel
theorem dX6_alter_29 : decode cX6_alter 29 = .ok (.goto 4, 3) := by decide +kernel
theorem dX6_alter_32 : decode cX6_alter 32 = .ok (.iconst (-1), 1) := by decide +kernel
theorem dX6_alter_33 : decode cX6_alter 33 = .ok (.ireturn, 1) := by decide +kernel
theorem dX6_isKind_0 : decode cX6_isKind 0 = .ok (.iload_n 0, 1) := by decide +kernel
theorem dX6_isKind_1 : decode cX6_isKind 1 = .ok (.iconst 0, 1) := by decide +kernel
theorem dX6_isKind_2 : decode cX6_isKind 2 = .ok (.iconst 5, 1) := by decide +kernel
theorem dX6_isKind_3 : decode cX6_isKind 3 = .ok (.invokestatic 57, 3) := by decide +kernel
theorem dX6_isKind_6 : decode cX6_isKind 6 = .ok (.ifCond .eq 18, 3) := by decide +kernel
theorem dX6_isKind_9 : decode cX6_isKind 9 = .ok (.iload_n 1, 1) := by decide +kernel
theorem dX6_isKind_10 : decode cX6_isKind 10 = .ok (.iconst 0, 1) := by decide +kernel
theorem dX6_isKind_11 : decode cX6_isKind 11 = .ok (.sipush 255, 3) := by decide +kernel
theorem dX6_isKind_14 : decode cX6_isKind 14 = .ok (.invokestatic 57, 3) := by decide +kernel
theorem dX6_isKind_17 : decode cX6_isKind 17 = .ok (.ifCond .eq 7, 3) := by decide +kernel
theorem dX6_isKind_20 : decode cX6_isKind 20 = .ok (.iconst 1, 1) := by decide +kernel
theorem dX6_isKind_21 : decode cX6_isKind 21 = .ok (.goto 4, 3) := by decide +kernel
theorem dX6_isKind_24 : decode cX6_isKind 24 = .ok (.iconst 0, 1) := by decide +kernel
theorem dX6_isKind_25 : decode cX6_isKind 25 = .ok (.ireturn, 1) := by decide +kernel
theorem dX6_hearer_0 : decode cX6_hearer 0 = .ok (.iload_n 1, 1) := by decide +kernel
theorem dX6_hearer_1 : decode cX6_hearer 1 = .ok (.iload_n 3, 1) := by decide +kernel
theorem dX6_hearer_2 : decode cX6_hearer 2 = .ok (.invokestatic 199, 3) := by decide +kernel
theorem dX6_hearer_5 : decode cX6_hearer 5 = .ok (.ifCond .eq 13, 3) := by decide +kernel
theorem dX6_hearer_8 : decode cX6_hearer 8 = .ok (.iload_n 2, 1) := by decide +kernel
theorem dX6_hearer_9 : decode cX6_hearer 9 = .ok (.iconst 0, 1) := by decide +kernel
theorem dX6_hearer_10 : decode cX6_hearer 10 = .ok (.bipush 99, 2) := by decide +kernel
theorem dX6_hearer_12 : decode cX6_hearer 12 = .ok (.invokestatic 57, 3) := by decide +kernel
theorem dX6_hearer_15 : decode cX6_hearer 15 = .ok (.ifCond .ne 5, 3) := by decide +kernel
theorem dX6_hearer_18 : decode cX6_hearer 18 = .ok (.iconst (-1), 1) := by decide +kernel
theorem dX6_hearer_19 : decode cX6_hearer 19 = .ok (.ireturn, 1) := by decide +kernel
theorem dX6_hearer_20 : decode cX6_hearer 20 = .ok (.aload_n 0, 1) := by decide +kernel
theorem dX6_hearer_21 : decode cX6_hearer 21 = .ok (.getfield 7, 3) := by decide +kernel
theorem dX6_hearer_24 : decode cX6_hearer 24 = .ok (.bipush 6, 2) := by decide +kernel
theorem dX6_hearer_26 : decode cX6_hearer 26 = .ok (.iaload, 1) := by decide +kernel
theorem dX6_hearer_27 : decode cX6_hearer 27 = .ok (.bipush 8, 2) := by decide +kernel
theorem dX6_hearer_29 : decode cX6_hearer 29 = .ok (.if_icmp .ne 6, 3) := by decide +kernel
theorem dX6_hearer_32 : decode cX6_hearer 32 = .ok (.bipush (-2), 2) := by decide +kernel
theorem dX6_hearer_34 : decode cX6_hearer 34 = .ok (.ireturn, 1) := by decide +kernel
theorem dX6_hearer_35 : decode cX6_hearer 35 = .ok (.aload_n 0, 1) := by decide +kernel
theorem dX6_hearer_36 : decode cX6_hearer 36 = .ok (.getfield 7, 3) := by decide +kernel
theorem dX6_hearer_39 : decode cX6_hearer 39 = .ok (.bipush 6, 2) := by decide +kernel
theorem dX6_hearer_41 : decode cX6_hearer 41 = .ok (.iaload, 1) := by decide +kernel
theorem dX6_hearer_42 : decode cX6_hearer 42 = .ok (.istore 4, 2) := by decide +kernel
theorem dX6_hearer_44 : decode cX6_hearer 44 = .ok (.aload_n 0, 1) := by decide +kernel
theorem dX6_hearer_45 : decode cX6_hearer 45 = .ok (.iload 4, 2) := by decide +kernel
theorem dX6_hearer_47 : decode cX6_hearer 47 = .ok (.iconst 0, 1) := by decide +kernel
theorem dX6_hearer_48 : decode cX6_hearer 48 = .ok (.iload_n 1, 1) := by decide +kernel
theorem dX6_hearer_49 : decode cX6_hearer 49 = .ok (.invokevirtual 202, 3) := by decide +kernel
theorem dX6_hearer_52 : decode cX6_hearer 52 = .ok (.aload_n 0, 1) := by decide +kernel
theorem dX6_hearer_53 : decode cX6_hearer 53 = .ok (.iload 4, 2) := by decide +kernel
theorem dX6_hearer_55 : decode cX6_hearer 55 = .ok (.iconst 1, 1) := by decide +kernel
theorem dX6_hearer_56 : decode cX6_hearer 56 = .ok (.iload_n 2, 1) := by decide +kernel
theorem dX6_hearer_57 : decode cX6_hearer 57 = .ok (.invokevirtual 202, 3) := by decide +kernel
theorem dX6_hearer_60 : decode cX6_hearer 60 = .ok (.aload_n 0, 1) := by decide +kernel
theorem dX6_hearer_61 : decode cX6_hearer 61 = .ok (.iload 4, 2) := by decide +kernel
theorem dX6_hearer_63 : decode cX6_hearer 63 = .ok (.iconst 2, 1) := by decide +kernel
theorem dX6_hearer_64 : decode cX6_hearer 64 = .ok (.iload_n 3, 1) := by decide +kernel
theorem dX6_hearer_65 : decode cX6_hearer 65 = .ok (.invokevirtual 202, 3) := by decide +kernel
theorem dX6_hearer_68 : decode cX6_hearer 68 = .ok (.aload_n 0, 1) := by decide +kernel
theorem dX6_hearer_69 : decode cX6_hearer 69 = .ok (.iload 4, 2) := by decide +kernel
theorem dX6_hearer_71 : decode cX6_hearer 71 = .ok (.iconst 3, 1) := by decide +kernel
theorem dX6_hearer_72 : decode cX6_hearer 72 = .ok (.iconst 0, 1) := by decide +kernel
theorem dX6_hearer_73 : decode cX6_hearer 73 = .ok (.invokevirtual 202, 3) := by decide +kernel
theorem dX6_hearer_76 : decode cX6_hearer 76 = .ok (.aload_n 0, 1) := by decide +kernel
theorem dX6_hearer_77 : decode cX6_hearer 77 = .ok (.getfield 7, 3) := by decide +kernel
theorem dX6_hearer_80 : decode cX6_hearer 80 = .ok (.bipush 6, 2) := by decide +kernel
theorem dX6_hearer_82 : decode cX6_hearer 82 = .ok (.dup2, 1) := by decide +kernel
theorem dX6_hearer_83 : decode cX6_hearer 83 = .ok (.iaload, 1) := by decide +kernel
theorem dX6_hearer_84 : decode cX6_hearer 84 = .ok (.iconst 1, 1) := by decide +kernel
theorem dX6_hearer_85 : decode cX6_hearer 85 = .ok (.iadd, 1) := by decide +kernel
theorem dX6_hearer_86 : decode cX6_hearer 86 = .ok (.iastore, 1) := by decide +kernel
theorem dX6_hearer_87 : decode cX6_hearer 87 = .ok (.iload 4, 2) := by decide +kernel
theorem dX6_hearer_89 : decode cX6_hearer 89 = .ok (.ireturn, 1) := by decide +kernel
theorem dX6_of_0 : decode cX6_of 0 = .ok (.aload_n 0, 1) := by decide +kernel
theorem dX6_of_1 : decode cX6_of 1 = .ok (.iload_n 1, 1) := by decide +kernel
theorem dX6_of_2 : decode cX6_of 2 = .ok (.invokevirtual 206, 3) := by decide +kernel
theorem dX6_of_5 : decode cX6_of 5 = .ok (.ifCond .eq 21, 3) := by decide +kernel
theorem dX6_of_8 : decode cX6_of 8 = .ok (.iload_n 2, 1) := by decide +kernel
theorem dX6_of_9 : decode cX6_of 9 = .ok (.iconst 0, 1) := by decide +kernel
theorem dX6_of_10 : decode cX6_of 10 = .ok (.iconst 3, 1) := by decide +kernel
theorem dX6_of_11 : decode cX6_of 11 = .ok (.invokestatic 57, 3) := by decide +kernel
theorem dX6_of_14 : decode cX6_of 14 = .ok (.ifCond .eq 12, 3) := by decide +kernel
theorem dX6_of_17 : decode cX6_of 17 = .ok (.aload_n 0, 1) := by decide +kernel
theorem dX6_of_18 : decode cX6_of 18 = .ok (.iload_n 1, 1) := by decide +kernel
theorem dX6_of_19 : decode cX6_of 19 = .ok (.iload_n 2, 1) := by decide +kernel
theorem dX6_of_20 : decode cX6_of 20 = .ok (.invokevirtual 187, 3) := by decide +kernel
theorem dX6_of_23 : decode cX6_of 23 = .ok (.goto 4, 3) := by decide +kernel
theorem dX6_of_26 : decode cX6_of 26 = .ok (.iconst (-1), 1) := by decide +kernel
theorem dX6_of_27 : decode cX6_of 27 = .ok (.ireturn, 1) := by decide +kernel
theorem dX6_shivers_0 : decode cX6_shivers 0 = .ok (.aload_n 0, 1) := by decide +kernel
theorem dX6_shivers_1 : decode cX6_shivers 1 = .ok (.iload_n 1, 1) := by decide +kernel
theorem dX6_shivers_2 : decode cX6_shivers 2 = .ok (.iconst 2, 1) := by decide +kernel
theorem dX6_shivers_3 : decode cX6_shivers 3 = .ok (.invokevirtual 187, 3) := by decide +kernel
theorem dX6_shivers_6 : decode cX6_shivers 6 = .ok (.aload_n 0, 1) := by decide +kernel
theorem dX6_shivers_7 : decode cX6_shivers 7 = .ok (.iload_n 2, 1) := by decide +kernel
theorem dX6_shivers_8 : decode cX6_shivers 8 = .ok (.iconst 0, 1) := by decide +kernel
theorem dX6_shivers_9 : decode cX6_shivers 9 = .ok (.invokevirtual 193, 3) := by decide +kernel
theorem dX6_shivers_12 : decode cX6_shivers 12 = .ok (.ishr, 1) := by decide +kernel
theorem dX6_shivers_13 : decode cX6_shivers 13 = .ok (.iconst 1, 1) := by decide +kernel
theorem dX6_shivers_14 : decode cX6_shivers 14 = .ok (.iand, 1) := by decide +kernel
theorem dX6_shivers_15 : decode cX6_shivers 15 = .ok (.iconst 1, 1) := by decide +kernel
theorem dX6_shivers_16 : decode cX6_shivers 16 = .ok (.if_icmp .ne 7, 3) := by decide +kernel
theorem dX6_shivers_19 : decode cX6_shivers 19 = .ok (.iconst 1, 1) := by decide +kernel
theorem dX6_shivers_20 : decode cX6_shivers 20 = .ok (.goto 4, 3) := by decide +kernel
theorem dX6_shivers_23 : decode cX6_shivers 23 = .ok (.iconst 0, 1) := by decide +kernel
theorem dX6_shivers_24 : decode cX6_shivers 24 = .ok (.istore_n 3, 1) := by decide +kernel
theorem dX6_shivers_25 : decode cX6_shivers 25 = .ok (.aload_n 0, 1) := by decide +kernel
theorem dX6_shivers_26 : decode cX6_shivers 26 = .ok (.iload_n 2, 1) := by decide +kernel
theorem dX6_shivers_27 : decode cX6_shivers 27 = .ok (.iconst 1, 1) := by decide +kernel
theorem dX6_shivers_28 : decode cX6_shivers 28 = .ok (.invokevirtual 193, 3) := by decide +kernel
theorem dX6_shivers_31 : decode cX6_shivers 31 = .ok (.iload_n 3, 1) := by decide +kernel
theorem dX6_shivers_32 : decode cX6_shivers 32 = .ok (.ifCond .eq 12, 3) := by decide +kernel
theorem dX6_shivers_35 : decode cX6_shivers 35 = .ok (.aload_n 0, 1) := by decide +kernel
theorem dX6_shivers_36 : decode cX6_shivers 36 = .ok (.iload_n 1, 1) := by decide +kernel
theorem dX6_shivers_37 : decode cX6_shivers 37 = .ok (.iconst 1, 1) := by decide +kernel
theorem dX6_shivers_38 : decode cX6_shivers 38 = .ok (.invokevirtual 187, 3) := by decide +kernel
theorem dX6_shivers_41 : decode cX6_shivers 41 = .ok (.goto 4, 3) := by decide +kernel
theorem dX6_shivers_44 : decode cX6_shivers 44 = .ok (.iconst 0, 1) := by decide +kernel
theorem dX6_shivers_45 : decode cX6_shivers 45 = .ok (.iadd, 1) := by decide +kernel
theorem dX6_shivers_46 : decode cX6_shivers 46 = .ok (.istore 4, 2) := by decide +kernel
theorem dX6_shivers_48 : decode cX6_shivers 48 = .ok (.aload_n 0, 1) := by decide +kernel
theorem dX6_shivers_49 : decode cX6_shivers 49 = .ok (.iload_n 2, 1) := by decide +kernel
theorem dX6_shivers_50 : decode cX6_shivers 50 = .ok (.iconst 2, 1) := by decide +kernel
theorem dX6_shivers_51 : decode cX6_shivers 51 = .ok (.invokevirtual 193, 3) := by decide +kernel
theorem dX6_shivers_54 : decode cX6_shivers 54 = .ok (.iconst 1, 1) := by decide +kernel
theorem dX6_shivers_55 : decode cX6_shivers 55 = .ok (.if_icmp .ne 7, 3) := by decide +kernel
theorem dX6_shivers_58 : decode cX6_shivers 58 = .ok (.iconst 1, 1) := by decide +kernel
theorem dX6_shivers_59 : decode cX6_shivers 59 = .ok (.goto 4, 3) := by decide +kernel
theorem dX6_shivers_62 : decode cX6_shivers 62 = .ok (.iconst 0, 1) := by decide +kernel
theorem dX6_shivers_63 : decode cX6_shivers 63 = .ok (.istore 5, 2) := by decide +kernel
theorem dX6_shivers_65 : decode cX6_shivers 65 = .ok (.iload 4, 2) := by decide +kernel
theorem dX6_shivers_67 : decode cX6_shivers 67 = .ok (.iload 5, 2) := by decide +kernel
theorem dX6_shivers_69 : decode cX6_shivers 69 = .ok (.ifCond .eq 12, 3) := by decide +kernel
theorem dX6_shivers_72 : decode cX6_shivers 72 = .ok (.aload_n 0, 1) := by decide +kernel
theorem dX6_shivers_73 : decode cX6_shivers 73 = .ok (.getfield 7, 3) := by decide +kernel
theorem dX6_shivers_76 : decode cX6_shivers 76 = .ok (.iconst 1, 1) := by decide +kernel
theorem dX6_shivers_77 : decode cX6_shivers 77 = .ok (.iaload, 1) := by decide +kernel
theorem dX6_shivers_78 : decode cX6_shivers 78 = .ok (.goto 4, 3) := by decide +kernel
theorem dX6_shivers_81 : decode cX6_shivers 81 = .ok (.iconst 0, 1) := by decide +kernel
theorem dX6_shivers_82 : decode cX6_shivers 82 = .ok (.iadd, 1) := by decide +kernel
theorem dX6_shivers_83 : decode cX6_shivers 83 = .ok (.istore 6, 2) := by decide +kernel
theorem dX6_shivers_85 : decode cX6_shivers 85 = .ok (.aload_n 0, 1) := by decide +kernel
theorem dX6_shivers_86 : decode cX6_shivers 86 = .ok (.iload_n 1, 1) := by decide +kernel
theorem dX6_shivers_87 : decode cX6_shivers 87 = .ok (.iconst 0, 1) := by decide +kernel
theorem dX6_shivers_88 : decode cX6_shivers 88 = .ok (.invokevirtual 187, 3) := by decide +kernel
theorem dX6_shivers_91 : decode cX6_shivers 91 = .ok (.tableswitch 77 1 5 #[33, 41, 36, 46, 64], 33) := by decide +kernel
theorem dX6_shivers_124 : decode cX6_shivers 124 = .ok (.iload 6, 2) := by decide +kernel
theorem dX6_shivers_126 : decode cX6_shivers 126 = .ok (.ireturn, 1) := by decide +kernel
theorem dX6_shivers_127 : decode cX6_shivers 127 = .ok (.iconst 2, 1) := by decide +kernel
theorem dX6_shivers_128 : decode cX6_shivers 128 = .ok (.iload 6, 2) := by decide +kernel
theorem dX6_shivers_130 : decode cX6_shivers 130 = .ok (.imul, 1) := by decide +kernel
theorem dX6_shivers_131 : decode cX6_shivers 131 = .ok (.ireturn, 1) := by decide +kernel
theorem dX6_shivers_132 : decode cX6_shivers 132 = .ok (.iload 4, 2) := by decide +kernel
theorem dX6_shivers_134 : decode cX6_shivers 134 = .ok (.iconst 2, 1) := by decide +kernel
theorem dX6_shivers_135 : decode cX6_shivers 135 = .ok (.isub, 1) := by decide +kernel
theorem dX6_shivers_136 : decode cX6_shivers 136 = .ok (.ireturn, 1) := by decide +kernel
theorem dX6_shivers_137 : decode cX6_shivers 137 = .ok (.iload 5, 2) := by decide +kernel
theorem dX6_shivers_139 : decode cX6_shivers 139 = .ok (.ifCond .eq 10, 3) := by decide +kernel
theorem dX6_shivers_142 : decode cX6_shivers 142 = .ok (.iload 4, 2) := by decide +kernel
theorem dX6_shivers_144 : decode cX6_shivers 144 = .ok (.iconst 2, 1) := by decide +kernel
theorem dX6_shivers_145 : decode cX6_shivers 145 = .ok (.isub, 1) := by decide +kernel
theorem dX6_shivers_146 : decode cX6_shivers 146 = .ok (.goto 8, 3) := by decide +kernel
theorem dX6_shivers_149 : decode cX6_shivers 149 = .ok (.iload 4, 2) := by decide +kernel
theorem dX6_shivers_151 : decode cX6_shivers 151 = .ok (.bipush 7, 2) := by decide +kernel
theorem dX6_shivers_153 : decode cX6_shivers 153 = .ok (.iadd, 1) := by decide +kernel
theorem dX6_shivers_154 : decode cX6_shivers 154 = .ok (.ireturn, 1) := by decide +kernel
theorem dX6_shivers_155 : decode cX6_shivers 155 = .ok (.iload_n 2, 1) := by decide +kernel
theorem dX6_shivers_156 : decode cX6_shivers 156 = .ok (.iconst 2, 1) := by decide +kernel
theorem dX6_shivers_157 : decode cX6_shivers 157 = .ok (.irem, 1) := by decide +kernel
theorem dX6_shivers_158 : decode cX6_shivers 158 = .ok (.ifCond .ne 8, 3) := by decide +kernel
theorem dX6_shivers_161 : decode cX6_shivers 161 = .ok (.iload 4, 2) := by decide +kernel
theorem dX6_shivers_163 : decode cX6_shivers 163 = .ok (.goto 4, 3) := by decide +kernel
theorem dX6_shivers_166 : decode cX6_shivers 166 = .ok (.iconst 0, 1) := by decide +kernel
theorem dX6_shivers_167 : decode cX6_shivers 167 = .ok (.ireturn, 1) := by decide +kernel
theorem dX6_shivers_168 : decode cX6_shivers 168 = .ok (.iload 4, 2) := by decide +kernel
theorem dX6_shivers_170 : decode cX6_shivers 170 = .ok (.ireturn, 1) := by decide +kernel
theorem dX6_needs_0 : decode cX6_needs 0 = .ok (.bipush 6, 2) := by decide +kernel
theorem dX6_needs_2 : decode cX6_needs 2 = .ok (.aload_n 0, 1) := by decide +kernel
theorem dX6_needs_3 : decode cX6_needs 3 = .ok (.getfield 7, 3) := by decide +kernel
theorem dX6_needs_6 : decode cX6_needs 6 = .ok (.iconst 0, 1) := by decide +kernel
theorem dX6_needs_7 : decode cX6_needs 7 = .ok (.iaload, 1) := by decide +kernel
theorem dX6_needs_8 : decode cX6_needs 8 = .ok (.iadd, 1) := by decide +kernel
theorem dX6_needs_9 : decode cX6_needs 9 = .ok (.istore_n 2, 1) := by decide +kernel
theorem dX6_needs_10 : decode cX6_needs 10 = .ok (.aload_n 0, 1) := by decide +kernel
theorem dX6_needs_11 : decode cX6_needs 11 = .ok (.iload_n 1, 1) := by decide +kernel
theorem dX6_needs_12 : decode cX6_needs 12 = .ok (.iconst 0, 1) := by decide +kernel
theorem dX6_needs_13 : decode cX6_needs 13 = .ok (.invokevirtual 187, 3) := by decide +kernel
theorem dX6_needs_16 : decode cX6_needs 16 = .ok (.tableswitch 64 1 5 #[36, 54, 40, 58, 60], 36) := by decide +kernel
theorem dX6_needs_52 : decode cX6_needs 52 = .ok (.iload_n 2, 1) := by decide +kernel
theorem dX6_needs_53 : decode cX6_needs 53 = .ok (.iconst 2, 1) := by decide +kernel
theorem dX6_needs_54 : decode cX6_needs 54 = .ok (.iadd, 1) := by decide +kernel
theorem dX6_needs_55 : decode cX6_needs 55 = .ok (.ireturn, 1) := by decide +kernel
theorem dX6_needs_56 : decode cX6_needs 56 = .ok (.iload_n 2, 1) := by decide +kernel
theorem dX6_needs_57 : decode cX6_needs 57 = .ok (.iconst 2, 1) := by decide +kernel
theorem dX6_needs_58 : decode cX6_needs 58 = .ok (.iadd, 1) := by decide +kernel
theorem dX6_needs_59 : decode cX6_needs 59 = .ok (.aload_n 0, 1) := by decide +kernel
theorem dX6_needs_60 : decode cX6_needs 60 = .ok (.iload_n 1, 1) := by decide +kernel
theorem dX6_needs_61 : decode cX6_needs 61 = .ok (.iconst 1, 1) := by decide +kernel
theorem dX6_needs_62 : decode cX6_needs 62 = .ok (.invokevirtual 187, 3) := by decide +kernel
theorem dX6_needs_65 : decode cX6_needs 65 = .ok (.bipush 10, 2) := by decide +kernel
theorem dX6_needs_67 : decode cX6_needs 67 = .ok (.idiv, 1) := by decide +kernel
theorem dX6_needs_68 : decode cX6_needs 68 = .ok (.iadd, 1) := by decide +kernel
theorem dX6_needs_69 : decode cX6_needs 69 = .ok (.ireturn, 1) := by decide +kernel
theorem dX6_needs_70 : decode cX6_needs 70 = .ok (.iload_n 2, 1) := by decide +kernel
theorem dX6_needs_71 : decode cX6_needs 71 = .ok (.iconst 3, 1) := by decide +kernel
theorem dX6_needs_72 : decode cX6_needs 72 = .ok (.isub, 1) := by decide +kernel
theorem dX6_needs_73 : decode cX6_needs 73 = .ok (.ireturn, 1) := by decide +kernel
theorem dX6_needs_74 : decode cX6_needs 74 = .ok (.iconst 3, 1) := by decide +kernel
theorem dX6_needs_75 : decode cX6_needs 75 = .ok (.ireturn, 1) := by decide +kernel
theorem dX6_needs_76 : decode cX6_needs 76 = .ok (.iconst 2, 1) := by decide +kernel
theorem dX6_needs_77 : decode cX6_needs 77 = .ok (.iload_n 2, 1) := by decide +kernel
theorem dX6_needs_78 : decode cX6_needs 78 = .ok (.imul, 1) := by decide +kernel
theorem dX6_needs_79 : decode cX6_needs 79 = .ok (.ireturn, 1) := by decide +kernel
theorem dX6_needs_80 : decode cX6_needs 80 = .ok (.iload_n 2, 1) := by decide +kernel
theorem dX6_needs_81 : decode cX6_needs 81 = .ok (.ireturn, 1) := by decide +kernel
theorem dX6_wears_0 : decode cX6_wears 0 = .ok (.aload_n 0, 1) := by decide +kernel
theorem dX6_wears_1 : decode cX6_wears 1 = .ok (.iload_n 1, 1) := by decide +kernel
theorem dX6_wears_2 : decode cX6_wears 2 = .ok (.iconst 0, 1) := by decide +kernel
theorem dX6_wears_3 : decode cX6_wears 3 = .ok (.invokevirtual 187, 3) := by decide +kernel
theorem dX6_wears_6 : decode cX6_wears 6 = .ok (.tableswitch 59 2 5 #[39, 30, 48, 57], 30) := by decide +kernel
theorem dX6_wears_36 : decode cX6_wears 36 = .ok (.iconst 2, 1) := by decide +kernel
theorem dX6_wears_37 : decode cX6_wears 37 = .ok (.aload_n 0, 1) := by decide +kernel
theorem dX6_wears_38 : decode cX6_wears 38 = .ok (.getfield 7, 3) := by decide +kernel
theorem dX6_wears_41 : decode cX6_wears 41 = .ok (.iconst 2, 1) := by decide +kernel
theorem dX6_wears_42 : decode cX6_wears 42 = .ok (.iaload, 1) := by decide +kernel
theorem dX6_wears_43 : decode cX6_wears 43 = .ok (.imul, 1) := by decide +kernel
theorem dX6_wears_44 : decode cX6_wears 44 = .ok (.ireturn, 1) := by decide +kernel
theorem dX6_wears_45 : decode cX6_wears 45 = .ok (.aload_n 0, 1) := by decide +kernel
theorem dX6_wears_46 : decode cX6_wears 46 = .ok (.getfield 7, 3) := by decide +kernel
theorem dX6_wears_49 : decode cX6_wears 49 = .ok (.iconst 2, 1) := by decide +kernel
theorem dX6_wears_50 : decode cX6_wears 50 = .ok (.iaload, 1) := by decide +kernel
theorem dX6_wears_51 : decode cX6_wears 51 = .ok (.iconst 2, 1) := by decide +kernel
theorem dX6_wears_52 : decode cX6_wears 52 = .ok (.isub, 1) := by decide +kernel
theorem dX6_wears_53 : decode cX6_wears 53 = .ok (.ireturn, 1) := by decide +kernel
theorem dX6_wears_54 : decode cX6_wears 54 = .ok (.aload_n 0, 1) := by decide +kernel
theorem dX6_wears_55 : decode cX6_wears 55 = .ok (.getfield 7, 3) := by decide +kernel
theorem dX6_wears_58 : decode cX6_wears 58 = .ok (.iconst 2, 1) := by decide +kernel
theorem dX6_wears_59 : decode cX6_wears 59 = .ok (.iaload, 1) := by decide +kernel
theorem dX6_wears_60 : decode cX6_wears 60 = .ok (.iconst 3, 1) := by decide +kernel
theorem dX6_wears_61 : decode cX6_wears 61 = .ok (.isub, 1) := by decide +kernel
theorem dX6_wears_62 : decode cX6_wears 62 = .ok (.ireturn, 1) := by decide +kernel
theorem dX6_wears_63 : decode cX6_wears 63 = .ok (.iconst 0, 1) := by decide +kernel
theorem dX6_wears_64 : decode cX6_wears 64 = .ok (.ireturn, 1) := by decide +kernel
theorem dX6_wears_65 : decode cX6_wears 65 = .ok (.aload_n 0, 1) := by decide +kernel
theorem dX6_wears_66 : decode cX6_wears 66 = .ok (.getfield 7, 3) := by decide +kernel
theorem dX6_wears_69 : decode cX6_wears 69 = .ok (.iconst 2, 1) := by decide +kernel
theorem dX6_wears_70 : decode cX6_wears 70 = .ok (.iaload, 1) := by decide +kernel
theorem dX6_wears_71 : decode cX6_wears 71 = .ok (.ireturn, 1) := by decide +kernel
theorem dX6_leftMany_0 : decode cX6_leftMany 0 = .ok (.aload_n 0, 1) := by decide +kernel
theorem dX6_leftMany_1 : decode cX6_leftMany 1 = .ok (.getfield 7, 3) := by decide +kernel
theorem dX6_leftMany_4 : decode cX6_leftMany 4 = .ok (.iconst 5, 1) := by decide +kernel
theorem dX6_leftMany_5 : decode cX6_leftMany 5 = .ok (.iaload, 1) := by decide +kernel
theorem dX6_leftMany_6 : decode cX6_leftMany 6 = .ok (.aload_n 0, 1) := by decide +kernel
theorem dX6_leftMany_7 : decode cX6_leftMany 7 = .ok (.getfield 7, 3) := by decide +kernel
theorem dX6_leftMany_10 : decode cX6_leftMany 10 = .ok (.iconst 4, 1) := by decide +kernel
theorem dX6_leftMany_11 : decode cX6_leftMany 11 = .ok (.iaload, 1) := by decide +kernel
theorem dX6_leftMany_12 : decode cX6_leftMany 12 = .ok (.isub, 1) := by decide +kernel
theorem dX6_leftMany_13 : decode cX6_leftMany 13 = .ok (.ireturn, 1) := by decide +kernel
theorem dX6_does_0 : decode cX6_does 0 = .ok (.aload_n 0, 1) := by decide +kernel
theorem dX6_does_1 : decode cX6_does 1 = .ok (.iload_n 1, 1) := by decide +kernel
theorem dX6_does_2 : decode cX6_does 2 = .ok (.invokevirtual 206, 3) := by decide +kernel
theorem dX6_does_5 : decode cX6_does 5 = .ok (.ifCond .ne 5, 3) := by decide +kernel
theorem dX6_does_8 : decode cX6_does 8 = .ok (.iconst (-1), 1) := by decide +kernel
theorem dX6_does_9 : decode cX6_does 9 = .ok (.ireturn, 1) := by decide +kernel
theorem dX6_does_10 : decode cX6_does 10 = .ok (.iload_n 2, 1) := by decide +kernel
theorem dX6_does_11 : decode cX6_does 11 = .ok (.tableswitch 74 0 2 #[25, 54, 64], 25) := by decide +kernel
theorem dX6_does_36 : decode cX6_does 36 = .ok (.aload_n 0, 1) := by decide +kernel
theorem dX6_does_37 : decode cX6_does 37 = .ok (.invokevirtual 209, 3) := by decide +kernel
theorem dX6_does_40 : decode cX6_does 40 = .ok (.ifCond .ne 9, 3) := by decide +kernel
theorem dX6_does_43 : decode cX6_does 43 = .ok (.sipush 1000, 3) := by decide +kernel
theorem dX6_does_46 : decode cX6_does 46 = .ok (.goto 18, 3) := by decide +kernel
theorem dX6_does_49 : decode cX6_does 49 = .ok (.sipush 1000, 3) := by decide +kernel
theorem dX6_does_52 : decode cX6_does 52 = .ok (.aload_n 0, 1) := by decide +kernel
theorem dX6_does_53 : decode cX6_does 53 = .ok (.iload_n 1, 1) := by decide +kernel
theorem dX6_does_54 : decode cX6_does 54 = .ok (.aload_n 0, 1) := by decide +kernel
theorem dX6_does_55 : decode cX6_does 55 = .ok (.getfield 7, 3) := by decide +kernel
theorem dX6_does_58 : decode cX6_does 58 = .ok (.iconst 4, 1) := by decide +kernel
theorem dX6_does_59 : decode cX6_does 59 = .ok (.iaload, 1) := by decide +kernel
theorem dX6_does_60 : decode cX6_does 60 = .ok (.invokevirtual 212, 3) := by decide +kernel
theorem dX6_does_63 : decode cX6_does 63 = .ok (.iadd, 1) := by decide +kernel
theorem dX6_does_64 : decode cX6_does 64 = .ok (.ireturn, 1) := by decide +kernel
theorem dX6_does_65 : decode cX6_does 65 = .ok (.sipush 1000, 3) := by decide +kernel
theorem dX6_does_68 : decode cX6_does 68 = .ok (.aload_n 0, 1) := by decide +kernel
theorem dX6_does_69 : decode cX6_does 69 = .ok (.iload_n 1, 1) := by decide +kernel
theorem dX6_does_70 : decode cX6_does 70 = .ok (.invokevirtual 215, 3) := by decide +kernel
theorem dX6_does_73 : decode cX6_does 73 = .ok (.iadd, 1) := by decide +kernel
theorem dX6_does_74 : decode cX6_does 74 = .ok (.ireturn, 1) := by decide +kernel
theorem dX6_does_75 : decode cX6_does 75 = .ok (.sipush 1000, 3) := by decide +kernel
theorem dX6_does_78 : decode cX6_does 78 = .ok (.aload_n 0, 1) := by decide +kernel
theorem dX6_does_79 : decode cX6_does 79 = .ok (.iload_n 1, 1) := by decide +kernel
theorem dX6_does_80 : decode cX6_does 80 = .ok (.invokevirtual 218, 3) := by decide +kernel
theorem dX6_does_83 : decode cX6_does 83 = .ok (.iadd, 1) := by decide +kernel
theorem dX6_does_84 : decode cX6_does 84 = .ok (.ireturn, 1) := by decide +kernel
theorem dX6_does_85 : decode cX6_does 85 = .ok (.iconst (-1), 1) := by decide +kernel
theorem dX6_does_86 : decode cX6_does 86 = .ok (.ireturn, 1) := by decide +kernel
theorem dX6_mind_0 : decode cX6_mind 0 = .ok (.aload_n 0, 1) := by decide +kernel
theorem dX6_mind_1 : decode cX6_mind 1 = .ok (.iload_n 1, 1) := by decide +kernel
theorem dX6_mind_2 : decode cX6_mind 2 = .ok (.invokevirtual 206, 3) := by decide +kernel
theorem dX6_mind_5 : decode cX6_mind 5 = .ok (.ifCond .eq 11, 3) := by decide +kernel
theorem dX6_mind_8 : decode cX6_mind 8 = .ok (.iload_n 2, 1) := by decide +kernel
theorem dX6_mind_9 : decode cX6_mind 9 = .ok (.iload_n 3, 1) := by decide +kernel
theorem dX6_mind_10 : decode cX6_mind 10 = .ok (.invokestatic 199, 3) := by decide +kernel
theorem dX6_mind_13 : decode cX6_mind 13 = .ok (.ifCond .ne 5, 3) := by decide +kernel
theorem dX6_mind_16 : decode cX6_mind 16 = .ok (.iconst (-1), 1) := by decide +kernel
theorem dX6_mind_17 : decode cX6_mind 17 = .ok (.ireturn, 1) := by decide +kernel
theorem dX6_mind_18 : decode cX6_mind 18 = .ok (.aload_n 0, 1) := by decide +kernel
theorem dX6_mind_19 : decode cX6_mind 19 = .ok (.iload_n 1, 1) := by decide +kernel
theorem dX6_mind_20 : decode cX6_mind 20 = .ok (.iconst 2, 1) := by decide +kernel
theorem dX6_mind_21 : decode cX6_mind 21 = .ok (.iload_n 3, 1) := by decide +kernel
theorem dX6_mind_22 : decode cX6_mind 22 = .ok (.invokevirtual 202, 3) := by decide +kernel
theorem dX6_mind_25 : decode cX6_mind 25 = .ok (.aload_n 0, 1) := by decide +kernel
theorem dX6_mind_26 : decode cX6_mind 26 = .ok (.bipush 44, 2) := by decide +kernel
theorem dX6_mind_28 : decode cX6_mind 28 = .ok (.iconst 4, 1) := by decide +kernel
theorem dX6_mind_29 : decode cX6_mind 29 = .ok (.iload_n 1, 1) := by decide +kernel
theorem dX6_mind_30 : decode cX6_mind 30 = .ok (.imul, 1) := by decide +kernel
theorem dX6_mind_31 : decode cX6_mind 31 = .ok (.iadd, 1) := by decide +kernel
theorem dX6_mind_32 : decode cX6_mind 32 = .ok (.iload_n 2, 1) := by decide +kernel
theorem dX6_mind_33 : decode cX6_mind 33 = .ok (.invokevirtual 180, 3) := by decide +kernel
theorem dX6_mind_36 : decode cX6_mind 36 = .ok (.ireturn, 1) := by decide +kernel
theorem dX6_tender_0 : decode cX6_tender 0 = .ok (.aload_n 0, 1) := by decide +kernel
theorem dX6_tender_1 : decode cX6_tender 1 = .ok (.iload_n 1, 1) := by decide +kernel
theorem dX6_tender_2 : decode cX6_tender 2 = .ok (.invokevirtual 206, 3) := by decide +kernel
theorem dX6_tender_5 : decode cX6_tender 5 = .ok (.ifCond .eq 29, 3) := by decide +kernel
theorem dX6_tender_8 : decode cX6_tender 8 = .ok (.iload_n 2, 1) := by decide +kernel
theorem dX6_tender_9 : decode cX6_tender 9 = .ok (.iconst 0, 1) := by decide +kernel
theorem dX6_tender_10 : decode cX6_tender 10 = .ok (.bipush 99, 2) := by decide +kernel
theorem dX6_tender_12 : decode cX6_tender 12 = .ok (.invokestatic 57, 3) := by decide +kernel
theorem dX6_tender_15 : decode cX6_tender 15 = .ok (.ifCond .eq 19, 3) := by decide +kernel
theorem dX6_tender_18 : decode cX6_tender 18 = .ok (.aload_n 0, 1) := by decide +kernel
theorem dX6_tender_19 : decode cX6_tender 19 = .ok (.bipush 44, 2) := by decide +kernel
theorem dX6_tender_21 : decode cX6_tender 21 = .ok (.iconst 4, 1) := by decide +kernel
theorem dX6_tender_22 : decode cX6_tender 22 = .ok (.iload_n 1, 1) := by decide +kernel
theorem dX6_tender_23 : decode cX6_tender 23 = .ok (.imul, 1) := by decide +kernel
theorem dX6_tender_24 : decode cX6_tender 24 = .ok (.iadd, 1) := by decide +kernel
theorem dX6_tender_25 : decode cX6_tender 25 = .ok (.iconst 1, 1) := by decide +kernel
theorem dX6_tender_26 : decode cX6_tender 26 = .ok (.iadd, 1) := by decide +kernel
theorem dX6_tender_27 : decode cX6_tender 27 = .ok (.iload_n 2, 1) := by decide +kernel
theorem dX6_tender_28 : decode cX6_tender 28 = .ok (.invokevirtual 180, 3) := by decide +kernel
theorem dX6_tender_31 : decode cX6_tender 31 = .ok (.goto 4, 3) := by decide +kernel
theorem dX6_tender_34 : decode cX6_tender 34 = .ok (.iconst (-1), 1) := by decide +kernel
theorem dX6_tender_35 : decode cX6_tender 35 = .ok (.ireturn, 1) := by decide +kernel
theorem dX6_isSaid_0 : decode cX6_isSaid 0 = .ok (.iconst 0, 1) := by decide +kernel
theorem dX6_isSaid_1 : decode cX6_isSaid 1 = .ok (.istore_n 2, 1) := by decide +kernel
theorem dX6_isSaid_2 : decode cX6_isSaid 2 = .ok (.iconst 0, 1) := by decide +kernel
theorem dX6_isSaid_3 : decode cX6_isSaid 3 = .ok (.istore_n 3, 1) := by decide +kernel
theorem dX6_isSaid_4 : decode cX6_isSaid 4 = .ok (.iload_n 3, 1) := by decide +kernel
theorem dX6_isSaid_5 : decode cX6_isSaid 5 = .ok (.aload_n 0, 1) := by decide +kernel
theorem dX6_isSaid_6 : decode cX6_isSaid 6 = .ok (.getfield 7, 3) := by decide +kernel
theorem dX6_isSaid_9 : decode cX6_isSaid 9 = .ok (.bipush 6, 2) := by decide +kernel
theorem dX6_isSaid_11 : decode cX6_isSaid 11 = .ok (.iaload, 1) := by decide +kernel
theorem dX6_isSaid_12 : decode cX6_isSaid 12 = .ok (.if_icmp .ge 84, 3) := by decide +kernel
theorem dX6_isSaid_15 : decode cX6_isSaid 15 = .ok (.iload_n 3, 1) := by decide +kernel
theorem dX6_isSaid_16 : decode cX6_isSaid 16 = .ok (.iload_n 1, 1) := by decide +kernel
theorem dX6_isSaid_17 : decode cX6_isSaid 17 = .ok (.if_icmp .eq 22, 3) := by decide +kernel
theorem dX6_isSaid_20 : decode cX6_isSaid 20 = .ok (.aload_n 0, 1) := by decide +kernel
theorem dX6_isSaid_21 : decode cX6_isSaid 21 = .ok (.iload_n 3, 1) := by decide +kernel
theorem dX6_isSaid_22 : decode cX6_isSaid 22 = .ok (.aload_n 0, 1) := by decide +kernel
theorem dX6_isSaid_23 : decode cX6_isSaid 23 = .ok (.getfield 7, 3) := by decide +kernel
theorem dX6_isSaid_26 : decode cX6_isSaid 26 = .ok (.iconst 4, 1) := by decide +kernel
theorem dX6_isSaid_27 : decode cX6_isSaid 27 = .ok (.iaload, 1) := by decide +kernel
theorem dX6_isSaid_28 : decode cX6_isSaid 28 = .ok (.invokevirtual 212, 3) := by decide +kernel
theorem dX6_isSaid_31 : decode cX6_isSaid 31 = .ok (.aload_n 0, 1) := by decide +kernel
theorem dX6_isSaid_32 : decode cX6_isSaid 32 = .ok (.iload_n 3, 1) := by decide +kernel
theorem dX6_isSaid_33 : decode cX6_isSaid 33 = .ok (.invokevirtual 215, 3) := by decide +kernel
theorem dX6_isSaid_36 : decode cX6_isSaid 36 = .ok (.if_icmp .lt 54, 3) := by decide +kernel
theorem dX6_isSaid_39 : decode cX6_isSaid 39 = .ok (.iload_n 2, 1) := by decide +kernel
theorem dX6_isSaid_40 : decode cX6_isSaid 40 = .ok (.iconst 1, 1) := by decide +kernel
theorem dX6_isSaid_41 : decode cX6_isSaid 41 = .ok (.iload_n 3, 1) := by decide +kernel
theorem dX6_isSaid_42 : decode cX6_isSaid 42 = .ok (.ishl, 1) := by decide +kernel
theorem dX6_isSaid_43 : decode cX6_isSaid 43 = .ok (.ior, 1) := by decide +kernel
theorem dX6_isSaid_44 : decode cX6_isSaid 44 = .ok (.istore_n 2, 1) := by decide +kernel
theorem dX6_isSaid_45 : decode cX6_isSaid 45 = .ok (.aload_n 0, 1) := by decide +kernel
theorem dX6_isSaid_46 : decode cX6_isSaid 46 = .ok (.iload_n 3, 1) := by decide +kernel
theorem dX6_isSaid_47 : decode cX6_isSaid 47 = .ok (.iconst 3, 1) := by decide +kernel
theorem dX6_isSaid_48 : decode cX6_isSaid 48 = .ok (.aload_n 0, 1) := by decide +kernel
theorem dX6_isSaid_49 : decode cX6_isSaid 49 = .ok (.iload_n 3, 1) := by decide +kernel
theorem dX6_isSaid_50 : decode cX6_isSaid 50 = .ok (.iconst 3, 1) := by decide +kernel
theorem dX6_isSaid_51 : decode cX6_isSaid 51 = .ok (.invokevirtual 187, 3) := by decide +kernel
theorem dX6_isSaid_54 : decode cX6_isSaid 54 = .ok (.iconst 1, 1) := by decide +kernel
theorem dX6_isSaid_55 : decode cX6_isSaid 55 = .ok (.aload_n 0, 1) := by decide +kernel
theorem dX6_isSaid_56 : decode cX6_isSaid 56 = .ok (.getfield 7, 3) := by decide +kernel
theorem dX6_isSaid_59 : decode cX6_isSaid 59 = .ok (.iconst 4, 1) := by decide +kernel
theorem dX6_isSaid_60 : decode cX6_isSaid 60 = .ok (.iaload, 1) := by decide +kernel
theorem dX6_isSaid_61 : decode cX6_isSaid 61 = .ok (.ishl, 1) := by decide +kernel
theorem dX6_isSaid_62 : decode cX6_isSaid 62 = .ok (.ior, 1) := by decide +kernel
theorem dX6_isSaid_63 : decode cX6_isSaid 63 = .ok (.invokevirtual 202, 3) := by decide +kernel
theorem dX6_isSaid_66 : decode cX6_isSaid 66 = .ok (.aload_n 0, 1) := by decide +kernel
theorem dX6_isSaid_67 : decode cX6_isSaid 67 = .ok (.iload_n 3, 1) := by decide +kernel
theorem dX6_isSaid_68 : decode cX6_isSaid 68 = .ok (.iconst 1, 1) := by decide +kernel
theorem dX6_isSaid_69 : decode cX6_isSaid 69 = .ok (.aload_n 0, 1) := by decide +kernel
theorem dX6_isSaid_70 : decode cX6_isSaid 70 = .ok (.iload_n 3, 1) := by decide +kernel
theorem dX6_isSaid_71 : decode cX6_isSaid 71 = .ok (.iconst 1, 1) := by decide +kernel
theorem dX6_isSaid_72 : decode cX6_isSaid 72 = .ok (.invokevirtual 187, 3) := by decide +kernel
theorem dX6_isSaid_75 : decode cX6_isSaid 75 = .ok (.aload_n 0, 1) := by decide +kernel
theorem dX6_isSaid_76 : decode cX6_isSaid 76 = .ok (.iload_n 3, 1) := by decide +kernel
theorem dX6_isSaid_77 : decode cX6_isSaid 77 = .ok (.invokevirtual 218, 3) := by decide +kernel
theorem dX6_isSaid_80 : decode cX6_isSaid 80 = .ok (.isub, 1) := by decide +kernel
theorem dX6_isSaid_81 : decode cX6_isSaid 81 = .ok (.iconst 0, 1) := by decide +kernel
theorem dX6_isSaid_82 : decode cX6_isSaid 82 = .ok (.bipush 99, 2) := by decide +kernel
theorem dX6_isSaid_84 : decode cX6_isSaid 84 = .ok (.invokestatic 221, 3) := by decide +kernel
theorem dX6_isSaid_87 : decode cX6_isSaid 87 = .ok (.invokevirtual 202, 3) := by decide +kernel
theorem dX6_isSaid_90 : decode cX6_isSaid 90 = .ok (.iinc 3 1, 3) := by decide +kernel
theorem dX6_isSaid_93 : decode cX6_isSaid 93 = .ok (.goto (-89), 3) := by decide +kernel
theorem dX6_isSaid_96 : decode cX6_isSaid 96 = .ok (.aload_n 0, 1) := by decide +kernel
theorem dX6_isSaid_97 : decode cX6_isSaid 97 = .ok (.getfield 7, 3) := by decide +kernel
theorem dX6_isSaid_100 : decode cX6_isSaid 100 = .ok (.iconst 4, 1) := by decide +kernel
theorem dX6_isSaid_101 : decode cX6_isSaid 101 = .ok (.dup2, 1) := by decide +kernel
theorem dX6_isSaid_102 : decode cX6_isSaid 102 = .ok (.iaload, 1) := by decide +kernel
theorem dX6_isSaid_103 : decode cX6_isSaid 103 = .ok (.iconst 1, 1) := by decide +kernel
theorem dX6_isSaid_104 : decode cX6_isSaid 104 = .ok (.iadd, 1) := by decide +kernel
theorem dX6_isSaid_105 : decode cX6_isSaid 105 = .ok (.iastore, 1) := by decide +kernel
theorem dX6_isSaid_106 : decode cX6_isSaid 106 = .ok (.iload_n 2, 1) := by decide +kernel
theorem dX6_isSaid_107 : decode cX6_isSaid 107 = .ok (.ireturn, 1) := by decide +kernel
theorem dX6_says_0 : decode cX6_says 0 = .ok (.iconst 0, 1) := by decide +kernel
theorem dX6_says_1 : decode cX6_says 1 = .ok (.istore_n 2, 1) := by decide +kernel
theorem dX6_says_2 : decode cX6_says 2 = .ok (.iload_n 2, 1) := by decide +kernel
theorem dX6_says_3 : decode cX6_says 3 = .ok (.iload_n 1, 1) := by decide +kernel
theorem dX6_says_4 : decode cX6_says 4 = .ok (.if_icmp .ge 22, 3) := by decide +kernel
theorem dX6_says_7 : decode cX6_says 7 = .ok (.aload_n 0, 1) := by decide +kernel
theorem dX6_says_8 : decode cX6_says 8 = .ok (.invokevirtual 209, 3) := by decide +kernel
theorem dX6_says_11 : decode cX6_says 11 = .ok (.ifCond .le 15, 3) := by decide +kernel
theorem dX6_says_14 : decode cX6_says 14 = .ok (.aload_n 0, 1) := by decide +kernel
theorem dX6_says_15 : decode cX6_says 15 = .ok (.iconst (-1), 1) := by decide +kernel
theorem dX6_says_16 : decode cX6_says 16 = .ok (.invokevirtual 225, 3) := by decide +kernel
theorem dX6_says_19 : decode cX6_says 19 = .ok (.pop, 1) := by decide +kernel
theorem dX6_says_20 : decode cX6_says 20 = .ok (.iinc 2 1, 3) := by decide +kernel
theorem dX6_says_23 : decode cX6_says 23 = .ok (.goto (-21), 3) := by decide +kernel
theorem dX6_says_26 : decode cX6_says 26 = .ok (.iload_n 2, 1) := by decide +kernel
theorem dX6_says_27 : decode cX6_says 27 = .ok (.ireturn, 1) := by decide +kernel
theorem dX6_say_0 : decode cX6_say 0 = .ok (.iload_n 1, 1) := by decide +kernel
theorem dX6_say_1 : decode cX6_say 1 = .ok (.iconst 1, 1) := by decide +kernel
theorem dX6_say_2 : decode cX6_say 2 = .ok (.bipush 60, 2) := by decide +kernel
theorem dX6_say_4 : decode cX6_say 4 = .ok (.invokestatic 57, 3) := by decide +kernel
theorem dX6_say_7 : decode cX6_say 7 = .ok (.ifCond .eq 11, 3) := by decide +kernel
theorem dX6_say_10 : decode cX6_say 10 = .ok (.aload_n 0, 1) := by decide +kernel
theorem dX6_say_11 : decode cX6_say 11 = .ok (.iload_n 1, 1) := by decide +kernel
theorem dX6_say_12 : decode cX6_say 12 = .ok (.invokevirtual 228, 3) := by decide +kernel
theorem dX6_say_15 : decode cX6_say 15 = .ok (.goto 4, 3) := by decide +kernel
theorem dX6_say_18 : decode cX6_say 18 = .ok (.iconst (-1), 1) := by decide +kernel
theorem dX6_say_19 : decode cX6_say 19 = .ok (.ireturn, 1) := by decide +kernel
theorem dX6_anew_0 : decode cX6_anew 0 = .ok (.iconst 0, 1) := by decide +kernel
theorem dX6_anew_1 : decode cX6_anew 1 = .ok (.istore_n 1, 1) := by decide +kernel
theorem dX6_anew_2 : decode cX6_anew 2 = .ok (.iload_n 1, 1) := by decide +kernel
theorem dX6_anew_3 : decode cX6_anew 3 = .ok (.aload_n 0, 1) := by decide +kernel
theorem dX6_anew_4 : decode cX6_anew 4 = .ok (.getfield 7, 3) := by decide +kernel
theorem dX6_anew_7 : decode cX6_anew 7 = .ok (.bipush 6, 2) := by decide +kernel
theorem dX6_anew_9 : decode cX6_anew 9 = .ok (.iaload, 1) := by decide +kernel
theorem dX6_anew_10 : decode cX6_anew 10 = .ok (.if_icmp .ge 16, 3) := by decide +kernel
theorem dX6_anew_13 : decode cX6_anew 13 = .ok (.aload_n 0, 1) := by decide +kernel
theorem dX6_anew_14 : decode cX6_anew 14 = .ok (.iload_n 1, 1) := by decide +kernel
theorem dX6_anew_15 : decode cX6_anew 15 = .ok (.iconst 3, 1) := by decide +kernel
theorem dX6_anew_16 : decode cX6_anew 16 = .ok (.iconst 0, 1) := by decide +kernel
theorem dX6_anew_17 : decode cX6_anew 17 = .ok (.invokevirtual 202, 3) := by decide +kernel
theorem dX6_anew_20 : decode cX6_anew 20 = .ok (.iinc 1 1, 3) := by decide +kernel
theorem dX6_anew_23 : decode cX6_anew 23 = .ok (.goto (-21), 3) := by decide +kernel
theorem dX6_anew_26 : decode cX6_anew 26 = .ok (.aload_n 0, 1) := by decide +kernel
theorem dX6_anew_27 : decode cX6_anew 27 = .ok (.iconst 4, 1) := by decide +kernel
theorem dX6_anew_28 : decode cX6_anew 28 = .ok (.iconst 0, 1) := by decide +kernel
theorem dX6_anew_29 : decode cX6_anew 29 = .ok (.invokevirtual 180, 3) := by decide +kernel
theorem dX6_anew_32 : decode cX6_anew 32 = .ok (.ireturn, 1) := by decide +kernel
theorem dX6_drawn_0 : decode cX6_drawn 0 = .ok (.aload_n 0, 1) := by decide +kernel
theorem dX6_drawn_1 : decode cX6_drawn 1 = .ok (.getfield 7, 3) := by decide +kernel
theorem dX6_drawn_4 : decode cX6_drawn 4 = .ok (.bipush 7, 2) := by decide +kernel
theorem dX6_drawn_6 : decode cX6_drawn 6 = .ok (.aload_n 0, 1) := by decide +kernel
theorem dX6_drawn_7 : decode cX6_drawn 7 = .ok (.getfield 7, 3) := by decide +kernel
theorem dX6_drawn_10 : decode cX6_drawn 10 = .ok (.bipush 7, 2) := by decide +kernel
theorem dX6_drawn_12 : decode cX6_drawn 12 = .ok (.iaload, 1) := by decide +kernel
theorem dX6_drawn_13 : decode cX6_drawn 13 = .ok (.ldc 231, 2) := by decide +kernel
theorem dX6_drawn_15 : decode cX6_drawn 15 = .ok (.imul, 1) := by decide +kernel
theorem dX6_drawn_16 : decode cX6_drawn 16 = .ok (.sipush 12345, 3) := by decide +kernel
theorem dX6_drawn_19 : decode cX6_drawn 19 = .ok (.iadd, 1) := by decide +kernel
theorem dX6_drawn_20 : decode cX6_drawn 20 = .ok (.iastore, 1) := by decide +kernel
theorem dX6_drawn_21 : decode cX6_drawn 21 = .ok (.aload_n 0, 1) := by decide +kernel
theorem dX6_drawn_22 : decode cX6_drawn 22 = .ok (.getfield 7, 3) := by decide +kernel
theorem dX6_drawn_25 : decode cX6_drawn 25 = .ok (.bipush 7, 2) := by decide +kernel
theorem dX6_drawn_27 : decode cX6_drawn 27 = .ok (.iaload, 1) := by decide +kernel
theorem dX6_drawn_28 : decode cX6_drawn 28 = .ok (.bipush 16, 2) := by decide +kernel
theorem dX6_drawn_30 : decode cX6_drawn 30 = .ok (.iushr, 1) := by decide +kernel
theorem dX6_drawn_31 : decode cX6_drawn 31 = .ok (.ireturn, 1) := by decide +kernel
theorem dX6_seed_0 : decode cX6_seed 0 = .ok (.aload_n 0, 1) := by decide +kernel
theorem dX6_seed_1 : decode cX6_seed 1 = .ok (.bipush 7, 2) := by decide +kernel
theorem dX6_seed_3 : decode cX6_seed 3 = .ok (.iload_n 1, 1) := by decide +kernel
theorem dX6_seed_4 : decode cX6_seed 4 = .ok (.invokevirtual 180, 3) := by decide +kernel
theorem dX6_seed_7 : decode cX6_seed 7 = .ok (.ireturn, 1) := by decide +kernel
theorem dX6_saidByDraws_0 : decode cX6_saidByDraws 0 = .ok (.iconst (-1), 1) := by decide +kernel
theorem dX6_saidByDraws_1 : decode cX6_saidByDraws 1 = .ok (.istore_n 1, 1) := by decide +kernel
theorem dX6_saidByDraws_2 : decode cX6_saidByDraws 2 = .ok (.aload_n 0, 1) := by decide +kernel
theorem dX6_saidByDraws_3 : decode cX6_saidByDraws 3 = .ok (.getfield 7, 3) := by decide +kernel
theorem dX6_saidByDraws_6 : decode cX6_saidByDraws 6 = .ok (.bipush 6, 2) := by decide +kernel
theorem dX6_saidByDraws_8 : decode cX6_saidByDraws 8 = .ok (.iaload, 1) := by decide +kernel
theorem dX6_saidByDraws_9 : decode cX6_saidByDraws 9 = .ok (.ifCond .le 38, 3) := by decide +kernel
theorem dX6_saidByDraws_12 : decode cX6_saidByDraws 12 = .ok (.aload_n 0, 1) := by decide +kernel
theorem dX6_saidByDraws_13 : decode cX6_saidByDraws 13 = .ok (.invokevirtual 232, 3) := by decide +kernel
theorem dX6_saidByDraws_16 : decode cX6_saidByDraws 16 = .ok (.aload_n 0, 1) := by decide +kernel
theorem dX6_saidByDraws_17 : decode cX6_saidByDraws 17 = .ok (.getfield 7, 3) := by decide +kernel
theorem dX6_saidByDraws_20 : decode cX6_saidByDraws 20 = .ok (.bipush 6, 2) := by decide +kernel
theorem dX6_saidByDraws_22 : decode cX6_saidByDraws 22 = .ok (.iaload, 1) := by decide +kernel
theorem dX6_saidByDraws_23 : decode cX6_saidByDraws 23 = .ok (.irem, 1) := by decide +kernel
theorem dX6_saidByDraws_24 : decode cX6_saidByDraws 24 = .ok (.istore_n 2, 1) := by decide +kernel
theorem dX6_saidByDraws_25 : decode cX6_saidByDraws 25 = .ok (.aload_n 0, 1) := by decide +kernel
theorem dX6_saidByDraws_26 : decode cX6_saidByDraws 26 = .ok (.invokevirtual 232, 3) := by decide +kernel
theorem dX6_saidByDraws_29 : decode cX6_saidByDraws 29 = .ok (.bipush 100, 2) := by decide +kernel
theorem dX6_saidByDraws_31 : decode cX6_saidByDraws 31 = .ok (.irem, 1) := by decide +kernel
theorem dX6_saidByDraws_32 : decode cX6_saidByDraws 32 = .ok (.aload_n 0, 1) := by decide +kernel
theorem dX6_saidByDraws_33 : decode cX6_saidByDraws 33 = .ok (.getfield 7, 3) := by decide +kernel
theorem dX6_saidByDraws_36 : decode cX6_saidByDraws 36 = .ok (.iconst 3, 1) := by decide +kernel
theorem dX6_saidByDraws_37 : decode cX6_saidByDraws 37 = .ok (.iaload, 1) := by decide +kernel
theorem dX6_saidByDraws_38 : decode cX6_saidByDraws 38 = .ok (.if_icmp .ge 7, 3) := by decide +kernel
theorem dX6_saidByDraws_41 : decode cX6_saidByDraws 41 = .ok (.iload_n 2, 1) := by decide +kernel
theorem dX6_saidByDraws_42 : decode cX6_saidByDraws 42 = .ok (.goto 4, 3) := by decide +kernel
theorem dX6_saidByDraws_45 : decode cX6_saidByDraws 45 = .ok (.iconst (-1), 1) := by decide +kernel
theorem dX6_saidByDraws_46 : decode cX6_saidByDraws 46 = .ok (.istore_n 1, 1) := by decide +kernel
theorem dX6_saidByDraws_47 : decode cX6_saidByDraws 47 = .ok (.aload_n 0, 1) := by decide +kernel
theorem dX6_saidByDraws_48 : decode cX6_saidByDraws 48 = .ok (.iload_n 1, 1) := by decide +kernel
theorem dX6_saidByDraws_49 : decode cX6_saidByDraws 49 = .ok (.invokevirtual 225, 3) := by decide +kernel
theorem dX6_saidByDraws_52 : decode cX6_saidByDraws 52 = .ok (.ireturn, 1) := by decide +kernel
theorem dX6_draught_0 : decode cX6_draught 0 = .ok (.aload_n 0, 1) := by decide +kernel
theorem dX6_draught_1 : decode cX6_draught 1 = .ok (.invokevirtual 209, 3) := by decide +kernel
theorem dX6_draught_4 : decode cX6_draught 4 = .ok (.ifCond .ne 8, 3) := by decide +kernel
theorem dX6_draught_7 : decode cX6_draught 7 = .ok (.bipush (-3), 2) := by decide +kernel
theorem dX6_draught_9 : decode cX6_draught 9 = .ok (.goto 7, 3) := by decide +kernel
theorem dX6_draught_12 : decode cX6_draught 12 = .ok (.aload_n 0, 1) := by decide +kernel
theorem dX6_draught_13 : decode cX6_draught 13 = .ok (.invokevirtual 235, 3) := by decide +kernel
theorem dX6_draught_16 : decode cX6_draught 16 = .ok (.ireturn, 1) := by decide +kernel
theorem dX6_chills_0 : decode cX6_chills 0 = .ok (.iload_n 1, 1) := by decide +kernel
theorem dX6_chills_1 : decode cX6_chills 1 = .ok (.iconst 1, 1) := by decide +kernel
theorem dX6_chills_2 : decode cX6_chills 2 = .ok (.bipush 30, 2) := by decide +kernel
theorem dX6_chills_4 : decode cX6_chills 4 = .ok (.invokestatic 57, 3) := by decide +kernel
theorem dX6_chills_7 : decode cX6_chills 7 = .ok (.ifCond .ne 5, 3) := by decide +kernel
theorem dX6_chills_10 : decode cX6_chills 10 = .ok (.iconst (-1), 1) := by decide +kernel
theorem dX6_chills_11 : decode cX6_chills 11 = .ok (.ireturn, 1) := by decide +kernel
theorem dX6_chills_12 : decode cX6_chills 12 = .ok (.aload_n 0, 1) := by decide +kernel
theorem dX6_chills_13 : decode cX6_chills 13 = .ok (.invokevirtual 209, 3) := by decide +kernel
theorem dX6_chills_16 : decode cX6_chills 16 = .ok (.ifCond .ne 5, 3) := by decide +kernel
theorem dX6_chills_19 : decode cX6_chills 19 = .ok (.iconst 0, 1) := by decide +kernel
theorem dX6_chills_20 : decode cX6_chills 20 = .ok (.ireturn, 1) := by decide +kernel
theorem dX6_chills_21 : decode cX6_chills 21 = .ok (.aload_n 0, 1) := by decide +kernel
theorem dX6_chills_22 : decode cX6_chills 22 = .ok (.getfield 7, 3) := by decide +kernel
theorem dX6_chills_25 : decode cX6_chills 25 = .ok (.aload_n 0, 1) := by decide +kernel
theorem dX6_chills_26 : decode cX6_chills 26 = .ok (.getfield 19, 3) := by decide +kernel
theorem dX6_chills_29 : decode cX6_chills 29 = .ok (.invokestatic 173, 3) := by decide +kernel
theorem dX6_chills_32 : decode cX6_chills 32 = .ok (.aload_n 0, 1) := by decide +kernel
theorem dX6_chills_33 : decode cX6_chills 33 = .ok (.iconst (-1), 1) := by decide +kernel
theorem dX6_chills_34 : decode cX6_chills 34 = .ok (.invokevirtual 225, 3) := by decide +kernel
theorem dX6_chills_37 : decode cX6_chills 37 = .ok (.invokestatic 238, 3) := by decide +kernel
theorem dX6_chills_40 : decode cX6_chills 40 = .ok (.istore_n 2, 1) := by decide +kernel
theorem dX6_chills_41 : decode cX6_chills 41 = .ok (.aload_n 0, 1) := by decide +kernel
theorem dX6_chills_42 : decode cX6_chills 42 = .ok (.getfield 19, 3) := by decide +kernel
theorem dX6_chills_45 : decode cX6_chills 45 = .ok (.aload_n 0, 1) := by decide +kernel
theorem dX6_chills_46 : decode cX6_chills 46 = .ok (.getfield 7, 3) := by decide +kernel
theorem dX6_chills_49 : decode cX6_chills 49 = .ok (.invokestatic 173, 3) := by decide +kernel
theorem dX6_chills_52 : decode cX6_chills 52 = .ok (.aload_n 0, 1) := by decide +kernel
theorem dX6_chills_53 : decode cX6_chills 53 = .ok (.getfield 7, 3) := by decide +kernel
theorem dX6_chills_56 : decode cX6_chills 56 = .ok (.bipush 7, 2) := by decide +kernel
theorem dX6_chills_58 : decode cX6_chills 58 = .ok (.iaload, 1) := by decide +kernel
theorem dX6_chills_59 : decode cX6_chills 59 = .ok (.istore_n 3, 1) := by decide +kernel
theorem dX6_chills_60 : decode cX6_chills 60 = .ok (.iconst 0, 1) := by decide +kernel
theorem dX6_chills_61 : decode cX6_chills 61 = .ok (.istore 4, 2) := by decide +kernel
theorem dX6_chills_63 : decode cX6_chills 63 = .ok (.iconst 0, 1) := by decide +kernel
theorem dX6_chills_64 : decode cX6_chills 64 = .ok (.istore 5, 2) := by decide +kernel
theorem dX6_chills_66 : decode cX6_chills 66 = .ok (.iload 5, 2) := by decide +kernel
theorem dX6_chills_68 : decode cX6_chills 68 = .ok (.iload_n 1, 1) := by decide +kernel
theorem dX6_chills_69 : decode cX6_chills 69 = .ok (.if_icmp .ge 57, 3) := by decide +kernel
theorem dX6_chills_72 : decode cX6_chills 72 = .ok (.aload_n 0, 1) := by decide +kernel
theorem dX6_chills_73 : decode cX6_chills 73 = .ok (.getfield 7, 3) := by decide +kernel
theorem dX6_chills_76 : decode cX6_chills 76 = .ok (.bipush 7, 2) := by decide +kernel
theorem dX6_chills_78 : decode cX6_chills 78 = .ok (.iload_n 3, 1) := by decide +kernel
theorem dX6_chills_79 : decode cX6_chills 79 = .ok (.iastore, 1) := by decide +kernel
theorem dX6_chills_80 : decode cX6_chills 80 = .ok (.iload 4, 2) := by decide +kernel
theorem dX6_chills_82 : decode cX6_chills 82 = .ok (.aload_n 0, 1) := by decide +kernel
theorem dX6_chills_83 : decode cX6_chills 83 = .ok (.invokevirtual 235, 3) := by decide +kernel
theorem dX6_chills_86 : decode cX6_chills 86 = .ok (.invokestatic 238, 3) := by decide +kernel
theorem dX6_chills_89 : decode cX6_chills 89 = .ok (.iload_n 2, 1) := by decide +kernel
theorem dX6_chills_90 : decode cX6_chills 90 = .ok (.if_icmp .le 7, 3) := by decide +kernel
theorem dX6_chills_93 : decode cX6_chills 93 = .ok (.iconst 1, 1) := by decide +kernel
theorem dX6_chills_94 : decode cX6_chills 94 = .ok (.goto 4, 3) := by decide +kernel
theorem dX6_chills_97 : decode cX6_chills 97 = .ok (.iconst 0, 1) := by decide +kernel
theorem dX6_chills_98 : decode cX6_chills 98 = .ok (.iadd, 1) := by decide +kernel
theorem dX6_chills_99 : decode cX6_chills 99 = .ok (.istore 4, 2) := by decide +kernel
theorem dX6_chills_101 : decode cX6_chills 101 = .ok (.aload_n 0, 1) := by decide +kernel
theorem dX6_chills_102 : decode cX6_chills 102 = .ok (.getfield 7, 3) := by decide +kernel
theorem dX6_chills_105 : decode cX6_chills 105 = .ok (.bipush 7, 2) := by decide +kernel
theorem dX6_chills_107 : decode cX6_chills 107 = .ok (.iaload, 1) := by decide +kernel
theorem dX6_chills_108 : decode cX6_chills 108 = .ok (.istore_n 3, 1) := by decide +kernel
theorem dX6_chills_109 : decode cX6_chills 109 = .ok (.aload_n 0, 1) := by decide +kernel
theorem dX6_chills_110 : decode cX6_chills 110 = .ok (.getfield 19, 3) := by decide +kernel
theorem dX6_chills_113 : decode cX6_chills 113 = .ok (.aload_n 0, 1) := by decide +kernel
theorem dX6_chills_114 : decode cX6_chills 114 = .ok (.getfield 7, 3) := by decide +kernel
theorem dX6_chills_117 : decode cX6_chills 117 = .ok (.invokestatic 173, 3) := by decide +kernel
theorem dX6_chills_120 : decode cX6_chills 120 = .ok (.iinc 5 1, 3) := by decide +kernel
theorem dX6_chills_123 : decode cX6_chills 123 = .ok (.goto (-57), 3) := by decide +kernel
theorem dX6_chills_126 : decode cX6_chills 126 = .ok (.iload 4, 2) := by decide +kernel
theorem dX6_chills_128 : decode cX6_chills 128 = .ok (.ireturn, 1) := by decide +kernel
theorem dX6_soSet_0 : decode cX6_soSet 0 = .ok (.iconst 0, 1) := by decide +kernel
theorem dX6_soSet_1 : decode cX6_soSet 1 = .ok (.istore_n 1, 1) := by decide +kernel
theorem dX6_soSet_2 : decode cX6_soSet 2 = .ok (.iconst 0, 1) := by decide +kernel
theorem dX6_soSet_3 : decode cX6_soSet 3 = .ok (.istore_n 2, 1) := by decide +kernel
theorem dX6_soSet_4 : decode cX6_soSet 4 = .ok (.iload_n 2, 1) := by decide +kernel
theorem dX6_soSet_5 : decode cX6_soSet 5 = .ok (.aload_n 0, 1) := by decide +kernel
theorem dX6_soSet_6 : decode cX6_soSet 6 = .ok (.getfield 7, 3) := by decide +kernel
theorem dX6_soSet_9 : decode cX6_soSet 9 = .ok (.iconst 5, 1) := by decide +kernel
theorem dX6_soSet_10 : decode cX6_soSet 10 = .ok (.iaload, 1) := by decide +kernel
theorem dX6_soSet_11 : decode cX6_soSet 11 = .ok (.if_icmp .ge 20, 3) := by decide +kernel
theorem dX6_soSet_14 : decode cX6_soSet 14 = .ok (.iload_n 1, 1) := by decide +kernel
theorem dX6_soSet_15 : decode cX6_soSet 15 = .ok (.aload_n 0, 1) := by decide +kernel
theorem dX6_soSet_16 : decode cX6_soSet 16 = .ok (.iload_n 2, 1) := by decide +kernel
theorem dX6_soSet_17 : decode cX6_soSet 17 = .ok (.iconst 2, 1) := by decide +kernel
theorem dX6_soSet_18 : decode cX6_soSet 18 = .ok (.invokevirtual 193, 3) := by decide +kernel
theorem dX6_soSet_21 : decode cX6_soSet 21 = .ok (.iload_n 2, 1) := by decide +kernel
theorem dX6_soSet_22 : decode cX6_soSet 22 = .ok (.ishl, 1) := by decide +kernel
theorem dX6_soSet_23 : decode cX6_soSet 23 = .ok (.ior, 1) := by decide +kernel
theorem dX6_soSet_24 : decode cX6_soSet 24 = .ok (.istore_n 1, 1) := by decide +kernel
theorem dX6_soSet_25 : decode cX6_soSet 25 = .ok (.iinc 2 1, 3) := by decide +kernel
theorem dX6_soSet_28 : decode cX6_soSet 28 = .ok (.goto (-24), 3) := by decide +kernel
theorem dX6_soSet_31 : decode cX6_soSet 31 = .ok (.iload_n 1, 1) := by decide +kernel
theorem dX6_soSet_32 : decode cX6_soSet 32 = .ok (.ireturn, 1) := by decide +kernel
theorem dX6_roughSet_0 : decode cX6_roughSet 0 = .ok (.iconst 0, 1) := by decide +kernel
theorem dX6_roughSet_1 : decode cX6_roughSet 1 = .ok (.istore_n 1, 1) := by decide +kernel
theorem dX6_roughSet_2 : decode cX6_roughSet 2 = .ok (.iconst 0, 1) := by decide +kernel
theorem dX6_roughSet_3 : decode cX6_roughSet 3 = .ok (.istore_n 2, 1) := by decide +kernel
theorem dX6_roughSet_4 : decode cX6_roughSet 4 = .ok (.iload_n 2, 1) := by decide +kernel
theorem dX6_roughSet_5 : decode cX6_roughSet 5 = .ok (.aload_n 0, 1) := by decide +kernel
theorem dX6_roughSet_6 : decode cX6_roughSet 6 = .ok (.getfield 7, 3) := by decide +kernel
theorem dX6_roughSet_9 : decode cX6_roughSet 9 = .ok (.bipush 6, 2) := by decide +kernel
theorem dX6_roughSet_11 : decode cX6_roughSet 11 = .ok (.iaload, 1) := by decide +kernel
theorem dX6_roughSet_12 : decode cX6_roughSet 12 = .ok (.if_icmp .ge 28, 3) := by decide +kernel
theorem dX6_roughSet_15 : decode cX6_roughSet 15 = .ok (.iload_n 1, 1) := by decide +kernel
theorem dX6_roughSet_16 : decode cX6_roughSet 16 = .ok (.aload_n 0, 1) := by decide +kernel
theorem dX6_roughSet_17 : decode cX6_roughSet 17 = .ok (.iload_n 2, 1) := by decide +kernel
theorem dX6_roughSet_18 : decode cX6_roughSet 18 = .ok (.iconst 3, 1) := by decide +kernel
theorem dX6_roughSet_19 : decode cX6_roughSet 19 = .ok (.invokevirtual 187, 3) := by decide +kernel
theorem dX6_roughSet_22 : decode cX6_roughSet 22 = .ok (.ifCond .ne 7, 3) := by decide +kernel
theorem dX6_roughSet_25 : decode cX6_roughSet 25 = .ok (.iconst 0, 1) := by decide +kernel
theorem dX6_roughSet_26 : decode cX6_roughSet 26 = .ok (.goto 6, 3) := by decide +kernel
theorem dX6_roughSet_29 : decode cX6_roughSet 29 = .ok (.iconst 1, 1) := by decide +kernel
theorem dX6_roughSet_30 : decode cX6_roughSet 30 = .ok (.iload_n 2, 1) := by decide +kernel
theorem dX6_roughSet_31 : decode cX6_roughSet 31 = .ok (.ishl, 1) := by decide +kernel
theorem dX6_roughSet_32 : decode cX6_roughSet 32 = .ok (.ior, 1) := by decide +kernel
theorem dX6_roughSet_33 : decode cX6_roughSet 33 = .ok (.istore_n 1, 1) := by decide +kernel
theorem dX6_roughSet_34 : decode cX6_roughSet 34 = .ok (.iinc 2 1, 3) := by decide +kernel
theorem dX6_roughSet_37 : decode cX6_roughSet 37 = .ok (.goto (-33), 3) := by decide +kernel
theorem dX6_roughSet_40 : decode cX6_roughSet 40 = .ok (.iload_n 1, 1) := by decide +kernel
theorem dX6_roughSet_41 : decode cX6_roughSet 41 = .ok (.ireturn, 1) := by decide +kernel
theorem dX6_tenderness_0 : decode cX6_tenderness 0 = .ok (.iconst 0, 1) := by decide +kernel
theorem dX6_tenderness_1 : decode cX6_tenderness 1 = .ok (.istore_n 1, 1) := by decide +kernel
theorem dX6_tenderness_2 : decode cX6_tenderness 2 = .ok (.iconst 0, 1) := by decide +kernel
theorem dX6_tenderness_3 : decode cX6_tenderness 3 = .ok (.istore_n 2, 1) := by decide +kernel
theorem dX6_tenderness_4 : decode cX6_tenderness 4 = .ok (.iload_n 2, 1) := by decide +kernel
theorem dX6_tenderness_5 : decode cX6_tenderness 5 = .ok (.aload_n 0, 1) := by decide +kernel
theorem dX6_tenderness_6 : decode cX6_tenderness 6 = .ok (.getfield 7, 3) := by decide +kernel
theorem dX6_tenderness_9 : decode cX6_tenderness 9 = .ok (.bipush 6, 2) := by decide +kernel
theorem dX6_tenderness_11 : decode cX6_tenderness 11 = .ok (.iaload, 1) := by decide +kernel
theorem dX6_tenderness_12 : decode cX6_tenderness 12 = .ok (.if_icmp .ge 18, 3) := by decide +kernel
theorem dX6_tenderness_15 : decode cX6_tenderness 15 = .ok (.iload_n 1, 1) := by decide +kernel
theorem dX6_tenderness_16 : decode cX6_tenderness 16 = .ok (.aload_n 0, 1) := by decide +kernel
theorem dX6_tenderness_17 : decode cX6_tenderness 17 = .ok (.iload_n 2, 1) := by decide +kernel
theorem dX6_tenderness_18 : decode cX6_tenderness 18 = .ok (.iconst 1, 1) := by decide +kernel
theorem dX6_tenderness_19 : decode cX6_tenderness 19 = .ok (.invokevirtual 187, 3) := by decide +kernel
theorem dX6_tenderness_22 : decode cX6_tenderness 22 = .ok (.iadd, 1) := by decide +kernel
theorem dX6_tenderness_23 : decode cX6_tenderness 23 = .ok (.istore_n 1, 1) := by decide +kernel
theorem dX6_tenderness_24 : decode cX6_tenderness 24 = .ok (.iinc 2 1, 3) := by decide +kernel
theorem dX6_tenderness_27 : decode cX6_tenderness 27 = .ok (.goto (-23), 3) := by decide +kernel
theorem dX6_tenderness_30 : decode cX6_tenderness 30 = .ok (.iload_n 1, 1) := by decide +kernel
theorem dX6_tenderness_31 : decode cX6_tenderness 31 = .ok (.ireturn, 1) := by decide +kernel
theorem dX6_alike_0 : decode cX6_alike 0 = .ok (.aload_n 0, 1) := by decide +kernel
theorem dX6_alike_1 : decode cX6_alike 1 = .ok (.getfield 7, 3) := by decide +kernel
theorem dX6_alike_4 : decode cX6_alike 4 = .ok (.aload_n 0, 1) := by decide +kernel
theorem dX6_alike_5 : decode cX6_alike 5 = .ok (.getfield 19, 3) := by decide +kernel
theorem dX6_alike_8 : decode cX6_alike 8 = .ok (.invokestatic 173, 3) := by decide +kernel
theorem dX6_alike_11 : decode cX6_alike 11 = .ok (.aload_n 0, 1) := by decide +kernel
theorem dX6_alike_12 : decode cX6_alike 12 = .ok (.bipush 12, 2) := by decide +kernel
theorem dX6_alike_14 : decode cX6_alike 14 = .ok (.invokevirtual 228, 3) := by decide +kernel
theorem dX6_alike_17 : decode cX6_alike 17 = .ok (.pop, 1) := by decide +kernel
theorem dX6_alike_18 : decode cX6_alike 18 = .ok (.iconst 0, 1) := by decide +kernel
theorem dX6_alike_19 : decode cX6_alike 19 = .ok (.istore_n 1, 1) := by decide +kernel
theorem dX6_alike_20 : decode cX6_alike 20 = .ok (.iconst 0, 1) := by decide +kernel
theorem dX6_alike_21 : decode cX6_alike 21 = .ok (.istore_n 2, 1) := by decide +kernel
theorem dX6_alike_22 : decode cX6_alike 22 = .ok (.iload_n 2, 1) := by decide +kernel
theorem dX6_alike_23 : decode cX6_alike 23 = .ok (.aload_n 0, 1) := by decide +kernel
theorem dX6_alike_24 : decode cX6_alike 24 = .ok (.getfield 7, 3) := by decide +kernel
theorem dX6_alike_27 : decode cX6_alike 27 = .ok (.bipush 6, 2) := by decide +kernel
theorem dX6_alike_29 : decode cX6_alike 29 = .ok (.iaload, 1) := by decide +kernel
theorem dX6_alike_30 : decode cX6_alike 30 = .ok (.if_icmp .ge 67, 3) := by decide +kernel
theorem dX6_alike_33 : decode cX6_alike 33 = .ok (.iconst 0, 1) := by decide +kernel
theorem dX6_alike_34 : decode cX6_alike 34 = .ok (.istore_n 3, 1) := by decide +kernel
theorem dX6_alike_35 : decode cX6_alike 35 = .ok (.iconst 0, 1) := by decide +kernel
theorem dX6_alike_36 : decode cX6_alike 36 = .ok (.istore 4, 2) := by decide +kernel
theorem dX6_alike_38 : decode cX6_alike 38 = .ok (.iload 4, 2) := by decide +kernel
theorem dX6_alike_40 : decode cX6_alike 40 = .ok (.aload_n 0, 1) := by decide +kernel
theorem dX6_alike_41 : decode cX6_alike 41 = .ok (.getfield 7, 3) := by decide +kernel
theorem dX6_alike_44 : decode cX6_alike 44 = .ok (.bipush 6, 2) := by decide +kernel
theorem dX6_alike_46 : decode cX6_alike 46 = .ok (.iaload, 1) := by decide +kernel
theorem dX6_alike_47 : decode cX6_alike 47 = .ok (.if_icmp .ge 33, 3) := by decide +kernel
theorem dX6_alike_50 : decode cX6_alike 50 = .ok (.iload_n 3, 1) := by decide +kernel
theorem dX6_alike_51 : decode cX6_alike 51 = .ok (.aload_n 0, 1) := by decide +kernel
theorem dX6_alike_52 : decode cX6_alike 52 = .ok (.iload 4, 2) := by decide +kernel
theorem dX6_alike_54 : decode cX6_alike 54 = .ok (.iconst 3, 1) := by decide +kernel
theorem dX6_alike_55 : decode cX6_alike 55 = .ok (.invokevirtual 187, 3) := by decide +kernel
theorem dX6_alike_58 : decode cX6_alike 58 = .ok (.aload_n 0, 1) := by decide +kernel
theorem dX6_alike_59 : decode cX6_alike 59 = .ok (.iload_n 2, 1) := by decide +kernel
theorem dX6_alike_60 : decode cX6_alike 60 = .ok (.iconst 3, 1) := by decide +kernel
theorem dX6_alike_61 : decode cX6_alike 61 = .ok (.invokevirtual 187, 3) := by decide +kernel
theorem dX6_alike_64 : decode cX6_alike 64 = .ok (.if_icmp .ne 7, 3) := by decide +kernel
theorem dX6_alike_67 : decode cX6_alike 67 = .ok (.iconst 1, 1) := by decide +kernel
theorem dX6_alike_68 : decode cX6_alike 68 = .ok (.goto 4, 3) := by decide +kernel
theorem dX6_alike_71 : decode cX6_alike 71 = .ok (.iconst 0, 1) := by decide +kernel
theorem dX6_alike_72 : decode cX6_alike 72 = .ok (.iadd, 1) := by decide +kernel
theorem dX6_alike_73 : decode cX6_alike 73 = .ok (.istore_n 3, 1) := by decide +kernel
theorem dX6_alike_74 : decode cX6_alike 74 = .ok (.iinc 4 1, 3) := by decide +kernel
theorem dX6_alike_77 : decode cX6_alike 77 = .ok (.goto (-39), 3) := by decide +kernel
theorem dX6_alike_80 : decode cX6_alike 80 = .ok (.iload_n 3, 1) := by decide +kernel
theorem dX6_alike_81 : decode cX6_alike 81 = .ok (.iload_n 1, 1) := by decide +kernel
theorem dX6_alike_82 : decode cX6_alike 82 = .ok (.if_icmp .le 7, 3) := by decide +kernel
theorem dX6_alike_85 : decode cX6_alike 85 = .ok (.iload_n 3, 1) := by decide +kernel
theorem dX6_alike_86 : decode cX6_alike 86 = .ok (.goto 4, 3) := by decide +kernel
theorem dX6_alike_89 : decode cX6_alike 89 = .ok (.iload_n 1, 1) := by decide +kernel
theorem dX6_alike_90 : decode cX6_alike 90 = .ok (.istore_n 1, 1) := by decide +kernel
theorem dX6_alike_91 : decode cX6_alike 91 = .ok (.iinc 2 1, 3) := by decide +kernel
theorem dX6_alike_94 : decode cX6_alike 94 = .ok (.goto (-72), 3) := by decide +kernel
theorem dX6_alike_97 : decode cX6_alike 97 = .ok (.aload_n 0, 1) := by decide +kernel
theorem dX6_alike_98 : decode cX6_alike 98 = .ok (.getfield 19, 3) := by decide +kernel
theorem dX6_alike_101 : decode cX6_alike 101 = .ok (.aload_n 0, 1) := by decide +kernel
theorem dX6_alike_102 : decode cX6_alike 102 = .ok (.getfield 7, 3) := by decide +kernel
theorem dX6_alike_105 : decode cX6_alike 105 = .ok (.invokestatic 173, 3) := by decide +kernel
theorem dX6_alike_108 : decode cX6_alike 108 = .ok (.iload_n 1, 1) := by decide +kernel
theorem dX6_alike_109 : decode cX6_alike 109 = .ok (.ireturn, 1) := by decide +kernel
theorem dX6_state_0 : decode cX6_state 0 = .ok (.iload_n 1, 1) := by decide +kernel
theorem dX6_state_1 : decode cX6_state 1 = .ok (.tableswitch 73 0 5 #[39, 46, 53, 58, 63, 68], 39) := by decide +kernel
theorem dX6_state_40 : decode cX6_state 40 = .ok (.aload_n 0, 1) := by decide +kernel
theorem dX6_state_41 : decode cX6_state 41 = .ok (.getfield 7, 3) := by decide +kernel
theorem dX6_state_44 : decode cX6_state 44 = .ok (.iconst 4, 1) := by decide +kernel
theorem dX6_state_45 : decode cX6_state 45 = .ok (.iaload, 1) := by decide +kernel
theorem dX6_state_46 : decode cX6_state 46 = .ok (.ireturn, 1) := by decide +kernel
theorem dX6_state_47 : decode cX6_state 47 = .ok (.aload_n 0, 1) := by decide +kernel
theorem dX6_state_48 : decode cX6_state 48 = .ok (.getfield 7, 3) := by decide +kernel
theorem dX6_state_51 : decode cX6_state 51 = .ok (.iconst 5, 1) := by decide +kernel
theorem dX6_state_52 : decode cX6_state 52 = .ok (.iaload, 1) := by decide +kernel
theorem dX6_state_53 : decode cX6_state 53 = .ok (.ireturn, 1) := by decide +kernel
theorem dX6_state_54 : decode cX6_state 54 = .ok (.aload_n 0, 1) := by decide +kernel
theorem dX6_state_55 : decode cX6_state 55 = .ok (.invokevirtual 241, 3) := by decide +kernel
theorem dX6_state_58 : decode cX6_state 58 = .ok (.ireturn, 1) := by decide +kernel
theorem dX6_state_59 : decode cX6_state 59 = .ok (.aload_n 0, 1) := by decide +kernel
theorem dX6_state_60 : decode cX6_state 60 = .ok (.invokevirtual 244, 3) := by decide +kernel
theorem dX6_state_63 : decode cX6_state 63 = .ok (.ireturn, 1) := by decide +kernel
theorem dX6_state_64 : decode cX6_state 64 = .ok (.aload_n 0, 1) := by decide +kernel
theorem dX6_state_65 : decode cX6_state 65 = .ok (.invokevirtual 247, 3) := by decide +kernel
theorem dX6_state_68 : decode cX6_state 68 = .ok (.ireturn, 1) := by decide +kernel
theorem dX6_state_69 : decode cX6_state 69 = .ok (.aload_n 0, 1) := by decide +kernel
theorem dX6_state_70 : decode cX6_state 70 = .ok (.invokevirtual 250, 3) := by decide +kernel
theorem dX6_state_73 : decode cX6_state 73 = .ok (.ireturn, 1) := by decide +kernel
theorem dX6_state_74 : decode cX6_state 74 = .ok (.iconst (-1), 1) := by decide +kernel
theorem dX6_state_75 : decode cX6_state 75 = .ok (.ireturn, 1) := by decide +kernel
theorem dX6_arm_0 : decode cX6_arm 0 = .ok (.aload_n 0, 1) := by decide +kernel
theorem dX6_arm_1 : decode cX6_arm 1 = .ok (.iload_n 1, 1) := by decide +kernel
theorem dX6_arm_2 : decode cX6_arm 2 = .ok (.invokevirtual 206, 3) := by decide +kernel
theorem dX6_arm_5 : decode cX6_arm 5 = .ok (.ifCond .eq 13, 3) := by decide +kernel
theorem dX6_arm_8 : decode cX6_arm 8 = .ok (.iload_n 2, 1) := by decide +kernel
theorem dX6_arm_9 : decode cX6_arm 9 = .ok (.iconst 0, 1) := by decide +kernel
theorem dX6_arm_10 : decode cX6_arm 10 = .ok (.bipush 60, 2) := by decide +kernel
theorem dX6_arm_12 : decode cX6_arm 12 = .ok (.invokestatic 57, 3) := by decide +kernel
theorem dX6_arm_15 : decode cX6_arm 15 = .ok (.ifCond .ne 5, 3) := by decide +kernel
theorem dX6_arm_18 : decode cX6_arm 18 = .ok (.iconst (-1), 1) := by decide +kernel
theorem dX6_arm_19 : decode cX6_arm 19 = .ok (.ireturn, 1) := by decide +kernel
theorem dX6_arm_20 : decode cX6_arm 20 = .ok (.aload_n 0, 1) := by decide +kernel
theorem dX6_arm_21 : decode cX6_arm 21 = .ok (.getfield 7, 3) := by decide +kernel
theorem dX6_arm_24 : decode cX6_arm 24 = .ok (.aload_n 0, 1) := by decide +kernel
theorem dX6_arm_25 : decode cX6_arm 25 = .ok (.getfield 19, 3) := by decide +kernel
theorem dX6_arm_28 : decode cX6_arm 28 = .ok (.invokestatic 173, 3) := by decide +kernel
theorem dX6_arm_31 : decode cX6_arm 31 = .ok (.aload_n 0, 1) := by decide +kernel
theorem dX6_arm_32 : decode cX6_arm 32 = .ok (.iload_n 2, 1) := by decide +kernel
theorem dX6_arm_33 : decode cX6_arm 33 = .ok (.invokevirtual 228, 3) := by decide +kernel
theorem dX6_arm_36 : decode cX6_arm 36 = .ok (.pop, 1) := by decide +kernel
theorem dX6_arm_37 : decode cX6_arm 37 = .ok (.aload_n 0, 1) := by decide +kernel
theorem dX6_arm_38 : decode cX6_arm 38 = .ok (.iload_n 1, 1) := by decide +kernel
theorem dX6_arm_39 : decode cX6_arm 39 = .ok (.iconst 3, 1) := by decide +kernel
theorem dX6_arm_40 : decode cX6_arm 40 = .ok (.invokevirtual 187, 3) := by decide +kernel
theorem dX6_arm_43 : decode cX6_arm 43 = .ok (.istore_n 3, 1) := by decide +kernel
theorem dX6_arm_44 : decode cX6_arm 44 = .ok (.aload_n 0, 1) := by decide +kernel
theorem dX6_arm_45 : decode cX6_arm 45 = .ok (.getfield 19, 3) := by decide +kernel
theorem dX6_arm_48 : decode cX6_arm 48 = .ok (.aload_n 0, 1) := by decide +kernel
theorem dX6_arm_49 : decode cX6_arm 49 = .ok (.getfield 7, 3) := by decide +kernel
theorem dX6_arm_52 : decode cX6_arm 52 = .ok (.invokestatic 173, 3) := by decide +kernel
theorem dX6_arm_55 : decode cX6_arm 55 = .ok (.iload_n 3, 1) := by decide +kernel
theorem dX6_arm_56 : decode cX6_arm 56 = .ok (.ireturn, 1) := by decide +kernel
theorem dX6_raised_0 : decode cX6_raised 0 = .ok (.aload_n 0, 1) := by decide +kernel
theorem dX6_raised_1 : decode cX6_raised 1 = .ok (.iload_n 1, 1) := by decide +kernel
theorem dX6_raised_2 : decode cX6_raised 2 = .ok (.invokevirtual 206, 3) := by decide +kernel
theorem dX6_raised_5 : decode cX6_raised 5 = .ok (.ifCond .ne 5, 3) := by decide +kernel
theorem dX6_raised_8 : decode cX6_raised 8 = .ok (.iconst (-1), 1) := by decide +kernel
theorem dX6_raised_9 : decode cX6_raised 9 = .ok (.ireturn, 1) := by decide +kernel
theorem dX6_raised_10 : decode cX6_raised 10 = .ok (.aload_n 0, 1) := by decide +kernel
theorem dX6_raised_11 : decode cX6_raised 11 = .ok (.getfield 7, 3) := by decide +kernel
theorem dX6_raised_14 : decode cX6_raised 14 = .ok (.aload_n 0, 1) := by decide +kernel
theorem dX6_raised_15 : decode cX6_raised 15 = .ok (.getfield 19, 3) := by decide +kernel
theorem dX6_raised_18 : decode cX6_raised 18 = .ok (.invokestatic 173, 3) := by decide +kernel
theorem dX6_raised_21 : decode cX6_raised 21 = .ok (.iconst 0, 1) := by decide +kernel
theorem dX6_raised_22 : decode cX6_raised 22 = .ok (.istore_n 2, 1) := by decide +kernel
theorem dX6_raised_23 : decode cX6_raised 23 = .ok (.aload_n 0, 1) := by decide +kernel
theorem dX6_raised_24 : decode cX6_raised 24 = .ok (.iload_n 1, 1) := by decide +kernel
theorem dX6_raised_25 : decode cX6_raised 25 = .ok (.iconst 3, 1) := by decide +kernel
theorem dX6_raised_26 : decode cX6_raised 26 = .ok (.invokevirtual 187, 3) := by decide +kernel
theorem dX6_raised_29 : decode cX6_raised 29 = .ok (.ifCond .ne 22, 3) := by decide +kernel
theorem dX6_raised_32 : decode cX6_raised 32 = .ok (.aload_n 0, 1) := by decide +kernel
theorem dX6_raised_33 : decode cX6_raised 33 = .ok (.invokevirtual 209, 3) := by decide +kernel
theorem dX6_raised_36 : decode cX6_raised 36 = .ok (.ifCond .le 15, 3) := by decide +kernel
theorem dX6_raised_39 : decode cX6_raised 39 = .ok (.aload_n 0, 1) := by decide +kernel
theorem dX6_raised_40 : decode cX6_raised 40 = .ok (.iconst (-1), 1) := by decide +kernel
theorem dX6_raised_41 : decode cX6_raised 41 = .ok (.invokevirtual 225, 3) := by decide +kernel
theorem dX6_raised_44 : decode cX6_raised 44 = .ok (.pop, 1) := by decide +kernel
theorem dX6_raised_45 : decode cX6_raised 45 = .ok (.iinc 2 1, 3) := by decide +kernel
theorem dX6_raised_48 : decode cX6_raised 48 = .ok (.goto (-25), 3) := by decide +kernel
theorem dX6_raised_51 : decode cX6_raised 51 = .ok (.aload_n 0, 1) := by decide +kernel
theorem dX6_raised_52 : decode cX6_raised 52 = .ok (.iload_n 1, 1) := by decide +kernel
theorem dX6_raised_53 : decode cX6_raised 53 = .ok (.iconst 3, 1) := by decide +kernel
theorem dX6_raised_54 : decode cX6_raised 54 = .ok (.invokevirtual 187, 3) := by decide +kernel
theorem dX6_raised_57 : decode cX6_raised 57 = .ok (.ifCond .eq 7, 3) := by decide +kernel
theorem dX6_raised_60 : decode cX6_raised 60 = .ok (.iconst 1, 1) := by decide +kernel
theorem dX6_raised_61 : decode cX6_raised 61 = .ok (.goto 4, 3) := by decide +kernel
theorem dX6_raised_64 : decode cX6_raised 64 = .ok (.iconst 0, 1) := by decide +kernel
theorem dX6_raised_65 : decode cX6_raised 65 = .ok (.istore_n 3, 1) := by decide +kernel
theorem dX6_raised_66 : decode cX6_raised 66 = .ok (.aload_n 0, 1) := by decide +kernel
theorem dX6_raised_67 : decode cX6_raised 67 = .ok (.getfield 19, 3) := by decide +kernel
theorem dX6_raised_70 : decode cX6_raised 70 = .ok (.aload_n 0, 1) := by decide +kernel
theorem dX6_raised_71 : decode cX6_raised 71 = .ok (.getfield 7, 3) := by decide +kernel
theorem dX6_raised_74 : decode cX6_raised 74 = .ok (.invokestatic 173, 3) := by decide +kernel
theorem dX6_raised_77 : decode cX6_raised 77 = .ok (.iload_n 3, 1) := by decide +kernel
theorem dX6_raised_78 : decode cX6_raised 78 = .ok (.ifCond .eq 7, 3) := by decide +kernel
theorem dX6_raised_81 : decode cX6_raised 81 = .ok (.iload_n 2, 1) := by decide +kernel
theorem dX6_raised_82 : decode cX6_raised 82 = .ok (.goto 5, 3) := by decide +kernel
theorem dX6_raised_85 : decode cX6_raised 85 = .ok (.bipush (-3), 2) := by decide +kernel
theorem dX6_raised_87 : decode cX6_raised 87 = .ok (.ireturn, 1) := by decide +kernel
theorem dX6_rightOf_0 : decode cX6_rightOf 0 = .ok (.aload_n 0, 1) := by decide +kernel
theorem dX6_rightOf_1 : decode cX6_rightOf 1 = .ok (.bipush 12, 2) := by decide +kernel
theorem dX6_rightOf_3 : decode cX6_rightOf 3 = .ok (.invokevirtual 228, 3) := by decide +kernel
theorem dX6_rightOf_6 : decode cX6_rightOf 6 = .ok (.pop, 1) := by decide +kernel
theorem dX6_rightOf_7 : decode cX6_rightOf 7 = .ok (.aload_n 0, 1) := by decide +kernel
theorem dX6_rightOf_8 : decode cX6_rightOf 8 = .ok (.iload_n 1, 1) := by decide +kernel
theorem dX6_rightOf_9 : decode cX6_rightOf 9 = .ok (.iconst 3, 1) := by decide +kernel
theorem dX6_rightOf_10 : decode cX6_rightOf 10 = .ok (.invokevirtual 187, 3) := by decide +kernel
theorem dX6_rightOf_13 : decode cX6_rightOf 13 = .ok (.aload_n 0, 1) := by decide +kernel
theorem dX6_rightOf_14 : decode cX6_rightOf 14 = .ok (.invokevirtual 241, 3) := by decide +kernel
theorem dX6_rightOf_17 : decode cX6_rightOf 17 = .ok (.ixor, 1) := by decide +kernel
theorem dX6_rightOf_18 : decode cX6_rightOf 18 = .ok (.invokestatic 238, 3) := by decide +kernel
theorem dX6_rightOf_21 : decode cX6_rightOf 21 = .ok (.istore_n 2, 1) := by decide +kernel
theorem dX6_rightOf_22 : decode cX6_rightOf 22 = .ok (.aload_n 0, 1) := by decide +kernel
theorem dX6_rightOf_23 : decode cX6_rightOf 23 = .ok (.getfield 19, 3) := by decide +kernel
theorem dX6_rightOf_26 : decode cX6_rightOf 26 = .ok (.aload_n 0, 1) := by decide +kernel
theorem dX6_rightOf_27 : decode cX6_rightOf 27 = .ok (.getfield 7, 3) := by decide +kernel
theorem dX6_rightOf_30 : decode cX6_rightOf 30 = .ok (.invokestatic 173, 3) := by decide +kernel
theorem dX6_rightOf_33 : decode cX6_rightOf 33 = .ok (.aload_n 0, 1) := by decide +kernel
theorem dX6_rightOf_34 : decode cX6_rightOf 34 = .ok (.getfield 7, 3) := by decide +kernel
theorem dX6_rightOf_37 : decode cX6_rightOf 37 = .ok (.iconst 5, 1) := by decide +kernel
theorem dX6_rightOf_38 : decode cX6_rightOf 38 = .ok (.iaload, 1) := by decide +kernel
theorem dX6_rightOf_39 : decode cX6_rightOf 39 = .ok (.iload_n 2, 1) := by decide +kernel
theorem dX6_rightOf_40 : decode cX6_rightOf 40 = .ok (.isub, 1) := by decide +kernel
theorem dX6_rightOf_41 : decode cX6_rightOf 41 = .ok (.ireturn, 1) := by decide +kernel
theorem dX6_right_0 : decode cX6_right 0 = .ok (.aload_n 0, 1) := by decide +kernel
theorem dX6_right_1 : decode cX6_right 1 = .ok (.iload_n 1, 1) := by decide +kernel
theorem dX6_right_2 : decode cX6_right 2 = .ok (.invokevirtual 206, 3) := by decide +kernel
theorem dX6_right_5 : decode cX6_right 5 = .ok (.ifCond .ne 5, 3) := by decide +kernel
theorem dX6_right_8 : decode cX6_right 8 = .ok (.iconst (-1), 1) := by decide +kernel
theorem dX6_right_9 : decode cX6_right 9 = .ok (.ireturn, 1) := by decide +kernel
theorem dX6_right_10 : decode cX6_right 10 = .ok (.aload_n 0, 1) := by decide +kernel
theorem dX6_right_11 : decode cX6_right 11 = .ok (.getfield 7, 3) := by decide +kernel
theorem dX6_right_14 : decode cX6_right 14 = .ok (.aload_n 0, 1) := by decide +kernel
theorem dX6_right_15 : decode cX6_right 15 = .ok (.getfield 19, 3) := by decide +kernel
theorem dX6_right_18 : decode cX6_right 18 = .ok (.invokestatic 173, 3) := by decide +kernel
theorem dX6_right_21 : decode cX6_right 21 = .ok (.aload_n 0, 1) := by decide +kernel
theorem dX6_right_22 : decode cX6_right 22 = .ok (.iload_n 1, 1) := by decide +kernel
theorem dX6_right_23 : decode cX6_right 23 = .ok (.invokevirtual 253, 3) := by decide +kernel
theorem dX6_right_26 : decode cX6_right 26 = .ok (.ireturn, 1) := by decide +kernel
theorem dX6_topicFor_0 : decode cX6_topicFor 0 = .ok (.aload_n 0, 1) := by decide +kernel
theorem dX6_topicFor_1 : decode cX6_topicFor 1 = .ok (.iload_n 1, 1) := by decide +kernel
theorem dX6_topicFor_2 : decode cX6_topicFor 2 = .ok (.invokevirtual 190, 3) := by decide +kernel
theorem dX6_topicFor_5 : decode cX6_topicFor 5 = .ok (.ifCond .ne 5, 3) := by decide +kernel
theorem dX6_topicFor_8 : decode cX6_topicFor 8 = .ok (.iconst (-1), 1) := by decide +kernel
theorem dX6_topicFor_9 : decode cX6_topicFor 9 = .ok (.ireturn, 1) := by decide +kernel
theorem dX6_topicFor_10 : decode cX6_topicFor 10 = .ok (.iload_n 1, 1) := by decide +kernel
theorem dX6_topicFor_11 : decode cX6_topicFor 11 = .ok (.aload_n 0, 1) := by decide +kernel
theorem dX6_topicFor_12 : decode cX6_topicFor 12 = .ok (.getfield 7, 3) := by decide +kernel
theorem dX6_topicFor_15 : decode cX6_topicFor 15 = .ok (.iconst 4, 1) := by decide +kernel
theorem dX6_topicFor_16 : decode cX6_topicFor 16 = .ok (.iaload, 1) := by decide +kernel
theorem dX6_topicFor_17 : decode cX6_topicFor 17 = .ok (.if_icmp .ge 6, 3) := by decide +kernel
theorem dX6_topicFor_20 : decode cX6_topicFor 20 = .ok (.bipush (-3), 2) := by decide +kernel
theorem dX6_topicFor_22 : decode cX6_topicFor 22 = .ok (.ireturn, 1) := by decide +kernel
theorem dX6_topicFor_23 : decode cX6_topicFor 23 = .ok (.aload_n 0, 1) := by decide +kernel
theorem dX6_topicFor_24 : decode cX6_topicFor 24 = .ok (.getfield 7, 3) := by decide +kernel
theorem dX6_topicFor_27 : decode cX6_topicFor 27 = .ok (.aload_n 0, 1) := by decide +kernel
theorem dX6_topicFor_28 : decode cX6_topicFor 28 = .ok (.getfield 19, 3) := by decide +kernel
theorem dX6_topicFor_31 : decode cX6_topicFor 31 = .ok (.invokestatic 173, 3) := by decide +kernel
theorem dX6_topicFor_34 : decode cX6_topicFor 34 = .ok (.iconst 0, 1) := by decide +kernel
theorem dX6_topicFor_35 : decode cX6_topicFor 35 = .ok (.istore_n 2, 1) := by decide +kernel
theorem dX6_topicFor_36 : decode cX6_topicFor 36 = .ok (.iconst (-1), 1) := by decide +kernel
theorem dX6_topicFor_37 : decode cX6_topicFor 37 = .ok (.istore_n 3, 1) := by decide +kernel
theorem dX6_topicFor_38 : decode cX6_topicFor 38 = .ok (.iconst 0, 1) := by decide +kernel
theorem dX6_topicFor_39 : decode cX6_topicFor 39 = .ok (.istore 4, 2) := by decide +kernel
theorem dX6_topicFor_41 : decode cX6_topicFor 41 = .ok (.iload 4, 2) := by decide +kernel
theorem dX6_topicFor_43 : decode cX6_topicFor 43 = .ok (.bipush 8, 2) := by decide +kernel
theorem dX6_topicFor_45 : decode cX6_topicFor 45 = .ok (.if_icmp .ge 76, 3) := by decide +kernel
theorem dX6_topicFor_48 : decode cX6_topicFor 48 = .ok (.aload_n 0, 1) := by decide +kernel
theorem dX6_topicFor_49 : decode cX6_topicFor 49 = .ok (.getfield 7, 3) := by decide +kernel
theorem dX6_topicFor_52 : decode cX6_topicFor 52 = .ok (.bipush 8, 2) := by decide +kernel
theorem dX6_topicFor_54 : decode cX6_topicFor 54 = .ok (.iconst 3, 1) := by decide +kernel
theorem dX6_topicFor_55 : decode cX6_topicFor 55 = .ok (.iload_n 1, 1) := by decide +kernel
theorem dX6_topicFor_56 : decode cX6_topicFor 56 = .ok (.imul, 1) := by decide +kernel
theorem dX6_topicFor_57 : decode cX6_topicFor 57 = .ok (.iadd, 1) := by decide +kernel
theorem dX6_topicFor_58 : decode cX6_topicFor 58 = .ok (.iload 4, 2) := by decide +kernel
theorem dX6_topicFor_60 : decode cX6_topicFor 60 = .ok (.iastore, 1) := by decide +kernel
theorem dX6_topicFor_61 : decode cX6_topicFor 61 = .ok (.aload_n 0, 1) := by decide +kernel
theorem dX6_topicFor_62 : decode cX6_topicFor 62 = .ok (.bipush 12, 2) := by decide +kernel
theorem dX6_topicFor_64 : decode cX6_topicFor 64 = .ok (.invokevirtual 228, 3) := by decide +kernel
theorem dX6_topicFor_67 : decode cX6_topicFor 67 = .ok (.pop, 1) := by decide +kernel
theorem dX6_topicFor_68 : decode cX6_topicFor 68 = .ok (.aload_n 0, 1) := by decide +kernel
theorem dX6_topicFor_69 : decode cX6_topicFor 69 = .ok (.iload_n 1, 1) := by decide +kernel
theorem dX6_topicFor_70 : decode cX6_topicFor 70 = .ok (.invokevirtual 196, 3) := by decide +kernel
theorem dX6_topicFor_73 : decode cX6_topicFor 73 = .ok (.invokestatic 238, 3) := by decide +kernel
theorem dX6_topicFor_76 : decode cX6_topicFor 76 = .ok (.istore 5, 2) := by decide +kernel
theorem dX6_topicFor_78 : decode cX6_topicFor 78 = .ok (.aload_n 0, 1) := by decide +kernel
theorem dX6_topicFor_79 : decode cX6_topicFor 79 = .ok (.getfield 19, 3) := by decide +kernel
theorem dX6_topicFor_82 : decode cX6_topicFor 82 = .ok (.aload_n 0, 1) := by decide +kernel
theorem dX6_topicFor_83 : decode cX6_topicFor 83 = .ok (.getfield 7, 3) := by decide +kernel
theorem dX6_topicFor_86 : decode cX6_topicFor 86 = .ok (.invokestatic 173, 3) := by decide +kernel
theorem dX6_topicFor_89 : decode cX6_topicFor 89 = .ok (.iload 5, 2) := by decide +kernel
theorem dX6_topicFor_91 : decode cX6_topicFor 91 = .ok (.iload_n 3, 1) := by decide +kernel
theorem dX6_topicFor_92 : decode cX6_topicFor 92 = .ok (.if_icmp .le 8, 3) := by decide +kernel
theorem dX6_topicFor_95 : decode cX6_topicFor 95 = .ok (.iload 4, 2) := by decide +kernel
theorem dX6_topicFor_97 : decode cX6_topicFor 97 = .ok (.goto 4, 3) := by decide +kernel
theorem dX6_topicFor_100 : decode cX6_topicFor 100 = .ok (.iload_n 2, 1) := by decide +kernel
theorem dX6_topicFor_101 : decode cX6_topicFor 101 = .ok (.istore_n 2, 1) := by decide +kernel
theorem dX6_topicFor_102 : decode cX6_topicFor 102 = .ok (.iload 5, 2) := by decide +kernel
theorem dX6_topicFor_104 : decode cX6_topicFor 104 = .ok (.iload_n 3, 1) := by decide +kernel
theorem dX6_topicFor_105 : decode cX6_topicFor 105 = .ok (.if_icmp .le 8, 3) := by decide +kernel
theorem dX6_topicFor_108 : decode cX6_topicFor 108 = .ok (.iload 5, 2) := by decide +kernel
theorem dX6_topicFor_110 : decode cX6_topicFor 110 = .ok (.goto 4, 3) := by decide +kernel
theorem dX6_topicFor_113 : decode cX6_topicFor 113 = .ok (.iload_n 3, 1) := by decide +kernel
theorem dX6_topicFor_114 : decode cX6_topicFor 114 = .ok (.istore_n 3, 1) := by decide +kernel
theorem dX6_topicFor_115 : decode cX6_topicFor 115 = .ok (.iinc 4 1, 3) := by decide +kernel
theorem dX6_topicFor_118 : decode cX6_topicFor 118 = .ok (.goto (-77), 3) := by decide +kernel
theorem dX6_topicFor_121 : decode cX6_topicFor 121 = .ok (.iload_n 2, 1) := by decide +kernel
theorem dX6_topicFor_122 : decode cX6_topicFor 122 = .ok (.ireturn, 1) := by decide +kernel
theorem dX6_heatFor_0 : decode cX6_heatFor 0 = .ok (.aload_n 0, 1) := by decide +kernel
theorem dX6_heatFor_1 : decode cX6_heatFor 1 = .ok (.iload_n 1, 1) := by decide +kernel
theorem dX6_heatFor_2 : decode cX6_heatFor 2 = .ok (.invokevirtual 190, 3) := by decide +kernel
theorem dX6_heatFor_5 : decode cX6_heatFor 5 = .ok (.ifCond .eq 11, 3) := by decide +kernel
theorem dX6_heatFor_8 : decode cX6_heatFor 8 = .ok (.aload_n 0, 1) := by decide +kernel
theorem dX6_heatFor_9 : decode cX6_heatFor 9 = .ok (.iload_n 2, 1) := by decide +kernel
theorem dX6_heatFor_10 : decode cX6_heatFor 10 = .ok (.invokevirtual 206, 3) := by decide +kernel
theorem dX6_heatFor_13 : decode cX6_heatFor 13 = .ok (.ifCond .ne 5, 3) := by decide +kernel
theorem dX6_heatFor_16 : decode cX6_heatFor 16 = .ok (.iconst (-1), 1) := by decide +kernel
theorem dX6_heatFor_17 : decode cX6_heatFor 17 = .ok (.ireturn, 1) := by decide +kernel
theorem dX6_heatFor_18 : decode cX6_heatFor 18 = .ok (.iload_n 1, 1) := by decide +kernel
theorem dX6_heatFor_19 : decode cX6_heatFor 19 = .ok (.aload_n 0, 1) := by decide +kernel
theorem dX6_heatFor_20 : decode cX6_heatFor 20 = .ok (.getfield 7, 3) := by decide +kernel
theorem dX6_heatFor_23 : decode cX6_heatFor 23 = .ok (.iconst 4, 1) := by decide +kernel
theorem dX6_heatFor_24 : decode cX6_heatFor 24 = .ok (.iaload, 1) := by decide +kernel
theorem dX6_heatFor_25 : decode cX6_heatFor 25 = .ok (.if_icmp .ge 6, 3) := by decide +kernel
theorem dX6_heatFor_28 : decode cX6_heatFor 28 = .ok (.bipush (-3), 2) := by decide +kernel
theorem dX6_heatFor_30 : decode cX6_heatFor 30 = .ok (.ireturn, 1) := by decide +kernel
theorem dX6_heatFor_31 : decode cX6_heatFor 31 = .ok (.aload_n 0, 1) := by decide +kernel
theorem dX6_heatFor_32 : decode cX6_heatFor 32 = .ok (.getfield 7, 3) := by decide +kernel
theorem dX6_heatFor_35 : decode cX6_heatFor 35 = .ok (.aload_n 0, 1) := by decide +kernel
theorem dX6_heatFor_36 : decode cX6_heatFor 36 = .ok (.getfield 19, 3) := by decide +kernel
theorem dX6_heatFor_39 : decode cX6_heatFor 39 = .ok (.invokestatic 173, 3) := by decide +kernel
theorem dX6_heatFor_42 : decode cX6_heatFor 42 = .ok (.iconst (-1), 1) := by decide +kernel
theorem dX6_heatFor_43 : decode cX6_heatFor 43 = .ok (.istore_n 3, 1) := by decide +kernel
theorem dX6_heatFor_44 : decode cX6_heatFor 44 = .ok (.iconst 0, 1) := by decide +kernel
theorem dX6_heatFor_45 : decode cX6_heatFor 45 = .ok (.istore 4, 2) := by decide +kernel
theorem dX6_heatFor_47 : decode cX6_heatFor 47 = .ok (.iload_n 3, 1) := by decide +kernel
theorem dX6_heatFor_48 : decode cX6_heatFor 48 = .ok (.bipush 9, 2) := by decide +kernel
theorem dX6_heatFor_50 : decode cX6_heatFor 50 = .ok (.if_icmp .ge 67, 3) := by decide +kernel
theorem dX6_heatFor_53 : decode cX6_heatFor 53 = .ok (.iload 4, 2) := by decide +kernel
theorem dX6_heatFor_55 : decode cX6_heatFor 55 = .ok (.ifCond .ne 62, 3) := by decide +kernel
theorem dX6_heatFor_58 : decode cX6_heatFor 58 = .ok (.iinc 3 1, 3) := by decide +kernel
theorem dX6_heatFor_61 : decode cX6_heatFor 61 = .ok (.aload_n 0, 1) := by decide +kernel
theorem dX6_heatFor_62 : decode cX6_heatFor 62 = .ok (.getfield 7, 3) := by decide +kernel
theorem dX6_heatFor_65 : decode cX6_heatFor 65 = .ok (.bipush 8, 2) := by decide +kernel
theorem dX6_heatFor_67 : decode cX6_heatFor 67 = .ok (.iconst 3, 1) := by decide +kernel
theorem dX6_heatFor_68 : decode cX6_heatFor 68 = .ok (.iload_n 1, 1) := by decide +kernel
theorem dX6_heatFor_69 : decode cX6_heatFor 69 = .ok (.imul, 1) := by decide +kernel
theorem dX6_heatFor_70 : decode cX6_heatFor 70 = .ok (.iadd, 1) := by decide +kernel
theorem dX6_heatFor_71 : decode cX6_heatFor 71 = .ok (.iconst 1, 1) := by decide +kernel
theorem dX6_heatFor_72 : decode cX6_heatFor 72 = .ok (.iadd, 1) := by decide +kernel
theorem dX6_heatFor_73 : decode cX6_heatFor 73 = .ok (.iload_n 3, 1) := by decide +kernel
theorem dX6_heatFor_74 : decode cX6_heatFor 74 = .ok (.iastore, 1) := by decide +kernel
theorem dX6_heatFor_75 : decode cX6_heatFor 75 = .ok (.aload_n 0, 1) := by decide +kernel
theorem dX6_heatFor_76 : decode cX6_heatFor 76 = .ok (.bipush 12, 2) := by decide +kernel
theorem dX6_heatFor_78 : decode cX6_heatFor 78 = .ok (.invokevirtual 228, 3) := by decide +kernel
theorem dX6_heatFor_81 : decode cX6_heatFor 81 = .ok (.pop, 1) := by decide +kernel
theorem dX6_heatFor_82 : decode cX6_heatFor 82 = .ok (.aload_n 0, 1) := by decide +kernel
theorem dX6_heatFor_83 : decode cX6_heatFor 83 = .ok (.iload_n 2, 1) := by decide +kernel
theorem dX6_heatFor_84 : decode cX6_heatFor 84 = .ok (.iconst 3, 1) := by decide +kernel
theorem dX6_heatFor_85 : decode cX6_heatFor 85 = .ok (.invokevirtual 187, 3) := by decide +kernel
theorem dX6_heatFor_88 : decode cX6_heatFor 88 = .ok (.iload_n 1, 1) := by decide +kernel
theorem dX6_heatFor_89 : decode cX6_heatFor 89 = .ok (.ishr, 1) := by decide +kernel
theorem dX6_heatFor_90 : decode cX6_heatFor 90 = .ok (.iconst 1, 1) := by decide +kernel
theorem dX6_heatFor_91 : decode cX6_heatFor 91 = .ok (.iand, 1) := by decide +kernel
theorem dX6_heatFor_92 : decode cX6_heatFor 92 = .ok (.iconst 1, 1) := by decide +kernel
theorem dX6_heatFor_93 : decode cX6_heatFor 93 = .ok (.if_icmp .ne 7, 3) := by decide +kernel
theorem dX6_heatFor_96 : decode cX6_heatFor 96 = .ok (.iconst 1, 1) := by decide +kernel
theorem dX6_heatFor_97 : decode cX6_heatFor 97 = .ok (.goto 4, 3) := by decide +kernel
theorem dX6_heatFor_100 : decode cX6_heatFor 100 = .ok (.iconst 0, 1) := by decide +kernel
theorem dX6_heatFor_101 : decode cX6_heatFor 101 = .ok (.istore 4, 2) := by decide +kernel
theorem dX6_heatFor_103 : decode cX6_heatFor 103 = .ok (.aload_n 0, 1) := by decide +kernel
theorem dX6_heatFor_104 : decode cX6_heatFor 104 = .ok (.getfield 19, 3) := by decide +kernel
theorem dX6_heatFor_107 : decode cX6_heatFor 107 = .ok (.aload_n 0, 1) := by decide +kernel
theorem dX6_heatFor_108 : decode cX6_heatFor 108 = .ok (.getfield 7, 3) := by decide +kernel
theorem dX6_heatFor_111 : decode cX6_heatFor 111 = .ok (.invokestatic 173, 3) := by decide +kernel
theorem dX6_heatFor_114 : decode cX6_heatFor 114 = .ok (.goto (-67), 3) := by decide +kernel
theorem dX6_heatFor_117 : decode cX6_heatFor 117 = .ok (.iload 4, 2) := by decide +kernel
theorem dX6_heatFor_119 : decode cX6_heatFor 119 = .ok (.ifCond .eq 7, 3) := by decide +kernel
theorem dX6_heatFor_122 : decode cX6_heatFor 122 = .ok (.iload_n 3, 1) := by decide +kernel
theorem dX6_heatFor_123 : decode cX6_heatFor 123 = .ok (.goto 5, 3) := by decide +kernel
theorem dX6_heatFor_126 : decode cX6_heatFor 126 = .ok (.bipush (-3), 2) := by decide +kernel
theorem dX6_heatFor_128 : decode cX6_heatFor 128 = .ok (.ireturn, 1) := by decide +kernel
theorem dX6_bestOf_0 : decode cX6_bestOf 0 = .ok (.aload_n 0, 1) := by decide +kernel
theorem dX6_bestOf_1 : decode cX6_bestOf 1 = .ok (.getfield 7, 3) := by decide +kernel
theorem dX6_bestOf_4 : decode cX6_bestOf 4 = .ok (.aload_n 0, 1) := by decide +kernel
theorem dX6_bestOf_5 : decode cX6_bestOf 5 = .ok (.getfield 19, 3) := by decide +kernel
theorem dX6_bestOf_8 : decode cX6_bestOf 8 = .ok (.invokestatic 173, 3) := by decide +kernel
theorem dX6_bestOf_11 : decode cX6_bestOf 11 = .ok (.iconst 0, 1) := by decide +kernel
theorem dX6_bestOf_12 : decode cX6_bestOf 12 = .ok (.istore 4, 2) := by decide +kernel
theorem dX6_bestOf_14 : decode cX6_bestOf 14 = .ok (.iconst (-1), 1) := by decide +kernel
theorem dX6_bestOf_15 : decode cX6_bestOf 15 = .ok (.istore 5, 2) := by decide +kernel
theorem dX6_bestOf_17 : decode cX6_bestOf 17 = .ok (.iconst 0, 1) := by decide +kernel
theorem dX6_bestOf_18 : decode cX6_bestOf 18 = .ok (.istore 6, 2) := by decide +kernel
theorem dX6_bestOf_20 : decode cX6_bestOf 20 = .ok (.iload 6, 2) := by decide +kernel
theorem dX6_bestOf_22 : decode cX6_bestOf 22 = .ok (.iload_n 3, 1) := by decide +kernel
theorem dX6_bestOf_23 : decode cX6_bestOf 23 = .ok (.if_icmp .gt 56, 3) := by decide +kernel
theorem dX6_bestOf_26 : decode cX6_bestOf 26 = .ok (.aload_n 0, 1) := by decide +kernel
theorem dX6_bestOf_27 : decode cX6_bestOf 27 = .ok (.iload_n 1, 1) := by decide +kernel
theorem dX6_bestOf_28 : decode cX6_bestOf 28 = .ok (.iload_n 2, 1) := by decide +kernel
theorem dX6_bestOf_29 : decode cX6_bestOf 29 = .ok (.iload 6, 2) := by decide +kernel
theorem dX6_bestOf_31 : decode cX6_bestOf 31 = .ok (.invokevirtual 202, 3) := by decide +kernel
theorem dX6_bestOf_34 : decode cX6_bestOf 34 = .ok (.aload_n 0, 1) := by decide +kernel
theorem dX6_bestOf_35 : decode cX6_bestOf 35 = .ok (.iload_n 1, 1) := by decide +kernel
theorem dX6_bestOf_36 : decode cX6_bestOf 36 = .ok (.invokevirtual 253, 3) := by decide +kernel
theorem dX6_bestOf_39 : decode cX6_bestOf 39 = .ok (.istore 7, 2) := by decide +kernel
theorem dX6_bestOf_41 : decode cX6_bestOf 41 = .ok (.iload 7, 2) := by decide +kernel
theorem dX6_bestOf_43 : decode cX6_bestOf 43 = .ok (.iload 5, 2) := by decide +kernel
theorem dX6_bestOf_45 : decode cX6_bestOf 45 = .ok (.if_icmp .le 8, 3) := by decide +kernel
theorem dX6_bestOf_48 : decode cX6_bestOf 48 = .ok (.iload 6, 2) := by decide +kernel
theorem dX6_bestOf_50 : decode cX6_bestOf 50 = .ok (.goto 5, 3) := by decide +kernel
theorem dX6_bestOf_53 : decode cX6_bestOf 53 = .ok (.iload 4, 2) := by decide +kernel
theorem dX6_bestOf_55 : decode cX6_bestOf 55 = .ok (.istore 4, 2) := by decide +kernel
theorem dX6_bestOf_57 : decode cX6_bestOf 57 = .ok (.iload 7, 2) := by decide +kernel
theorem dX6_bestOf_59 : decode cX6_bestOf 59 = .ok (.iload 5, 2) := by decide +kernel
theorem dX6_bestOf_61 : decode cX6_bestOf 61 = .ok (.if_icmp .le 8, 3) := by decide +kernel
theorem dX6_bestOf_64 : decode cX6_bestOf 64 = .ok (.iload 7, 2) := by decide +kernel
theorem dX6_bestOf_66 : decode cX6_bestOf 66 = .ok (.goto 5, 3) := by decide +kernel
theorem dX6_bestOf_69 : decode cX6_bestOf 69 = .ok (.iload 5, 2) := by decide +kernel
theorem dX6_bestOf_71 : decode cX6_bestOf 71 = .ok (.istore 5, 2) := by decide +kernel
theorem dX6_bestOf_73 : decode cX6_bestOf 73 = .ok (.iinc 6 1, 3) := by decide +kernel
theorem dX6_bestOf_76 : decode cX6_bestOf 76 = .ok (.goto (-56), 3) := by decide +kernel
theorem dX6_bestOf_79 : decode cX6_bestOf 79 = .ok (.iload 4, 2) := by decide +kernel
theorem dX6_bestOf_81 : decode cX6_bestOf 81 = .ok (.ireturn, 1) := by decide +kernel
theorem dX6_kindFor_0 : decode cX6_kindFor 0 = .ok (.aload_n 0, 1) := by decide +kernel
theorem dX6_kindFor_1 : decode cX6_kindFor 1 = .ok (.iload_n 1, 1) := by decide +kernel
theorem dX6_kindFor_2 : decode cX6_kindFor 2 = .ok (.invokevirtual 206, 3) := by decide +kernel
theorem dX6_kindFor_5 : decode cX6_kindFor 5 = .ok (.ifCond .eq 13, 3) := by decide +kernel
theorem dX6_kindFor_8 : decode cX6_kindFor 8 = .ok (.aload_n 0, 1) := by decide +kernel
theorem dX6_kindFor_9 : decode cX6_kindFor 9 = .ok (.iload_n 1, 1) := by decide +kernel
theorem dX6_kindFor_10 : decode cX6_kindFor 10 = .ok (.iconst 0, 1) := by decide +kernel
theorem dX6_kindFor_11 : decode cX6_kindFor 11 = .ok (.iconst 5, 1) := by decide +kernel
theorem dX6_kindFor_12 : decode cX6_kindFor 12 = .ok (.invokevirtual 256, 3) := by decide +kernel
theorem dX6_kindFor_15 : decode cX6_kindFor 15 = .ok (.goto 4, 3) := by decide +kernel
theorem dX6_kindFor_18 : decode cX6_kindFor 18 = .ok (.iconst (-1), 1) := by decide +kernel
theorem dX6_kindFor_19 : decode cX6_kindFor 19 = .ok (.ireturn, 1) := by decide +kernel
theorem dX6_tenderFor_0 : decode cX6_tenderFor 0 = .ok (.aload_n 0, 1) := by decide +kernel
theorem dX6_tenderFor_1 : decode cX6_tenderFor 1 = .ok (.iload_n 1, 1) := by decide +kernel
theorem dX6_tenderFor_2 : decode cX6_tenderFor 2 = .ok (.invokevirtual 206, 3) := by decide +kernel
theorem dX6_tenderFor_5 : decode cX6_tenderFor 5 = .ok (.ifCond .eq 14, 3) := by decide +kernel
theorem dX6_tenderFor_8 : decode cX6_tenderFor 8 = .ok (.aload_n 0, 1) := by decide +kernel
theorem dX6_tenderFor_9 : decode cX6_tenderFor 9 = .ok (.iload_n 1, 1) := by decide +kernel
theorem dX6_tenderFor_10 : decode cX6_tenderFor 10 = .ok (.iconst 1, 1) := by decide +kernel
theorem dX6_tenderFor_11 : decode cX6_tenderFor 11 = .ok (.bipush 99, 2) := by decide +kernel
theorem dX6_tenderFor_13 : decode cX6_tenderFor 13 = .ok (.invokevirtual 256, 3) := by decide +kernel
theorem dX6_tenderFor_16 : decode cX6_tenderFor 16 = .ok (.goto 4, 3) := by decide +kernel
theorem dX6_tenderFor_19 : decode cX6_tenderFor 19 = .ok (.iconst (-1), 1) := by decide +kernel
theorem dX6_tenderFor_20 : decode cX6_tenderFor 20 = .ok (.ireturn, 1) := by decide +kernel
theorem dX6_nextFor_0 : decode cX6_nextFor 0 = .ok (.aload_n 0, 1) := by decide +kernel
theorem dX6_nextFor_1 : decode cX6_nextFor 1 = .ok (.iload_n 1, 1) := by decide +kernel
theorem dX6_nextFor_2 : decode cX6_nextFor 2 = .ok (.invokevirtual 206, 3) := by decide +kernel
theorem dX6_nextFor_5 : decode cX6_nextFor 5 = .ok (.ifCond .ne 5, 3) := by decide +kernel
theorem dX6_nextFor_8 : decode cX6_nextFor 8 = .ok (.iconst (-1), 1) := by decide +kernel
theorem dX6_nextFor_9 : decode cX6_nextFor 9 = .ok (.ireturn, 1) := by decide +kernel
theorem dX6_nextFor_10 : decode cX6_nextFor 10 = .ok (.aload_n 0, 1) := by decide +kernel
theorem dX6_nextFor_11 : decode cX6_nextFor 11 = .ok (.getfield 7, 3) := by decide +kernel
theorem dX6_nextFor_14 : decode cX6_nextFor 14 = .ok (.aload_n 0, 1) := by decide +kernel
theorem dX6_nextFor_15 : decode cX6_nextFor 15 = .ok (.getfield 19, 3) := by decide +kernel
theorem dX6_nextFor_18 : decode cX6_nextFor 18 = .ok (.invokestatic 173, 3) := by decide +kernel
theorem dX6_nextFor_21 : decode cX6_nextFor 21 = .ok (.bipush (-3), 2) := by decide +kernel
theorem dX6_nextFor_23 : decode cX6_nextFor 23 = .ok (.istore_n 2, 1) := by decide +kernel
theorem dX6_nextFor_24 : decode cX6_nextFor 24 = .ok (.iconst (-1), 1) := by decide +kernel
theorem dX6_nextFor_25 : decode cX6_nextFor 25 = .ok (.istore_n 3, 1) := by decide +kernel
theorem dX6_nextFor_26 : decode cX6_nextFor 26 = .ok (.aload_n 0, 1) := by decide +kernel
theorem dX6_nextFor_27 : decode cX6_nextFor 27 = .ok (.getfield 7, 3) := by decide +kernel
theorem dX6_nextFor_30 : decode cX6_nextFor 30 = .ok (.iconst 4, 1) := by decide +kernel
theorem dX6_nextFor_31 : decode cX6_nextFor 31 = .ok (.iaload, 1) := by decide +kernel
theorem dX6_nextFor_32 : decode cX6_nextFor 32 = .ok (.istore 4, 2) := by decide +kernel
theorem dX6_nextFor_34 : decode cX6_nextFor 34 = .ok (.aload_n 0, 1) := by decide +kernel
theorem dX6_nextFor_35 : decode cX6_nextFor 35 = .ok (.getfield 7, 3) := by decide +kernel
theorem dX6_nextFor_38 : decode cX6_nextFor 38 = .ok (.iconst 5, 1) := by decide +kernel
theorem dX6_nextFor_39 : decode cX6_nextFor 39 = .ok (.iaload, 1) := by decide +kernel
theorem dX6_nextFor_40 : decode cX6_nextFor 40 = .ok (.istore 5, 2) := by decide +kernel
theorem dX6_nextFor_42 : decode cX6_nextFor 42 = .ok (.iload 4, 2) := by decide +kernel
theorem dX6_nextFor_44 : decode cX6_nextFor 44 = .ok (.istore 6, 2) := by decide +kernel
theorem dX6_nextFor_46 : decode cX6_nextFor 46 = .ok (.iload 6, 2) := by decide +kernel
theorem dX6_nextFor_48 : decode cX6_nextFor 48 = .ok (.iload 5, 2) := by decide +kernel
theorem dX6_nextFor_50 : decode cX6_nextFor 50 = .ok (.if_icmp .ge 117, 3) := by decide +kernel
theorem dX6_nextFor_53 : decode cX6_nextFor 53 = .ok (.iconst 0, 1) := by decide +kernel
theorem dX6_nextFor_54 : decode cX6_nextFor 54 = .ok (.istore 7, 2) := by decide +kernel
theorem dX6_nextFor_56 : decode cX6_nextFor 56 = .ok (.iload 7, 2) := by decide +kernel
theorem dX6_nextFor_58 : decode cX6_nextFor 58 = .ok (.iconst 3, 1) := by decide +kernel
theorem dX6_nextFor_59 : decode cX6_nextFor 59 = .ok (.if_icmp .ge 69, 3) := by decide +kernel
theorem dX6_nextFor_62 : decode cX6_nextFor 62 = .ok (.aload_n 0, 1) := by decide +kernel
theorem dX6_nextFor_63 : decode cX6_nextFor 63 = .ok (.getfield 7, 3) := by decide +kernel
theorem dX6_nextFor_66 : decode cX6_nextFor 66 = .ok (.bipush 8, 2) := by decide +kernel
theorem dX6_nextFor_68 : decode cX6_nextFor 68 = .ok (.iconst 3, 1) := by decide +kernel
theorem dX6_nextFor_69 : decode cX6_nextFor 69 = .ok (.iload 6, 2) := by decide +kernel
theorem dX6_nextFor_71 : decode cX6_nextFor 71 = .ok (.imul, 1) := by decide +kernel
theorem dX6_nextFor_72 : decode cX6_nextFor 72 = .ok (.iadd, 1) := by decide +kernel
theorem dX6_nextFor_73 : decode cX6_nextFor 73 = .ok (.iload 7, 2) := by decide +kernel
theorem dX6_nextFor_75 : decode cX6_nextFor 75 = .ok (.iadd, 1) := by decide +kernel
theorem dX6_nextFor_76 : decode cX6_nextFor 76 = .ok (.aload_n 0, 1) := by decide +kernel
theorem dX6_nextFor_77 : decode cX6_nextFor 77 = .ok (.getfield 19, 3) := by decide +kernel
theorem dX6_nextFor_80 : decode cX6_nextFor 80 = .ok (.bipush 8, 2) := by decide +kernel
theorem dX6_nextFor_82 : decode cX6_nextFor 82 = .ok (.iconst 3, 1) := by decide +kernel
theorem dX6_nextFor_83 : decode cX6_nextFor 83 = .ok (.iload 4, 2) := by decide +kernel
theorem dX6_nextFor_85 : decode cX6_nextFor 85 = .ok (.imul, 1) := by decide +kernel
theorem dX6_nextFor_86 : decode cX6_nextFor 86 = .ok (.iadd, 1) := by decide +kernel
theorem dX6_nextFor_87 : decode cX6_nextFor 87 = .ok (.iload 7, 2) := by decide +kernel
theorem dX6_nextFor_89 : decode cX6_nextFor 89 = .ok (.iadd, 1) := by decide +kernel
theorem dX6_nextFor_90 : decode cX6_nextFor 90 = .ok (.iaload, 1) := by decide +kernel
theorem dX6_nextFor_91 : decode cX6_nextFor 91 = .ok (.iastore, 1) := by decide +kernel
theorem dX6_nextFor_92 : decode cX6_nextFor 92 = .ok (.aload_n 0, 1) := by decide +kernel
theorem dX6_nextFor_93 : decode cX6_nextFor 93 = .ok (.getfield 7, 3) := by decide +kernel
theorem dX6_nextFor_96 : decode cX6_nextFor 96 = .ok (.bipush 8, 2) := by decide +kernel
theorem dX6_nextFor_98 : decode cX6_nextFor 98 = .ok (.iconst 3, 1) := by decide +kernel
theorem dX6_nextFor_99 : decode cX6_nextFor 99 = .ok (.iload 4, 2) := by decide +kernel
theorem dX6_nextFor_101 : decode cX6_nextFor 101 = .ok (.imul, 1) := by decide +kernel
theorem dX6_nextFor_102 : decode cX6_nextFor 102 = .ok (.iadd, 1) := by decide +kernel
theorem dX6_nextFor_103 : decode cX6_nextFor 103 = .ok (.iload 7, 2) := by decide +kernel
theorem dX6_nextFor_105 : decode cX6_nextFor 105 = .ok (.iadd, 1) := by decide +kernel
theorem dX6_nextFor_106 : decode cX6_nextFor 106 = .ok (.aload_n 0, 1) := by decide +kernel
theorem dX6_nextFor_107 : decode cX6_nextFor 107 = .ok (.getfield 19, 3) := by decide +kernel
theorem dX6_nextFor_110 : decode cX6_nextFor 110 = .ok (.bipush 8, 2) := by decide +kernel
theorem dX6_nextFor_112 : decode cX6_nextFor 112 = .ok (.iconst 3, 1) := by decide +kernel
theorem dX6_nextFor_113 : decode cX6_nextFor 113 = .ok (.iload 6, 2) := by decide +kernel
theorem dX6_nextFor_115 : decode cX6_nextFor 115 = .ok (.imul, 1) := by decide +kernel
theorem dX6_nextFor_116 : decode cX6_nextFor 116 = .ok (.iadd, 1) := by decide +kernel
theorem dX6_nextFor_117 : decode cX6_nextFor 117 = .ok (.iload 7, 2) := by decide +kernel
theorem dX6_nextFor_119 : decode cX6_nextFor 119 = .ok (.iadd, 1) := by decide +kernel
theorem dX6_nextFor_120 : decode cX6_nextFor 120 = .ok (.iaload, 1) := by decide +kernel
theorem dX6_nextFor_121 : decode cX6_nextFor 121 = .ok (.iastore, 1) := by decide +kernel
theorem dX6_nextFor_122 : decode cX6_nextFor 122 = .ok (.iinc 7 1, 3) := by decide +kernel
theorem dX6_nextFor_125 : decode cX6_nextFor 125 = .ok (.goto (-69), 3) := by decide +kernel
theorem dX6_nextFor_128 : decode cX6_nextFor 128 = .ok (.aload_n 0, 1) := by decide +kernel
theorem dX6_nextFor_129 : decode cX6_nextFor 129 = .ok (.iload_n 1, 1) := by decide +kernel
theorem dX6_nextFor_130 : decode cX6_nextFor 130 = .ok (.invokevirtual 253, 3) := by decide +kernel
theorem dX6_nextFor_133 : decode cX6_nextFor 133 = .ok (.istore 7, 2) := by decide +kernel
theorem dX6_nextFor_135 : decode cX6_nextFor 135 = .ok (.iload 7, 2) := by decide +kernel
theorem dX6_nextFor_137 : decode cX6_nextFor 137 = .ok (.iload_n 3, 1) := by decide +kernel
theorem dX6_nextFor_138 : decode cX6_nextFor 138 = .ok (.if_icmp .le 8, 3) := by decide +kernel
theorem dX6_nextFor_141 : decode cX6_nextFor 141 = .ok (.iload 6, 2) := by decide +kernel
theorem dX6_nextFor_143 : decode cX6_nextFor 143 = .ok (.goto 4, 3) := by decide +kernel
theorem dX6_nextFor_146 : decode cX6_nextFor 146 = .ok (.iload_n 2, 1) := by decide +kernel
theorem dX6_nextFor_147 : decode cX6_nextFor 147 = .ok (.istore_n 2, 1) := by decide +kernel
theorem dX6_nextFor_148 : decode cX6_nextFor 148 = .ok (.iload 7, 2) := by decide +kernel
theorem dX6_nextFor_150 : decode cX6_nextFor 150 = .ok (.iload_n 3, 1) := by decide +kernel
theorem dX6_nextFor_151 : decode cX6_nextFor 151 = .ok (.if_icmp .le 8, 3) := by decide +kernel
theorem dX6_nextFor_154 : decode cX6_nextFor 154 = .ok (.iload 7, 2) := by decide +kernel
theorem dX6_nextFor_156 : decode cX6_nextFor 156 = .ok (.goto 4, 3) := by decide +kernel
theorem dX6_nextFor_159 : decode cX6_nextFor 159 = .ok (.iload_n 3, 1) := by decide +kernel
theorem dX6_nextFor_160 : decode cX6_nextFor 160 = .ok (.istore_n 3, 1) := by decide +kernel
theorem dX6_nextFor_161 : decode cX6_nextFor 161 = .ok (.iinc 6 1, 3) := by decide +kernel
theorem dX6_nextFor_164 : decode cX6_nextFor 164 = .ok (.goto (-118), 3) := by decide +kernel
theorem dX6_nextFor_167 : decode cX6_nextFor 167 = .ok (.iload_n 2, 1) := by decide +kernel
theorem dX6_nextFor_168 : decode cX6_nextFor 168 = .ok (.ireturn, 1) := by decide +kernel
theorem dX6_isEnough_0 : decode cX6_isEnough 0 = .ok (.iconst 0, 1) := by decide +kernel
theorem dX6_isEnough_1 : decode cX6_isEnough 1 = .ok (.istore_n 2, 1) := by decide +kernel
theorem dX6_isEnough_2 : decode cX6_isEnough 2 = .ok (.iconst 0, 1) := by decide +kernel
theorem dX6_isEnough_3 : decode cX6_isEnough 3 = .ok (.istore_n 3, 1) := by decide +kernel
theorem dX6_isEnough_4 : decode cX6_isEnough 4 = .ok (.iload_n 3, 1) := by decide +kernel
theorem dX6_isEnough_5 : decode cX6_isEnough 5 = .ok (.aload_n 0, 1) := by decide +kernel
theorem dX6_isEnough_6 : decode cX6_isEnough 6 = .ok (.getfield 7, 3) := by decide +kernel
theorem dX6_isEnough_9 : decode cX6_isEnough 9 = .ok (.bipush 6, 2) := by decide +kernel
theorem dX6_isEnough_11 : decode cX6_isEnough 11 = .ok (.iaload, 1) := by decide +kernel
theorem dX6_isEnough_12 : decode cX6_isEnough 12 = .ok (.if_icmp .ge 31, 3) := by decide +kernel
theorem dX6_isEnough_15 : decode cX6_isEnough 15 = .ok (.iload_n 2, 1) := by decide +kernel
theorem dX6_isEnough_16 : decode cX6_isEnough 16 = .ok (.iload_n 1, 1) := by decide +kernel
theorem dX6_isEnough_17 : decode cX6_isEnough 17 = .ok (.iload_n 3, 1) := by decide +kernel
theorem dX6_isEnough_18 : decode cX6_isEnough 18 = .ok (.ishr, 1) := by decide +kernel
theorem dX6_isEnough_19 : decode cX6_isEnough 19 = .ok (.iconst 1, 1) := by decide +kernel
theorem dX6_isEnough_20 : decode cX6_isEnough 20 = .ok (.iand, 1) := by decide +kernel
theorem dX6_isEnough_21 : decode cX6_isEnough 21 = .ok (.iconst 1, 1) := by decide +kernel
theorem dX6_isEnough_22 : decode cX6_isEnough 22 = .ok (.if_icmp .ne 12, 3) := by decide +kernel
theorem dX6_isEnough_25 : decode cX6_isEnough 25 = .ok (.aload_n 0, 1) := by decide +kernel
theorem dX6_isEnough_26 : decode cX6_isEnough 26 = .ok (.iload_n 3, 1) := by decide +kernel
theorem dX6_isEnough_27 : decode cX6_isEnough 27 = .ok (.iconst 3, 1) := by decide +kernel
theorem dX6_isEnough_28 : decode cX6_isEnough 28 = .ok (.invokevirtual 187, 3) := by decide +kernel
theorem dX6_isEnough_31 : decode cX6_isEnough 31 = .ok (.goto 4, 3) := by decide +kernel
theorem dX6_isEnough_34 : decode cX6_isEnough 34 = .ok (.iconst 0, 1) := by decide +kernel
theorem dX6_isEnough_35 : decode cX6_isEnough 35 = .ok (.ior, 1) := by decide +kernel
theorem dX6_isEnough_36 : decode cX6_isEnough 36 = .ok (.istore_n 2, 1) := by decide +kernel
theorem dX6_isEnough_37 : decode cX6_isEnough 37 = .ok (.iinc 3 1, 3) := by decide +kernel
theorem dX6_isEnough_40 : decode cX6_isEnough 40 = .ok (.goto (-36), 3) := by decide +kernel
theorem dX6_isEnough_43 : decode cX6_isEnough 43 = .ok (.aload_n 0, 1) := by decide +kernel
theorem dX6_isEnough_44 : decode cX6_isEnough 44 = .ok (.invokevirtual 241, 3) := by decide +kernel
theorem dX6_isEnough_47 : decode cX6_isEnough 47 = .ok (.iload_n 2, 1) := by decide +kernel
theorem dX6_isEnough_48 : decode cX6_isEnough 48 = .ok (.iconst (-1), 1) := by decide +kernel
theorem dX6_isEnough_49 : decode cX6_isEnough 49 = .ok (.ixor, 1) := by decide +kernel
theorem dX6_isEnough_50 : decode cX6_isEnough 50 = .ok (.iand, 1) := by decide +kernel
theorem dX6_isEnough_51 : decode cX6_isEnough 51 = .ok (.ifCond .ne 7, 3) := by decide +kernel
theorem dX6_isEnough_54 : decode cX6_isEnough 54 = .ok (.iconst 1, 1) := by decide +kernel
theorem dX6_isEnough_55 : decode cX6_isEnough 55 = .ok (.goto 4, 3) := by decide +kernel
theorem dX6_isEnough_58 : decode cX6_isEnough 58 = .ok (.iconst 0, 1) := by decide +kernel
theorem dX6_isEnough_59 : decode cX6_isEnough 59 = .ok (.ireturn, 1) := by decide +kernel
theorem dX6_enough_0 : decode cX6_enough 0 = .ok (.aload_n 0, 1) := by decide +kernel
theorem dX6_enough_1 : decode cX6_enough 1 = .ok (.getfield 7, 3) := by decide +kernel
theorem dX6_enough_4 : decode cX6_enough 4 = .ok (.aload_n 0, 1) := by decide +kernel
theorem dX6_enough_5 : decode cX6_enough 5 = .ok (.getfield 19, 3) := by decide +kernel
theorem dX6_enough_8 : decode cX6_enough 8 = .ok (.invokestatic 173, 3) := by decide +kernel
theorem dX6_enough_11 : decode cX6_enough 11 = .ok (.aload_n 0, 1) := by decide +kernel
theorem dX6_enough_12 : decode cX6_enough 12 = .ok (.bipush 12, 2) := by decide +kernel
theorem dX6_enough_14 : decode cX6_enough 14 = .ok (.invokevirtual 228, 3) := by decide +kernel
theorem dX6_enough_17 : decode cX6_enough 17 = .ok (.pop, 1) := by decide +kernel
theorem dX6_enough_18 : decode cX6_enough 18 = .ok (.iconst (-1), 1) := by decide +kernel
theorem dX6_enough_19 : decode cX6_enough 19 = .ok (.istore_n 1, 1) := by decide +kernel
theorem dX6_enough_20 : decode cX6_enough 20 = .ok (.iconst 0, 1) := by decide +kernel
theorem dX6_enough_21 : decode cX6_enough 21 = .ok (.istore_n 2, 1) := by decide +kernel
theorem dX6_enough_22 : decode cX6_enough 22 = .ok (.iload_n 2, 1) := by decide +kernel
theorem dX6_enough_23 : decode cX6_enough 23 = .ok (.iconst 1, 1) := by decide +kernel
theorem dX6_enough_24 : decode cX6_enough 24 = .ok (.aload_n 0, 1) := by decide +kernel
theorem dX6_enough_25 : decode cX6_enough 25 = .ok (.getfield 7, 3) := by decide +kernel
theorem dX6_enough_28 : decode cX6_enough 28 = .ok (.bipush 6, 2) := by decide +kernel
theorem dX6_enough_30 : decode cX6_enough 30 = .ok (.iaload, 1) := by decide +kernel
theorem dX6_enough_31 : decode cX6_enough 31 = .ok (.ishl, 1) := by decide +kernel
theorem dX6_enough_32 : decode cX6_enough 32 = .ok (.if_icmp .ge 34, 3) := by decide +kernel
theorem dX6_enough_35 : decode cX6_enough 35 = .ok (.iload_n 1, 1) := by decide +kernel
theorem dX6_enough_36 : decode cX6_enough 36 = .ok (.ifCond .lt 14, 3) := by decide +kernel
theorem dX6_enough_39 : decode cX6_enough 39 = .ok (.iload_n 2, 1) := by decide +kernel
theorem dX6_enough_40 : decode cX6_enough 40 = .ok (.invokestatic 238, 3) := by decide +kernel
theorem dX6_enough_43 : decode cX6_enough 43 = .ok (.iload_n 1, 1) := by decide +kernel
theorem dX6_enough_44 : decode cX6_enough 44 = .ok (.invokestatic 238, 3) := by decide +kernel
theorem dX6_enough_47 : decode cX6_enough 47 = .ok (.if_icmp .ge 13, 3) := by decide +kernel
theorem dX6_enough_50 : decode cX6_enough 50 = .ok (.aload_n 0, 1) := by decide +kernel
theorem dX6_enough_51 : decode cX6_enough 51 = .ok (.iload_n 2, 1) := by decide +kernel
theorem dX6_enough_52 : decode cX6_enough 52 = .ok (.invokevirtual 259, 3) := by decide +kernel
theorem dX6_enough_55 : decode cX6_enough 55 = .ok (.ifCond .eq 5, 3) := by decide +kernel
theorem dX6_enough_58 : decode cX6_enough 58 = .ok (.iload_n 2, 1) := by decide +kernel
theorem dX6_enough_59 : decode cX6_enough 59 = .ok (.istore_n 1, 1) := by decide +kernel
theorem dX6_enough_60 : decode cX6_enough 60 = .ok (.iinc 2 1, 3) := by decide +kernel
theorem dX6_enough_63 : decode cX6_enough 63 = .ok (.goto (-41), 3) := by decide +kernel
theorem dX6_enough_66 : decode cX6_enough 66 = .ok (.aload_n 0, 1) := by decide +kernel
theorem dX6_enough_67 : decode cX6_enough 67 = .ok (.getfield 19, 3) := by decide +kernel
theorem dX6_enough_70 : decode cX6_enough 70 = .ok (.aload_n 0, 1) := by decide +kernel
theorem dX6_enough_71 : decode cX6_enough 71 = .ok (.getfield 7, 3) := by decide +kernel
theorem dX6_enough_74 : decode cX6_enough 74 = .ok (.invokestatic 173, 3) := by decide +kernel
theorem dX6_enough_77 : decode cX6_enough 77 = .ok (.iload_n 1, 1) := by decide +kernel
theorem dX6_enough_78 : decode cX6_enough 78 = .ok (.ifCond .ge 8, 3) := by decide +kernel
theorem dX6_enough_81 : decode cX6_enough 81 = .ok (.bipush (-3), 2) := by decide +kernel
theorem dX6_enough_83 : decode cX6_enough 83 = .ok (.goto 4, 3) := by decide +kernel
theorem dX6_enough_86 : decode cX6_enough 86 = .ok (.iload_n 1, 1) := by decide +kernel
theorem dX6_enough_87 : decode cX6_enough 87 = .ok (.ireturn, 1) := by decide +kernel
theorem dX6_isSo_0 : decode cX6_isSo 0 = .ok (.iconst 1, 1) := by decide +kernel
theorem dX6_isSo_1 : decode cX6_isSo 1 = .ok (.istore_n 3, 1) := by decide +kernel
theorem dX6_isSo_2 : decode cX6_isSo 2 = .ok (.iconst 0, 1) := by decide +kernel
theorem dX6_isSo_3 : decode cX6_isSo 3 = .ok (.istore 4, 2) := by decide +kernel
theorem dX6_isSo_5 : decode cX6_isSo 5 = .ok (.iload 4, 2) := by decide +kernel
theorem dX6_isSo_7 : decode cX6_isSo 7 = .ok (.aload_n 0, 1) := by decide +kernel
theorem dX6_isSo_8 : decode cX6_isSo 8 = .ok (.getfield 34, 3) := by decide +kernel
theorem dX6_isSo_11 : decode cX6_isSo 11 = .ok (.iload_n 1, 1) := by decide +kernel
theorem dX6_isSo_12 : decode cX6_isSo 12 = .ok (.iaload, 1) := by decide +kernel
theorem dX6_isSo_13 : decode cX6_isSo 13 = .ok (.if_icmp .ge 75, 3) := by decide +kernel
theorem dX6_isSo_16 : decode cX6_isSo 16 = .ok (.aload_n 0, 1) := by decide +kernel
theorem dX6_isSo_17 : decode cX6_isSo 17 = .ok (.invokevirtual 209, 3) := by decide +kernel
theorem dX6_isSo_20 : decode cX6_isSo 20 = .ok (.ifCond .le 68, 3) := by decide +kernel
theorem dX6_isSo_23 : decode cX6_isSo 23 = .ok (.iload_n 3, 1) := by decide +kernel
theorem dX6_isSo_24 : decode cX6_isSo 24 = .ok (.ifCond .eq 64, 3) := by decide +kernel
theorem dX6_isSo_27 : decode cX6_isSo 27 = .ok (.aload_n 0, 1) := by decide +kernel
theorem dX6_isSo_28 : decode cX6_isSo 28 = .ok (.iconst (-1), 1) := by decide +kernel
theorem dX6_isSo_29 : decode cX6_isSo 29 = .ok (.invokevirtual 225, 3) := by decide +kernel
theorem dX6_isSo_32 : decode cX6_isSo 32 = .ok (.iload_n 2, 1) := by decide +kernel
theorem dX6_isSo_33 : decode cX6_isSo 33 = .ok (.ishr, 1) := by decide +kernel
theorem dX6_isSo_34 : decode cX6_isSo 34 = .ok (.iconst 1, 1) := by decide +kernel
theorem dX6_isSo_35 : decode cX6_isSo 35 = .ok (.iand, 1) := by decide +kernel
theorem dX6_isSo_36 : decode cX6_isSo 36 = .ok (.istore 5, 2) := by decide +kernel
theorem dX6_isSo_38 : decode cX6_isSo 38 = .ok (.aload_n 0, 1) := by decide +kernel
theorem dX6_isSo_39 : decode cX6_isSo 39 = .ok (.getfield 37, 3) := by decide +kernel
theorem dX6_isSo_42 : decode cX6_isSo 42 = .ok (.bipush 40, 2) := by decide +kernel
theorem dX6_isSo_44 : decode cX6_isSo 44 = .ok (.iload_n 1, 1) := by decide +kernel
theorem dX6_isSo_45 : decode cX6_isSo 45 = .ok (.imul, 1) := by decide +kernel
theorem dX6_isSo_46 : decode cX6_isSo 46 = .ok (.iload 4, 2) := by decide +kernel
theorem dX6_isSo_48 : decode cX6_isSo 48 = .ok (.iadd, 1) := by decide +kernel
theorem dX6_isSo_49 : decode cX6_isSo 49 = .ok (.laload, 1) := by decide +kernel
theorem dX6_isSo_50 : decode cX6_isSo 50 = .ok (.ldc2_w 97, 3) := by decide +kernel
theorem dX6_isSo_53 : decode cX6_isSo 53 = .ok (.lcmp, 1) := by decide +kernel
theorem dX6_isSo_54 : decode cX6_isSo 54 = .ok (.ifCond .eq 22, 3) := by decide +kernel
theorem dX6_isSo_57 : decode cX6_isSo 57 = .ok (.aload_n 0, 1) := by decide +kernel
theorem dX6_isSo_58 : decode cX6_isSo 58 = .ok (.getfield 37, 3) := by decide +kernel
theorem dX6_isSo_61 : decode cX6_isSo 61 = .ok (.bipush 40, 2) := by decide +kernel
theorem dX6_isSo_63 : decode cX6_isSo 63 = .ok (.iload_n 1, 1) := by decide +kernel
theorem dX6_isSo_64 : decode cX6_isSo 64 = .ok (.imul, 1) := by decide +kernel
theorem dX6_isSo_65 : decode cX6_isSo 65 = .ok (.iload 4, 2) := by decide +kernel
theorem dX6_isSo_67 : decode cX6_isSo 67 = .ok (.iadd, 1) := by decide +kernel
theorem dX6_isSo_68 : decode cX6_isSo 68 = .ok (.laload, 1) := by decide +kernel
theorem dX6_isSo_69 : decode cX6_isSo 69 = .ok (.iload 5, 2) := by decide +kernel
theorem dX6_isSo_71 : decode cX6_isSo 71 = .ok (.i2l, 1) := by decide +kernel
theorem dX6_isSo_72 : decode cX6_isSo 72 = .ok (.lcmp, 1) := by decide +kernel
theorem dX6_isSo_73 : decode cX6_isSo 73 = .ok (.ifCond .ne 7, 3) := by decide +kernel
theorem dX6_isSo_76 : decode cX6_isSo 76 = .ok (.iconst 1, 1) := by decide +kernel
theorem dX6_isSo_77 : decode cX6_isSo 77 = .ok (.goto 4, 3) := by decide +kernel
theorem dX6_isSo_80 : decode cX6_isSo 80 = .ok (.iconst 0, 1) := by decide +kernel
theorem dX6_isSo_81 : decode cX6_isSo 81 = .ok (.istore_n 3, 1) := by decide +kernel
theorem dX6_isSo_82 : decode cX6_isSo 82 = .ok (.iinc 4 1, 3) := by decide +kernel
theorem dX6_isSo_85 : decode cX6_isSo 85 = .ok (.goto (-80), 3) := by decide +kernel
theorem dX6_isSo_88 : decode cX6_isSo 88 = .ok (.aload_n 0, 1) := by decide +kernel
theorem dX6_isSo_89 : decode cX6_isSo 89 = .ok (.getfield 19, 3) := by decide +kernel
theorem dX6_isSo_92 : decode cX6_isSo 92 = .ok (.aload_n 0, 1) := by decide +kernel
theorem dX6_isSo_93 : decode cX6_isSo 93 = .ok (.getfield 7, 3) := by decide +kernel
theorem dX6_isSo_96 : decode cX6_isSo 96 = .ok (.invokestatic 173, 3) := by decide +kernel
theorem dX6_isSo_99 : decode cX6_isSo 99 = .ok (.iload_n 3, 1) := by decide +kernel
theorem dX6_isSo_100 : decode cX6_isSo 100 = .ok (.ireturn, 1) := by decide +kernel
theorem dX6_fits_0 : decode cX6_fits 0 = .ok (.iload_n 1, 1) := by decide +kernel
theorem dX6_fits_1 : decode cX6_fits 1 = .ok (.invokestatic 262, 3) := by decide +kernel
theorem dX6_fits_4 : decode cX6_fits 4 = .ok (.ifCond .eq 20, 3) := by decide +kernel
theorem dX6_fits_7 : decode cX6_fits 7 = .ok (.aload_n 0, 1) := by decide +kernel
theorem dX6_fits_8 : decode cX6_fits 8 = .ok (.iload_n 2, 1) := by decide +kernel
theorem dX6_fits_9 : decode cX6_fits 9 = .ok (.invokevirtual 206, 3) := by decide +kernel
theorem dX6_fits_12 : decode cX6_fits 12 = .ok (.ifCond .eq 12, 3) := by decide +kernel
theorem dX6_fits_15 : decode cX6_fits 15 = .ok (.iload_n 3, 1) := by decide +kernel
theorem dX6_fits_16 : decode cX6_fits 16 = .ok (.iconst 0, 1) := by decide +kernel
theorem dX6_fits_17 : decode cX6_fits 17 = .ok (.iconst 1, 1) := by decide +kernel
theorem dX6_fits_18 : decode cX6_fits 18 = .ok (.invokestatic 57, 3) := by decide +kernel
theorem dX6_fits_21 : decode cX6_fits 21 = .ok (.ifCond .ne 5, 3) := by decide +kernel
theorem dX6_fits_24 : decode cX6_fits 24 = .ok (.iconst (-1), 1) := by decide +kernel
theorem dX6_fits_25 : decode cX6_fits 25 = .ok (.ireturn, 1) := by decide +kernel
theorem dX6_fits_26 : decode cX6_fits 26 = .ok (.aload_n 0, 1) := by decide +kernel
theorem dX6_fits_27 : decode cX6_fits 27 = .ok (.getfield 31, 3) := by decide +kernel
theorem dX6_fits_30 : decode cX6_fits 30 = .ok (.iload_n 1, 1) := by decide +kernel
theorem dX6_fits_31 : decode cX6_fits 31 = .ok (.iaload, 1) := by decide +kernel
theorem dX6_fits_32 : decode cX6_fits 32 = .ok (.ifCond .ge 6, 3) := by decide +kernel
theorem dX6_fits_35 : decode cX6_fits 35 = .ok (.bipush (-11), 2) := by decide +kernel
theorem dX6_fits_37 : decode cX6_fits 37 = .ok (.ireturn, 1) := by decide +kernel
theorem dX6_fits_38 : decode cX6_fits 38 = .ok (.aload_n 0, 1) := by decide +kernel
theorem dX6_fits_39 : decode cX6_fits 39 = .ok (.getfield 7, 3) := by decide +kernel
theorem dX6_fits_42 : decode cX6_fits 42 = .ok (.aload_n 0, 1) := by decide +kernel
theorem dX6_fits_43 : decode cX6_fits 43 = .ok (.getfield 19, 3) := by decide +kernel
theorem dX6_fits_46 : decode cX6_fits 46 = .ok (.invokestatic 173, 3) := by decide +kernel
theorem dX6_fits_49 : decode cX6_fits 49 = .ok (.iconst 0, 1) := by decide +kernel
theorem dX6_fits_50 : decode cX6_fits 50 = .ok (.istore 4, 2) := by decide +kernel
theorem dX6_fits_52 : decode cX6_fits 52 = .ok (.bipush (-3), 2) := by decide +kernel
theorem dX6_fits_54 : decode cX6_fits 54 = .ok (.istore 5, 2) := by decide +kernel
theorem dX6_fits_56 : decode cX6_fits 56 = .ok (.bipush 99, 2) := by decide +kernel
theorem dX6_fits_58 : decode cX6_fits 58 = .ok (.istore 6, 2) := by decide +kernel
theorem dX6_fits_60 : decode cX6_fits 60 = .ok (.iload 6, 2) := by decide +kernel
theorem dX6_fits_62 : decode cX6_fits 62 = .ok (.ifCond .lt 54, 3) := by decide +kernel
theorem dX6_fits_65 : decode cX6_fits 65 = .ok (.aload_n 0, 1) := by decide +kernel
theorem dX6_fits_66 : decode cX6_fits 66 = .ok (.iload_n 2, 1) := by decide +kernel
theorem dX6_fits_67 : decode cX6_fits 67 = .ok (.iconst 1, 1) := by decide +kernel
theorem dX6_fits_68 : decode cX6_fits 68 = .ok (.iload 6, 2) := by decide +kernel
theorem dX6_fits_70 : decode cX6_fits 70 = .ok (.invokevirtual 202, 3) := by decide +kernel
theorem dX6_fits_73 : decode cX6_fits 73 = .ok (.aload_n 0, 1) := by decide +kernel
theorem dX6_fits_74 : decode cX6_fits 74 = .ok (.iload_n 1, 1) := by decide +kernel
theorem dX6_fits_75 : decode cX6_fits 75 = .ok (.iload_n 2, 1) := by decide +kernel
theorem dX6_fits_76 : decode cX6_fits 76 = .ok (.invokevirtual 265, 3) := by decide +kernel
theorem dX6_fits_79 : decode cX6_fits 79 = .ok (.istore 7, 2) := by decide +kernel
theorem dX6_fits_81 : decode cX6_fits 81 = .ok (.iload 4, 2) := by decide +kernel
theorem dX6_fits_83 : decode cX6_fits 83 = .ok (.iload 7, 2) := by decide +kernel
theorem dX6_fits_85 : decode cX6_fits 85 = .ok (.ifCond .eq 7, 3) := by decide +kernel
theorem dX6_fits_88 : decode cX6_fits 88 = .ok (.iconst 1, 1) := by decide +kernel
theorem dX6_fits_89 : decode cX6_fits 89 = .ok (.goto 4, 3) := by decide +kernel
theorem dX6_fits_92 : decode cX6_fits 92 = .ok (.iconst 0, 1) := by decide +kernel
theorem dX6_fits_93 : decode cX6_fits 93 = .ok (.iadd, 1) := by decide +kernel
theorem dX6_fits_94 : decode cX6_fits 94 = .ok (.istore 4, 2) := by decide +kernel
theorem dX6_fits_96 : decode cX6_fits 96 = .ok (.iload 7, 2) := by decide +kernel
theorem dX6_fits_98 : decode cX6_fits 98 = .ok (.ifCond .eq 8, 3) := by decide +kernel
theorem dX6_fits_101 : decode cX6_fits 101 = .ok (.iload 6, 2) := by decide +kernel
theorem dX6_fits_103 : decode cX6_fits 103 = .ok (.goto 5, 3) := by decide +kernel
theorem dX6_fits_106 : decode cX6_fits 106 = .ok (.iload 5, 2) := by decide +kernel
theorem dX6_fits_108 : decode cX6_fits 108 = .ok (.istore 5, 2) := by decide +kernel
theorem dX6_fits_110 : decode cX6_fits 110 = .ok (.iinc 6 (-1), 3) := by decide +kernel
theorem dX6_fits_113 : decode cX6_fits 113 = .ok (.goto (-53), 3) := by decide +kernel
theorem dX6_fits_116 : decode cX6_fits 116 = .ok (.iload_n 3, 1) := by decide +kernel
theorem dX6_fits_117 : decode cX6_fits 117 = .ok (.ifCond .ne 8, 3) := by decide +kernel
theorem dX6_fits_120 : decode cX6_fits 120 = .ok (.iload 4, 2) := by decide +kernel
theorem dX6_fits_122 : decode cX6_fits 122 = .ok (.goto 5, 3) := by decide +kernel
theorem dX6_fits_125 : decode cX6_fits 125 = .ok (.iload 5, 2) := by decide +kernel
theorem dX6_fits_127 : decode cX6_fits 127 = .ok (.ireturn, 1) := by decide +kernel
theorem dX6_lowest_0 : decode cX6_lowest 0 = .ok (.lload_n 2, 1) := by decide +kernel
theorem dX6_lowest_1 : decode cX6_lowest 1 = .ok (.lstore 5, 2) := by decide +kernel
theorem dX6_lowest_3 : decode cX6_lowest 3 = .ok (.lload_n 0, 1) := by decide +kernel
theorem dX6_lowest_4 : decode cX6_lowest 4 = .ok (.lstore 7, 2) := by decide +kernel
theorem dX6_lowest_6 : decode cX6_lowest 6 = .ok (.lload 7, 2) := by decide +kernel
theorem dX6_lowest_8 : decode cX6_lowest 8 = .ok (.lconst 0, 1) := by decide +kernel
theorem dX6_lowest_9 : decode cX6_lowest 9 = .ok (.lcmp, 1) := by decide +kernel
theorem dX6_lowest_10 : decode cX6_lowest 10 = .ok (.ifCond .eq 21, 3) := by decide +kernel
theorem dX6_lowest_13 : decode cX6_lowest 13 = .ok (.lload 5, 2) := by decide +kernel
theorem dX6_lowest_15 : decode cX6_lowest 15 = .ok (.lload 7, 2) := by decide +kernel
theorem dX6_lowest_17 : decode cX6_lowest 17 = .ok (.lrem, 1) := by decide +kernel
theorem dX6_lowest_18 : decode cX6_lowest 18 = .ok (.lstore 9, 2) := by decide +kernel
theorem dX6_lowest_20 : decode cX6_lowest 20 = .ok (.lload 7, 2) := by decide +kernel
theorem dX6_lowest_22 : decode cX6_lowest 22 = .ok (.lstore 5, 2) := by decide +kernel
theorem dX6_lowest_24 : decode cX6_lowest 24 = .ok (.lload 9, 2) := by decide +kernel
theorem dX6_lowest_26 : decode cX6_lowest 26 = .ok (.lstore 7, 2) := by decide +kernel
theorem dX6_lowest_28 : decode cX6_lowest 28 = .ok (.goto (-22), 3) := by decide +kernel
theorem dX6_lowest_31 : decode cX6_lowest 31 = .ok (.iload 4, 2) := by decide +kernel
theorem dX6_lowest_33 : decode cX6_lowest 33 = .ok (.ifCond .ne 10, 3) := by decide +kernel
theorem dX6_lowest_36 : decode cX6_lowest 36 = .ok (.lload_n 0, 1) := by decide +kernel
theorem dX6_lowest_37 : decode cX6_lowest 37 = .ok (.lload 5, 2) := by decide +kernel
theorem dX6_lowest_39 : decode cX6_lowest 39 = .ok (.ldiv, 1) := by decide +kernel
theorem dX6_lowest_40 : decode cX6_lowest 40 = .ok (.goto 7, 3) := by decide +kernel
theorem dX6_lowest_43 : decode cX6_lowest 43 = .ok (.lload_n 2, 1) := by decide +kernel
theorem dX6_lowest_44 : decode cX6_lowest 44 = .ok (.lload 5, 2) := by decide +kernel
theorem dX6_lowest_46 : decode cX6_lowest 46 = .ok (.ldiv, 1) := by decide +kernel
theorem dX6_lowest_47 : decode cX6_lowest 47 = .ok (.lreturn, 1) := by decide +kernel
theorem dX6_powerOf_0 : decode cX6_powerOf 0 = .ok (.lconst 1, 1) := by decide +kernel
theorem dX6_powerOf_1 : decode cX6_powerOf 1 = .ok (.lstore_n 2, 1) := by decide +kernel
theorem dX6_powerOf_2 : decode cX6_powerOf 2 = .ok (.iconst 0, 1) := by decide +kernel
theorem dX6_powerOf_3 : decode cX6_powerOf 3 = .ok (.istore 4, 2) := by decide +kernel
theorem dX6_powerOf_5 : decode cX6_powerOf 5 = .ok (.iload 4, 2) := by decide +kernel
theorem dX6_powerOf_7 : decode cX6_powerOf 7 = .ok (.iload_n 1, 1) := by decide +kernel
theorem dX6_powerOf_8 : decode cX6_powerOf 8 = .ok (.if_icmp .ge 14, 3) := by decide +kernel
theorem dX6_powerOf_11 : decode cX6_powerOf 11 = .ok (.lload_n 2, 1) := by decide +kernel
theorem dX6_powerOf_12 : decode cX6_powerOf 12 = .ok (.iload_n 0, 1) := by decide +kernel
theorem dX6_powerOf_13 : decode cX6_powerOf 13 = .ok (.i2l, 1) := by decide +kernel
theorem dX6_powerOf_14 : decode cX6_powerOf 14 = .ok (.lmul, 1) := by decide +kernel
theorem dX6_powerOf_15 : decode cX6_powerOf 15 = .ok (.lstore_n 2, 1) := by decide +kernel
theorem dX6_powerOf_16 : decode cX6_powerOf 16 = .ok (.iinc 4 1, 3) := by decide +kernel
theorem dX6_powerOf_19 : decode cX6_powerOf 19 = .ok (.goto (-14), 3) := by decide +kernel
theorem dX6_powerOf_22 : decode cX6_powerOf 22 = .ok (.lload_n 2, 1) := by decide +kernel
theorem dX6_powerOf_23 : decode cX6_powerOf 23 = .ok (.lreturn, 1) := by decide +kernel
theorem dX6_odds_0 : decode cX6_odds 0 = .ok (.iload_n 1, 1) := by decide +kernel
theorem dX6_odds_1 : decode cX6_odds 1 = .ok (.iconst 0, 1) := by decide +kernel
theorem dX6_odds_2 : decode cX6_odds 2 = .ok (.bipush 8, 2) := by decide +kernel
theorem dX6_odds_4 : decode cX6_odds 4 = .ok (.invokestatic 57, 3) := by decide +kernel
theorem dX6_odds_7 : decode cX6_odds 7 = .ok (.ifCond .eq 21, 3) := by decide +kernel
theorem dX6_odds_10 : decode cX6_odds 10 = .ok (.iload_n 2, 1) := by decide +kernel
theorem dX6_odds_11 : decode cX6_odds 11 = .ok (.iconst 0, 1) := by decide +kernel
theorem dX6_odds_12 : decode cX6_odds 12 = .ok (.iload_n 1, 1) := by decide +kernel
theorem dX6_odds_13 : decode cX6_odds 13 = .ok (.invokestatic 57, 3) := by decide +kernel
theorem dX6_odds_16 : decode cX6_odds 16 = .ok (.ifCond .eq 12, 3) := by decide +kernel
theorem dX6_odds_19 : decode cX6_odds 19 = .ok (.iload_n 3, 1) := by decide +kernel
theorem dX6_odds_20 : decode cX6_odds 20 = .ok (.iconst 0, 1) := by decide +kernel
theorem dX6_odds_21 : decode cX6_odds 21 = .ok (.iconst 1, 1) := by decide +kernel
theorem dX6_odds_22 : decode cX6_odds 22 = .ok (.invokestatic 57, 3) := by decide +kernel
theorem dX6_odds_25 : decode cX6_odds 25 = .ok (.ifCond .ne 7, 3) := by decide +kernel
theorem dX6_odds_28 : decode cX6_odds 28 = .ok (.ldc2_w 97, 3) := by decide +kernel
theorem dX6_odds_31 : decode cX6_odds 31 = .ok (.lreturn, 1) := by decide +kernel
theorem dX6_odds_32 : decode cX6_odds 32 = .ok (.lconst 1, 1) := by decide +kernel
theorem dX6_odds_33 : decode cX6_odds 33 = .ok (.lstore 4, 2) := by decide +kernel
theorem dX6_odds_35 : decode cX6_odds 35 = .ok (.iconst 0, 1) := by decide +kernel
theorem dX6_odds_36 : decode cX6_odds 36 = .ok (.istore 6, 2) := by decide +kernel
theorem dX6_odds_38 : decode cX6_odds 38 = .ok (.iload 6, 2) := by decide +kernel
theorem dX6_odds_40 : decode cX6_odds 40 = .ok (.iload_n 2, 1) := by decide +kernel
theorem dX6_odds_41 : decode cX6_odds 41 = .ok (.if_icmp .ge 25, 3) := by decide +kernel
theorem dX6_odds_44 : decode cX6_odds 44 = .ok (.lload 4, 2) := by decide +kernel
theorem dX6_odds_46 : decode cX6_odds 46 = .ok (.iload_n 1, 1) := by decide +kernel
theorem dX6_odds_47 : decode cX6_odds 47 = .ok (.iload 6, 2) := by decide +kernel
theorem dX6_odds_49 : decode cX6_odds 49 = .ok (.isub, 1) := by decide +kernel
theorem dX6_odds_50 : decode cX6_odds 50 = .ok (.i2l, 1) := by decide +kernel
theorem dX6_odds_51 : decode cX6_odds 51 = .ok (.lmul, 1) := by decide +kernel
theorem dX6_odds_52 : decode cX6_odds 52 = .ok (.iload 6, 2) := by decide +kernel
theorem dX6_odds_54 : decode cX6_odds 54 = .ok (.iconst 1, 1) := by decide +kernel
theorem dX6_odds_55 : decode cX6_odds 55 = .ok (.iadd, 1) := by decide +kernel
theorem dX6_odds_56 : decode cX6_odds 56 = .ok (.i2l, 1) := by decide +kernel
theorem dX6_odds_57 : decode cX6_odds 57 = .ok (.ldiv, 1) := by decide +kernel
theorem dX6_odds_58 : decode cX6_odds 58 = .ok (.lstore 4, 2) := by decide +kernel
theorem dX6_odds_60 : decode cX6_odds 60 = .ok (.iinc 6 1, 3) := by decide +kernel
theorem dX6_odds_63 : decode cX6_odds 63 = .ok (.goto (-25), 3) := by decide +kernel
theorem dX6_odds_66 : decode cX6_odds 66 = .ok (.lload 4, 2) := by decide +kernel
theorem dX6_odds_68 : decode cX6_odds 68 = .ok (.aload_n 0, 1) := by decide +kernel
theorem dX6_odds_69 : decode cX6_odds 69 = .ok (.getfield 7, 3) := by decide +kernel
theorem dX6_odds_72 : decode cX6_odds 72 = .ok (.iconst 3, 1) := by decide +kernel
theorem dX6_odds_73 : decode cX6_odds 73 = .ok (.iaload, 1) := by decide +kernel
theorem dX6_odds_74 : decode cX6_odds 74 = .ok (.iload_n 2, 1) := by decide +kernel
theorem dX6_odds_75 : decode cX6_odds 75 = .ok (.invokestatic 268, 3) := by decide +kernel
theorem dX6_odds_78 : decode cX6_odds 78 = .ok (.lmul, 1) := by decide +kernel
theorem dX6_odds_79 : decode cX6_odds 79 = .ok (.bipush 100, 2) := by decide +kernel
theorem dX6_odds_81 : decode cX6_odds 81 = .ok (.aload_n 0, 1) := by decide +kernel
theorem dX6_odds_82 : decode cX6_odds 82 = .ok (.getfield 7, 3) := by decide +kernel
theorem dX6_odds_85 : decode cX6_odds 85 = .ok (.iconst 3, 1) := by decide +kernel
theorem dX6_odds_86 : decode cX6_odds 86 = .ok (.iaload, 1) := by decide +kernel
theorem dX6_odds_87 : decode cX6_odds 87 = .ok (.isub, 1) := by decide +kernel
theorem dX6_odds_88 : decode cX6_odds 88 = .ok (.iload_n 1, 1) := by decide +kernel
theorem dX6_odds_89 : decode cX6_odds 89 = .ok (.iload_n 2, 1) := by decide +kernel
theorem dX6_odds_90 : decode cX6_odds 90 = .ok (.isub, 1) := by decide +kernel
theorem dX6_odds_91 : decode cX6_odds 91 = .ok (.invokestatic 268, 3) := by decide +kernel
theorem dX6_odds_94 : decode cX6_odds 94 = .ok (.lmul, 1) := by decide +kernel
theorem dX6_odds_95 : decode cX6_odds 95 = .ok (.bipush 100, 2) := by decide +kernel
theorem dX6_odds_97 : decode cX6_odds 97 = .ok (.iload_n 1, 1) := by decide +kernel
theorem dX6_odds_98 : decode cX6_odds 98 = .ok (.invokestatic 268, 3) := by decide +kernel
theorem dX6_odds_101 : decode cX6_odds 101 = .ok (.iload_n 3, 1) := by decide +kernel
theorem dX6_odds_102 : decode cX6_odds 102 = .ok (.invokestatic 272, 3) := by decide +kernel
theorem dX6_odds_105 : decode cX6_odds 105 = .ok (.lreturn, 1) := by decide +kernel
theorem dX6_hope_0 : decode cX6_hope 0 = .ok (.iload_n 1, 1) := by decide +kernel
theorem dX6_hope_1 : decode cX6_hope 1 = .ok (.iconst 0, 1) := by decide +kernel
theorem dX6_hope_2 : decode cX6_hope 2 = .ok (.bipush 99, 2) := by decide +kernel
theorem dX6_hope_4 : decode cX6_hope 4 = .ok (.invokestatic 57, 3) := by decide +kernel
theorem dX6_hope_7 : decode cX6_hope 7 = .ok (.ifCond .eq 32, 3) := by decide +kernel
theorem dX6_hope_10 : decode cX6_hope 10 = .ok (.iload_n 2, 1) := by decide +kernel
theorem dX6_hope_11 : decode cX6_hope 11 = .ok (.iconst 0, 1) := by decide +kernel
theorem dX6_hope_12 : decode cX6_hope 12 = .ok (.iconst 1, 1) := by decide +kernel
theorem dX6_hope_13 : decode cX6_hope 13 = .ok (.invokestatic 57, 3) := by decide +kernel
theorem dX6_hope_16 : decode cX6_hope 16 = .ok (.ifCond .eq 23, 3) := by decide +kernel
theorem dX6_hope_19 : decode cX6_hope 19 = .ok (.iload_n 1, 1) := by decide +kernel
theorem dX6_hope_20 : decode cX6_hope 20 = .ok (.i2l, 1) := by decide +kernel
theorem dX6_hope_21 : decode cX6_hope 21 = .ok (.aload_n 0, 1) := by decide +kernel
theorem dX6_hope_22 : decode cX6_hope 22 = .ok (.getfield 7, 3) := by decide +kernel
theorem dX6_hope_25 : decode cX6_hope 25 = .ok (.iconst 3, 1) := by decide +kernel
theorem dX6_hope_26 : decode cX6_hope 26 = .ok (.iaload, 1) := by decide +kernel
theorem dX6_hope_27 : decode cX6_hope 27 = .ok (.i2l, 1) := by decide +kernel
theorem dX6_hope_28 : decode cX6_hope 28 = .ok (.lmul, 1) := by decide +kernel
theorem dX6_hope_29 : decode cX6_hope 29 = .ok (.ldc2_w 276, 3) := by decide +kernel
theorem dX6_hope_32 : decode cX6_hope 32 = .ok (.iload_n 2, 1) := by decide +kernel
theorem dX6_hope_33 : decode cX6_hope 33 = .ok (.invokestatic 272, 3) := by decide +kernel
theorem dX6_hope_36 : decode cX6_hope 36 = .ok (.goto 6, 3) := by decide +kernel
theorem dX6_hope_39 : decode cX6_hope 39 = .ok (.ldc2_w 97, 3) := by decide +kernel
theorem dX6_hope_42 : decode cX6_hope 42 = .ok (.lreturn, 1) := by decide +kernel
theorem dX6_findRows_0 : decode cX6_findRows 0 = .ok (.aload_n 0, 1) := by decide +kernel
theorem dX6_findRows_1 : decode cX6_findRows 1 = .ok (.getfield 7, 3) := by decide +kernel
theorem dX6_findRows_4 : decode cX6_findRows 4 = .ok (.aload_n 0, 1) := by decide +kernel
theorem dX6_findRows_5 : decode cX6_findRows 5 = .ok (.getfield 19, 3) := by decide +kernel
theorem dX6_findRows_8 : decode cX6_findRows 8 = .ok (.invokestatic 173, 3) := by decide +kernel
theorem dX6_findRows_11 : decode cX6_findRows 11 = .ok (.iconst 0, 1) := by decide +kernel
theorem dX6_findRows_12 : decode cX6_findRows 12 = .ok (.istore_n 3, 1) := by decide +kernel
theorem dX6_findRows_13 : decode cX6_findRows 13 = .ok (.iload_n 3, 1) := by decide +kernel
theorem dX6_findRows_14 : decode cX6_findRows 14 = .ok (.iload_n 2, 1) := by decide +kernel
theorem dX6_findRows_15 : decode cX6_findRows 15 = .ok (.if_icmp .ge 68, 3) := by decide +kernel
theorem dX6_findRows_18 : decode cX6_findRows 18 = .ok (.aload_n 0, 1) := by decide +kernel
theorem dX6_findRows_19 : decode cX6_findRows 19 = .ok (.invokevirtual 209, 3) := by decide +kernel
theorem dX6_findRows_22 : decode cX6_findRows 22 = .ok (.ifCond .le 61, 3) := by decide +kernel
theorem dX6_findRows_25 : decode cX6_findRows 25 = .ok (.aload_n 0, 1) := by decide +kernel
theorem dX6_findRows_26 : decode cX6_findRows 26 = .ok (.iconst (-1), 1) := by decide +kernel
theorem dX6_findRows_27 : decode cX6_findRows 27 = .ok (.invokevirtual 225, 3) := by decide +kernel
theorem dX6_findRows_30 : decode cX6_findRows 30 = .ok (.istore 4, 2) := by decide +kernel
theorem dX6_findRows_32 : decode cX6_findRows 32 = .ok (.aload_n 0, 1) := by decide +kernel
theorem dX6_findRows_33 : decode cX6_findRows 33 = .ok (.getfield 28, 3) := by decide +kernel
theorem dX6_findRows_36 : decode cX6_findRows 36 = .ok (.iconst 3, 1) := by decide +kernel
theorem dX6_findRows_37 : decode cX6_findRows 37 = .ok (.iload_n 3, 1) := by decide +kernel
theorem dX6_findRows_38 : decode cX6_findRows 38 = .ok (.imul, 1) := by decide +kernel
theorem dX6_findRows_39 : decode cX6_findRows 39 = .ok (.aload_n 0, 1) := by decide +kernel
theorem dX6_findRows_40 : decode cX6_findRows 40 = .ok (.iload_n 1, 1) := by decide +kernel
theorem dX6_findRows_41 : decode cX6_findRows 41 = .ok (.iconst 3, 1) := by decide +kernel
theorem dX6_findRows_42 : decode cX6_findRows 42 = .ok (.invokevirtual 187, 3) := by decide +kernel
theorem dX6_findRows_45 : decode cX6_findRows 45 = .ok (.iastore, 1) := by decide +kernel
theorem dX6_findRows_46 : decode cX6_findRows 46 = .ok (.aload_n 0, 1) := by decide +kernel
theorem dX6_findRows_47 : decode cX6_findRows 47 = .ok (.getfield 28, 3) := by decide +kernel
theorem dX6_findRows_50 : decode cX6_findRows 50 = .ok (.iconst 3, 1) := by decide +kernel
theorem dX6_findRows_51 : decode cX6_findRows 51 = .ok (.iload_n 3, 1) := by decide +kernel
theorem dX6_findRows_52 : decode cX6_findRows 52 = .ok (.imul, 1) := by decide +kernel
theorem dX6_findRows_53 : decode cX6_findRows 53 = .ok (.iconst 1, 1) := by decide +kernel
theorem dX6_findRows_54 : decode cX6_findRows 54 = .ok (.iadd, 1) := by decide +kernel
theorem dX6_findRows_55 : decode cX6_findRows 55 = .ok (.aload_n 0, 1) := by decide +kernel
theorem dX6_findRows_56 : decode cX6_findRows 56 = .ok (.iload_n 1, 1) := by decide +kernel
theorem dX6_findRows_57 : decode cX6_findRows 57 = .ok (.iconst 1, 1) := by decide +kernel
theorem dX6_findRows_58 : decode cX6_findRows 58 = .ok (.invokevirtual 187, 3) := by decide +kernel
theorem dX6_findRows_61 : decode cX6_findRows 61 = .ok (.iastore, 1) := by decide +kernel
theorem dX6_findRows_62 : decode cX6_findRows 62 = .ok (.aload_n 0, 1) := by decide +kernel
theorem dX6_findRows_63 : decode cX6_findRows 63 = .ok (.getfield 28, 3) := by decide +kernel
theorem dX6_findRows_66 : decode cX6_findRows 66 = .ok (.iconst 3, 1) := by decide +kernel
theorem dX6_findRows_67 : decode cX6_findRows 67 = .ok (.iload_n 3, 1) := by decide +kernel
theorem dX6_findRows_68 : decode cX6_findRows 68 = .ok (.imul, 1) := by decide +kernel
theorem dX6_findRows_69 : decode cX6_findRows 69 = .ok (.iconst 2, 1) := by decide +kernel
theorem dX6_findRows_70 : decode cX6_findRows 70 = .ok (.iadd, 1) := by decide +kernel
theorem dX6_findRows_71 : decode cX6_findRows 71 = .ok (.iload 4, 2) := by decide +kernel
theorem dX6_findRows_73 : decode cX6_findRows 73 = .ok (.invokestatic 238, 3) := by decide +kernel
theorem dX6_findRows_76 : decode cX6_findRows 76 = .ok (.iastore, 1) := by decide +kernel
theorem dX6_findRows_77 : decode cX6_findRows 77 = .ok (.iinc 3 1, 3) := by decide +kernel
theorem dX6_findRows_80 : decode cX6_findRows 80 = .ok (.goto (-67), 3) := by decide +kernel
theorem dX6_findRows_83 : decode cX6_findRows 83 = .ok (.aload_n 0, 1) := by decide +kernel
theorem dX6_findRows_84 : decode cX6_findRows 84 = .ok (.getfield 19, 3) := by decide +kernel
theorem dX6_findRows_87 : decode cX6_findRows 87 = .ok (.aload_n 0, 1) := by decide +kernel
theorem dX6_findRows_88 : decode cX6_findRows 88 = .ok (.getfield 7, 3) := by decide +kernel
theorem dX6_findRows_91 : decode cX6_findRows 91 = .ok (.invokestatic 173, 3) := by decide +kernel
theorem dX6_findRows_94 : decode cX6_findRows 94 = .ok (.iload_n 3, 1) := by decide +kernel
theorem dX6_findRows_95 : decode cX6_findRows 95 = .ok (.ireturn, 1) := by decide +kernel
theorem dX6_prove_0 : decode cX6_prove 0 = .ok (.aload_n 0, 1) := by decide +kernel
theorem dX6_prove_1 : decode cX6_prove 1 = .ok (.iload_n 1, 1) := by decide +kernel
theorem dX6_prove_2 : decode cX6_prove 2 = .ok (.invokevirtual 206, 3) := by decide +kernel
theorem dX6_prove_5 : decode cX6_prove 5 = .ok (.ifCond .eq 13, 3) := by decide +kernel
theorem dX6_prove_8 : decode cX6_prove 8 = .ok (.iload_n 2, 1) := by decide +kernel
theorem dX6_prove_9 : decode cX6_prove 9 = .ok (.iconst 1, 1) := by decide +kernel
theorem dX6_prove_10 : decode cX6_prove 10 = .ok (.bipush 10, 2) := by decide +kernel
theorem dX6_prove_12 : decode cX6_prove 12 = .ok (.invokestatic 57, 3) := by decide +kernel
theorem dX6_prove_15 : decode cX6_prove 15 = .ok (.ifCond .ne 5, 3) := by decide +kernel
theorem dX6_prove_18 : decode cX6_prove 18 = .ok (.iconst (-1), 1) := by decide +kernel
theorem dX6_prove_19 : decode cX6_prove 19 = .ok (.ireturn, 1) := by decide +kernel
theorem dX6_prove_20 : decode cX6_prove 20 = .ok (.aload_n 0, 1) := by decide +kernel
theorem dX6_prove_21 : decode cX6_prove 21 = .ok (.aload_n 0, 1) := by decide +kernel
theorem dX6_prove_22 : decode cX6_prove 22 = .ok (.iload_n 1, 1) := by decide +kernel
theorem dX6_prove_23 : decode cX6_prove 23 = .ok (.iload_n 2, 1) := by decide +kernel
theorem dX6_prove_24 : decode cX6_prove 24 = .ok (.invokevirtual 278, 3) := by decide +kernel
theorem dX6_prove_27 : decode cX6_prove 27 = .ok (.putfield 177, 3) := by decide +kernel
theorem dX6_prove_30 : decode cX6_prove 30 = .ok (.iconst 0, 1) := by decide +kernel
theorem dX6_prove_31 : decode cX6_prove 31 = .ok (.istore_n 3, 1) := by decide +kernel
theorem dX6_prove_32 : decode cX6_prove 32 = .ok (.iload_n 3, 1) := by decide +kernel
theorem dX6_prove_33 : decode cX6_prove 33 = .ok (.iconst 3, 1) := by decide +kernel
theorem dX6_prove_34 : decode cX6_prove 34 = .ok (.aload_n 0, 1) := by decide +kernel
theorem dX6_prove_35 : decode cX6_prove 35 = .ok (.getfield 177, 3) := by decide +kernel
theorem dX6_prove_38 : decode cX6_prove 38 = .ok (.imul, 1) := by decide +kernel
theorem dX6_prove_39 : decode cX6_prove 39 = .ok (.if_icmp .ge 21, 3) := by decide +kernel
theorem dX6_prove_42 : decode cX6_prove 42 = .ok (.aload_n 0, 1) := by decide +kernel
theorem dX6_prove_43 : decode cX6_prove 43 = .ok (.getfield 25, 3) := by decide +kernel
theorem dX6_prove_46 : decode cX6_prove 46 = .ok (.iload_n 3, 1) := by decide +kernel
theorem dX6_prove_47 : decode cX6_prove 47 = .ok (.aload_n 0, 1) := by decide +kernel
theorem dX6_prove_48 : decode cX6_prove 48 = .ok (.getfield 28, 3) := by decide +kernel
theorem dX6_prove_51 : decode cX6_prove 51 = .ok (.iload_n 3, 1) := by decide +kernel
theorem dX6_prove_52 : decode cX6_prove 52 = .ok (.iaload, 1) := by decide +kernel
theorem dX6_prove_53 : decode cX6_prove 53 = .ok (.iastore, 1) := by decide +kernel
theorem dX6_prove_54 : decode cX6_prove 54 = .ok (.iinc 3 1, 3) := by decide +kernel
theorem dX6_prove_57 : decode cX6_prove 57 = .ok (.goto (-25), 3) := by decide +kernel
theorem dX6_prove_60 : decode cX6_prove 60 = .ok (.aload_n 0, 1) := by decide +kernel
theorem dX6_prove_61 : decode cX6_prove 61 = .ok (.getfield 177, 3) := by decide +kernel
theorem dX6_prove_64 : decode cX6_prove 64 = .ok (.ireturn, 1) := by decide +kernel
theorem dX6_isRow_0 : decode cX6_isRow 0 = .ok (.iload_n 1, 1) := by decide +kernel
theorem dX6_isRow_1 : decode cX6_isRow 1 = .ok (.iconst 0, 1) := by decide +kernel
theorem dX6_isRow_2 : decode cX6_isRow 2 = .ok (.aload_n 0, 1) := by decide +kernel
theorem dX6_isRow_3 : decode cX6_isRow 3 = .ok (.getfield 177, 3) := by decide +kernel
theorem dX6_isRow_6 : decode cX6_isRow 6 = .ok (.iconst 1, 1) := by decide +kernel
theorem dX6_isRow_7 : decode cX6_isRow 7 = .ok (.isub, 1) := by decide +kernel
theorem dX6_isRow_8 : decode cX6_isRow 8 = .ok (.invokestatic 57, 3) := by decide +kernel
theorem dX6_isRow_11 : decode cX6_isRow 11 = .ok (.ifCond .eq 16, 3) := by decide +kernel
theorem dX6_isRow_14 : decode cX6_isRow 14 = .ok (.iload_n 2, 1) := by decide +kernel
theorem dX6_isRow_15 : decode cX6_isRow 15 = .ok (.iconst 0, 1) := by decide +kernel
theorem dX6_isRow_16 : decode cX6_isRow 16 = .ok (.iconst 2, 1) := by decide +kernel
theorem dX6_isRow_17 : decode cX6_isRow 17 = .ok (.invokestatic 57, 3) := by decide +kernel
theorem dX6_isRow_20 : decode cX6_isRow 20 = .ok (.ifCond .eq 7, 3) := by decide +kernel
theorem dX6_isRow_23 : decode cX6_isRow 23 = .ok (.iconst 1, 1) := by decide +kernel
theorem dX6_isRow_24 : decode cX6_isRow 24 = .ok (.goto 4, 3) := by decide +kernel
theorem dX6_isRow_27 : decode cX6_isRow 27 = .ok (.iconst 0, 1) := by decide +kernel
theorem dX6_isRow_28 : decode cX6_isRow 28 = .ok (.ireturn, 1) := by decide +kernel
theorem dX6_row_0 : decode cX6_row 0 = .ok (.aload_n 0, 1) := by decide +kernel
theorem dX6_row_1 : decode cX6_row 1 = .ok (.iload_n 1, 1) := by decide +kernel
theorem dX6_row_2 : decode cX6_row 2 = .ok (.iload_n 2, 1) := by decide +kernel
theorem dX6_row_3 : decode cX6_row 3 = .ok (.invokevirtual 281, 3) := by decide +kernel
theorem dX6_row_6 : decode cX6_row 6 = .ok (.ifCond .eq 16, 3) := by decide +kernel
theorem dX6_row_9 : decode cX6_row 9 = .ok (.aload_n 0, 1) := by decide +kernel
theorem dX6_row_10 : decode cX6_row 10 = .ok (.getfield 25, 3) := by decide +kernel
theorem dX6_row_13 : decode cX6_row 13 = .ok (.iconst 3, 1) := by decide +kernel
theorem dX6_row_14 : decode cX6_row 14 = .ok (.iload_n 1, 1) := by decide +kernel
theorem dX6_row_15 : decode cX6_row 15 = .ok (.imul, 1) := by decide +kernel
theorem dX6_row_16 : decode cX6_row 16 = .ok (.iload_n 2, 1) := by decide +kernel
theorem dX6_row_17 : decode cX6_row 17 = .ok (.iadd, 1) := by decide +kernel
theorem dX6_row_18 : decode cX6_row 18 = .ok (.iaload, 1) := by decide +kernel
theorem dX6_row_19 : decode cX6_row 19 = .ok (.goto 5, 3) := by decide +kernel
theorem dX6_row_22 : decode cX6_row 22 = .ok (.bipush (-9), 2) := by decide +kernel
theorem dX6_row_24 : decode cX6_row 24 = .ok (.ireturn, 1) := by decide +kernel
theorem dX6_alterRow_0 : decode cX6_alterRow 0 = .ok (.aload_n 0, 1) := by decide +kernel
theorem dX6_alterRow_1 : decode cX6_alterRow 1 = .ok (.iload_n 1, 1) := by decide +kernel
theorem dX6_alterRow_2 : decode cX6_alterRow 2 = .ok (.iload_n 2, 1) := by decide +kernel
theorem dX6_alterRow_3 : decode cX6_alterRow 3 = .ok (.invokevirtual 281, 3) := by decide +kernel
theorem dX6_alterRow_6 : decode cX6_alterRow 6 = .ok (.ifCond .ne 6, 3) := by decide +kernel
theorem dX6_alterRow_9 : decode cX6_alterRow 9 = .ok (.bipush (-9), 2) := by decide +kernel
theorem dX6_alterRow_11 : decode cX6_alterRow 11 = .ok (.ireturn, 1) := by decide +kernel
theorem dX6_alterRow_12 : decode cX6_alterRow 12 = .ok (.aload_n 0, 1) := by decide +kernel
theorem dX6_alterRow_13 : decode cX6_alterRow 13 = .ok (.getfield 25, 3) := by decide +kernel
theorem dX6_alterRow_16 : decode cX6_alterRow 16 = .ok (.iconst 3, 1) := by decide +kernel
theorem dX6_alterRow_17 : decode cX6_alterRow 17 = .ok (.iload_n 1, 1) := by decide +kernel
theorem dX6_alterRow_18 : decode cX6_alterRow 18 = .ok (.imul, 1) := by decide +kernel
theorem dX6_alterRow_19 : decode cX6_alterRow 19 = .ok (.iload_n 2, 1) := by decide +kernel
theorem dX6_alterRow_20 : decode cX6_alterRow 20 = .ok (.iadd, 1) := by decide +kernel
theorem dX6_alterRow_21 : decode cX6_alterRow 21 = .ok (.iaload, 1) := by decide +kernel
theorem dX6_alterRow_22 : decode cX6_alterRow 22 = .ok (.istore 4, 2) := by decide +kernel
theorem dX6_alterRow_24 : decode cX6_alterRow 24 = .ok (.aload_n 0, 1) := by decide +kernel
theorem dX6_alterRow_25 : decode cX6_alterRow 25 = .ok (.getfield 25, 3) := by decide +kernel
theorem dX6_alterRow_28 : decode cX6_alterRow 28 = .ok (.iconst 3, 1) := by decide +kernel
theorem dX6_alterRow_29 : decode cX6_alterRow 29 = .ok (.iload_n 1, 1) := by decide +kernel
theorem dX6_alterRow_30 : decode cX6_alterRow 30 = .ok (.imul, 1) := by decide +kernel
theorem dX6_alterRow_31 : decode cX6_alterRow 31 = .ok (.iload_n 2, 1) := by decide +kernel
theorem dX6_alterRow_32 : decode cX6_alterRow 32 = .ok (.iadd, 1) := by decide +kernel
theorem dX6_alterRow_33 : decode cX6_alterRow 33 = .ok (.iload_n 3, 1) := by decide +kernel
theorem dX6_alterRow_34 : decode cX6_alterRow 34 = .ok (.iastore, 1) := by decide +kernel
theorem dX6_alterRow_35 : decode cX6_alterRow 35 = .ok (.iload 4, 2) := by decide +kernel
theorem dX6_alterRow_37 : decode cX6_alterRow 37 = .ok (.ireturn, 1) := by decide +kernel
theorem dX6_judge_0 : decode cX6_judge 0 = .ok (.aload_n 0, 1) := by decide +kernel
theorem dX6_judge_1 : decode cX6_judge 1 = .ok (.iload_n 1, 1) := by decide +kernel
theorem dX6_judge_2 : decode cX6_judge 2 = .ok (.invokevirtual 206, 3) := by decide +kernel
theorem dX6_judge_5 : decode cX6_judge 5 = .ok (.ifCond .ne 5, 3) := by decide +kernel
theorem dX6_judge_8 : decode cX6_judge 8 = .ok (.iconst (-1), 1) := by decide +kernel
theorem dX6_judge_9 : decode cX6_judge 9 = .ok (.ireturn, 1) := by decide +kernel
theorem dX6_judge_10 : decode cX6_judge 10 = .ok (.aload_n 0, 1) := by decide +kernel
theorem dX6_judge_11 : decode cX6_judge 11 = .ok (.iload_n 1, 1) := by decide +kernel
theorem dX6_judge_12 : decode cX6_judge 12 = .ok (.aload_n 0, 1) := by decide +kernel
theorem dX6_judge_13 : decode cX6_judge 13 = .ok (.getfield 177, 3) := by decide +kernel
theorem dX6_judge_16 : decode cX6_judge 16 = .ok (.invokevirtual 278, 3) := by decide +kernel
theorem dX6_judge_19 : decode cX6_judge 19 = .ok (.istore_n 2, 1) := by decide +kernel
theorem dX6_judge_20 : decode cX6_judge 20 = .ok (.iconst 0, 1) := by decide +kernel
theorem dX6_judge_21 : decode cX6_judge 21 = .ok (.istore_n 3, 1) := by decide +kernel
theorem dX6_judge_22 : decode cX6_judge 22 = .ok (.iload_n 3, 1) := by decide +kernel
theorem dX6_judge_23 : decode cX6_judge 23 = .ok (.iconst 3, 1) := by decide +kernel
theorem dX6_judge_24 : decode cX6_judge 24 = .ok (.aload_n 0, 1) := by decide +kernel
theorem dX6_judge_25 : decode cX6_judge 25 = .ok (.getfield 177, 3) := by decide +kernel
theorem dX6_judge_28 : decode cX6_judge 28 = .ok (.imul, 1) := by decide +kernel
theorem dX6_judge_29 : decode cX6_judge 29 = .ok (.if_icmp .ge 37, 3) := by decide +kernel
theorem dX6_judge_32 : decode cX6_judge 32 = .ok (.iload_n 3, 1) := by decide +kernel
theorem dX6_judge_33 : decode cX6_judge 33 = .ok (.iconst 3, 1) := by decide +kernel
theorem dX6_judge_34 : decode cX6_judge 34 = .ok (.iload_n 2, 1) := by decide +kernel
theorem dX6_judge_35 : decode cX6_judge 35 = .ok (.imul, 1) := by decide +kernel
theorem dX6_judge_36 : decode cX6_judge 36 = .ok (.if_icmp .ge 18, 3) := by decide +kernel
theorem dX6_judge_39 : decode cX6_judge 39 = .ok (.aload_n 0, 1) := by decide +kernel
theorem dX6_judge_40 : decode cX6_judge 40 = .ok (.getfield 25, 3) := by decide +kernel
theorem dX6_judge_43 : decode cX6_judge 43 = .ok (.iload_n 3, 1) := by decide +kernel
theorem dX6_judge_44 : decode cX6_judge 44 = .ok (.iaload, 1) := by decide +kernel
theorem dX6_judge_45 : decode cX6_judge 45 = .ok (.aload_n 0, 1) := by decide +kernel
theorem dX6_judge_46 : decode cX6_judge 46 = .ok (.getfield 28, 3) := by decide +kernel
theorem dX6_judge_49 : decode cX6_judge 49 = .ok (.iload_n 3, 1) := by decide +kernel
theorem dX6_judge_50 : decode cX6_judge 50 = .ok (.iaload, 1) := by decide +kernel
theorem dX6_judge_51 : decode cX6_judge 51 = .ok (.if_icmp .eq 9, 3) := by decide +kernel
theorem dX6_judge_54 : decode cX6_judge 54 = .ok (.iload_n 3, 1) := by decide +kernel
theorem dX6_judge_55 : decode cX6_judge 55 = .ok (.iconst 3, 1) := by decide +kernel
theorem dX6_judge_56 : decode cX6_judge 56 = .ok (.idiv, 1) := by decide +kernel
theorem dX6_judge_57 : decode cX6_judge 57 = .ok (.iconst 1, 1) := by decide +kernel
theorem dX6_judge_58 : decode cX6_judge 58 = .ok (.iadd, 1) := by decide +kernel
theorem dX6_judge_59 : decode cX6_judge 59 = .ok (.ireturn, 1) := by decide +kernel
theorem dX6_judge_60 : decode cX6_judge 60 = .ok (.iinc 3 1, 3) := by decide +kernel
theorem dX6_judge_63 : decode cX6_judge 63 = .ok (.goto (-41), 3) := by decide +kernel
theorem dX6_judge_66 : decode cX6_judge 66 = .ok (.iconst 0, 1) := by decide +kernel
theorem dX6_judge_67 : decode cX6_judge 67 = .ok (.ireturn, 1) := by decide +kernel
theorem dX6_minds_0 : decode cX6_minds 0 = .ok (.iload_n 1, 1) := by decide +kernel
theorem dX6_minds_1 : decode cX6_minds 1 = .ok (.invokestatic 262, 3) := by decide +kernel
theorem dX6_minds_4 : decode cX6_minds 4 = .ok (.ifCond .eq 36, 3) := by decide +kernel
theorem dX6_minds_7 : decode cX6_minds 7 = .ok (.aload_n 0, 1) := by decide +kernel
theorem dX6_minds_8 : decode cX6_minds 8 = .ok (.iload_n 3, 1) := by decide +kernel
theorem dX6_minds_9 : decode cX6_minds 9 = .ok (.invokevirtual 206, 3) := by decide +kernel
theorem dX6_minds_12 : decode cX6_minds 12 = .ok (.ifCond .eq 28, 3) := by decide +kernel
theorem dX6_minds_15 : decode cX6_minds 15 = .ok (.iload 4, 2) := by decide +kernel
theorem dX6_minds_17 : decode cX6_minds 17 = .ok (.iconst 0, 1) := by decide +kernel
theorem dX6_minds_18 : decode cX6_minds 18 = .ok (.bipush 8, 2) := by decide +kernel
theorem dX6_minds_20 : decode cX6_minds 20 = .ok (.invokestatic 57, 3) := by decide +kernel
theorem dX6_minds_23 : decode cX6_minds 23 = .ok (.ifCond .eq 17, 3) := by decide +kernel
theorem dX6_minds_26 : decode cX6_minds 26 = .ok (.iload 4, 2) := by decide +kernel
theorem dX6_minds_28 : decode cX6_minds 28 = .ok (.aload_n 0, 1) := by decide +kernel
theorem dX6_minds_29 : decode cX6_minds 29 = .ok (.getfield 7, 3) := by decide +kernel
theorem dX6_minds_32 : decode cX6_minds 32 = .ok (.bipush 6, 2) := by decide +kernel
theorem dX6_minds_34 : decode cX6_minds 34 = .ok (.iaload, 1) := by decide +kernel
theorem dX6_minds_35 : decode cX6_minds 35 = .ok (.iload_n 3, 1) := by decide +kernel
theorem dX6_minds_36 : decode cX6_minds 36 = .ok (.isub, 1) := by decide +kernel
theorem dX6_minds_37 : decode cX6_minds 37 = .ok (.if_icmp .le 5, 3) := by decide +kernel
theorem dX6_minds_40 : decode cX6_minds 40 = .ok (.iconst (-1), 1) := by decide +kernel
theorem dX6_minds_41 : decode cX6_minds 41 = .ok (.ireturn, 1) := by decide +kernel
theorem dX6_minds_42 : decode cX6_minds 42 = .ok (.aload_n 0, 1) := by decide +kernel
theorem dX6_minds_43 : decode cX6_minds 43 = .ok (.iload_n 1, 1) := by decide +kernel
theorem dX6_minds_44 : decode cX6_minds 44 = .ok (.iconst 0, 1) := by decide +kernel
theorem dX6_minds_45 : decode cX6_minds 45 = .ok (.invokevirtual 284, 3) := by decide +kernel
theorem dX6_minds_48 : decode cX6_minds 48 = .ok (.istore 5, 2) := by decide +kernel
theorem dX6_minds_50 : decode cX6_minds 50 = .ok (.iload 5, 2) := by decide +kernel
theorem dX6_minds_52 : decode cX6_minds 52 = .ok (.ifCond .eq 6, 3) := by decide +kernel
theorem dX6_minds_55 : decode cX6_minds 55 = .ok (.iload 5, 2) := by decide +kernel
theorem dX6_minds_57 : decode cX6_minds 57 = .ok (.ireturn, 1) := by decide +kernel
theorem dX6_minds_58 : decode cX6_minds 58 = .ok (.iload_n 2, 1) := by decide +kernel
theorem dX6_minds_59 : decode cX6_minds 59 = .ok (.ifCond .lt 16, 3) := by decide +kernel
theorem dX6_minds_62 : decode cX6_minds 62 = .ok (.iload_n 2, 1) := by decide +kernel
theorem dX6_minds_63 : decode cX6_minds 63 = .ok (.aload_n 0, 1) := by decide +kernel
theorem dX6_minds_64 : decode cX6_minds 64 = .ok (.getfield 34, 3) := by decide +kernel
theorem dX6_minds_67 : decode cX6_minds 67 = .ok (.iload_n 1, 1) := by decide +kernel
theorem dX6_minds_68 : decode cX6_minds 68 = .ok (.iaload, 1) := by decide +kernel
theorem dX6_minds_69 : decode cX6_minds 69 = .ok (.iload 4, 2) := by decide +kernel
theorem dX6_minds_71 : decode cX6_minds 71 = .ok (.isub, 1) := by decide +kernel
theorem dX6_minds_72 : decode cX6_minds 72 = .ok (.if_icmp .le 6, 3) := by decide +kernel
theorem dX6_minds_75 : decode cX6_minds 75 = .ok (.bipush (-12), 2) := by decide +kernel
theorem dX6_minds_77 : decode cX6_minds 77 = .ok (.ireturn, 1) := by decide +kernel
theorem dX6_minds_78 : decode cX6_minds 78 = .ok (.iconst 0, 1) := by decide +kernel
theorem dX6_minds_79 : decode cX6_minds 79 = .ok (.istore 6, 2) := by decide +kernel
theorem dX6_minds_81 : decode cX6_minds 81 = .ok (.iload 6, 2) := by decide +kernel
theorem dX6_minds_83 : decode cX6_minds 83 = .ok (.iload 4, 2) := by decide +kernel
theorem dX6_minds_85 : decode cX6_minds 85 = .ok (.if_icmp .ge 39, 3) := by decide +kernel
theorem dX6_minds_88 : decode cX6_minds 88 = .ok (.aload_n 0, 1) := by decide +kernel
theorem dX6_minds_89 : decode cX6_minds 89 = .ok (.iload_n 3, 1) := by decide +kernel
theorem dX6_minds_90 : decode cX6_minds 90 = .ok (.iload 6, 2) := by decide +kernel
theorem dX6_minds_92 : decode cX6_minds 92 = .ok (.iadd, 1) := by decide +kernel
theorem dX6_minds_93 : decode cX6_minds 93 = .ok (.iconst 1, 1) := by decide +kernel
theorem dX6_minds_94 : decode cX6_minds 94 = .ok (.aload_n 0, 1) := by decide +kernel
theorem dX6_minds_95 : decode cX6_minds 95 = .ok (.getfield 37, 3) := by decide +kernel
theorem dX6_minds_98 : decode cX6_minds 98 = .ok (.bipush 40, 2) := by decide +kernel
theorem dX6_minds_100 : decode cX6_minds 100 = .ok (.iload_n 1, 1) := by decide +kernel
theorem dX6_minds_101 : decode cX6_minds 101 = .ok (.imul, 1) := by decide +kernel
theorem dX6_minds_102 : decode cX6_minds 102 = .ok (.iload_n 2, 1) := by decide +kernel
theorem dX6_minds_103 : decode cX6_minds 103 = .ok (.iadd, 1) := by decide +kernel
theorem dX6_minds_104 : decode cX6_minds 104 = .ok (.iload 6, 2) := by decide +kernel
theorem dX6_minds_106 : decode cX6_minds 106 = .ok (.iadd, 1) := by decide +kernel
theorem dX6_minds_107 : decode cX6_minds 107 = .ok (.laload, 1) := by decide +kernel
theorem dX6_minds_108 : decode cX6_minds 108 = .ok (.l2i, 1) := by decide +kernel
theorem dX6_minds_109 : decode cX6_minds 109 = .ok (.iconst 0, 1) := by decide +kernel
theorem dX6_minds_110 : decode cX6_minds 110 = .ok (.bipush 99, 2) := by decide +kernel
theorem dX6_minds_112 : decode cX6_minds 112 = .ok (.invokestatic 221, 3) := by decide +kernel
theorem dX6_minds_115 : decode cX6_minds 115 = .ok (.invokevirtual 202, 3) := by decide +kernel
theorem dX6_minds_118 : decode cX6_minds 118 = .ok (.iinc 6 1, 3) := by decide +kernel
theorem dX6_minds_121 : decode cX6_minds 121 = .ok (.goto (-40), 3) := by decide +kernel
theorem dX6_minds_124 : decode cX6_minds 124 = .ok (.iload 4, 2) := by decide +kernel
theorem dX6_minds_126 : decode cX6_minds 126 = .ok (.ireturn, 1) := by decide +kernel
theorem dX6_isShelf_0 : decode cX6_isShelf 0 = .ok (.iload_n 0, 1) := by decide +kernel
theorem dX6_isShelf_1 : decode cX6_isShelf 1 = .ok (.iconst 0, 1) := by decide +kernel
theorem dX6_isShelf_2 : decode cX6_isShelf 2 = .ok (.iconst 3, 1) := by decide +kernel
theorem dX6_isShelf_3 : decode cX6_isShelf 3 = .ok (.invokestatic 57, 3) := by decide +kernel
theorem dX6_isShelf_6 : decode cX6_isShelf 6 = .ok (.ireturn, 1) := by decide +kernel
theorem dX6_sheet_0 : decode cX6_sheet 0 = .ok (.iload_n 1, 1) := by decide +kernel
theorem dX6_sheet_1 : decode cX6_sheet 1 = .ok (.invokestatic 262, 3) := by decide +kernel
theorem dX6_sheet_4 : decode cX6_sheet 4 = .ok (.ifCond .eq 22, 3) := by decide +kernel
theorem dX6_sheet_7 : decode cX6_sheet 7 = .ok (.iload_n 2, 1) := by decide +kernel
theorem dX6_sheet_8 : decode cX6_sheet 8 = .ok (.iconst (-1), 1) := by decide +kernel
theorem dX6_sheet_9 : decode cX6_sheet 9 = .ok (.iconst 3, 1) := by decide +kernel
theorem dX6_sheet_10 : decode cX6_sheet 10 = .ok (.invokestatic 57, 3) := by decide +kernel
theorem dX6_sheet_13 : decode cX6_sheet 13 = .ok (.ifCond .eq 13, 3) := by decide +kernel
theorem dX6_sheet_16 : decode cX6_sheet 16 = .ok (.iload_n 2, 1) := by decide +kernel
theorem dX6_sheet_17 : decode cX6_sheet 17 = .ok (.ifCond .lt 11, 3) := by decide +kernel
theorem dX6_sheet_20 : decode cX6_sheet 20 = .ok (.iload_n 3, 1) := by decide +kernel
theorem dX6_sheet_21 : decode cX6_sheet 21 = .ok (.bipush 40, 2) := by decide +kernel
theorem dX6_sheet_23 : decode cX6_sheet 23 = .ok (.if_icmp .le 5, 3) := by decide +kernel
theorem dX6_sheet_26 : decode cX6_sheet 26 = .ok (.iconst (-1), 1) := by decide +kernel
theorem dX6_sheet_27 : decode cX6_sheet 27 = .ok (.ireturn, 1) := by decide +kernel
theorem dX6_sheet_28 : decode cX6_sheet 28 = .ok (.iload_n 2, 1) := by decide +kernel
theorem dX6_sheet_29 : decode cX6_sheet 29 = .ok (.ifCond .lt 10, 3) := by decide +kernel
theorem dX6_sheet_32 : decode cX6_sheet 32 = .ok (.iload_n 3, 1) := by decide +kernel
theorem dX6_sheet_33 : decode cX6_sheet 33 = .ok (.ifCond .ge 6, 3) := by decide +kernel
theorem dX6_sheet_36 : decode cX6_sheet 36 = .ok (.bipush (-14), 2) := by decide +kernel
theorem dX6_sheet_38 : decode cX6_sheet 38 = .ok (.ireturn, 1) := by decide +kernel
theorem dX6_sheet_39 : decode cX6_sheet 39 = .ok (.aload_n 0, 1) := by decide +kernel
theorem dX6_sheet_40 : decode cX6_sheet 40 = .ok (.getfield 31, 3) := by decide +kernel
theorem dX6_sheet_43 : decode cX6_sheet 43 = .ok (.iload_n 1, 1) := by decide +kernel
theorem dX6_sheet_44 : decode cX6_sheet 44 = .ok (.iload_n 2, 1) := by decide +kernel
theorem dX6_sheet_45 : decode cX6_sheet 45 = .ok (.iastore, 1) := by decide +kernel
theorem dX6_sheet_46 : decode cX6_sheet 46 = .ok (.aload_n 0, 1) := by decide +kernel
theorem dX6_sheet_47 : decode cX6_sheet 47 = .ok (.getfield 34, 3) := by decide +kernel
theorem dX6_sheet_50 : decode cX6_sheet 50 = .ok (.iload_n 1, 1) := by decide +kernel
theorem dX6_sheet_51 : decode cX6_sheet 51 = .ok (.iload_n 2, 1) := by decide +kernel
theorem dX6_sheet_52 : decode cX6_sheet 52 = .ok (.ifCond .ge 7, 3) := by decide +kernel
theorem dX6_sheet_55 : decode cX6_sheet 55 = .ok (.iconst 0, 1) := by decide +kernel
theorem dX6_sheet_56 : decode cX6_sheet 56 = .ok (.goto 4, 3) := by decide +kernel
theorem dX6_sheet_59 : decode cX6_sheet 59 = .ok (.iload_n 3, 1) := by decide +kernel
theorem dX6_sheet_60 : decode cX6_sheet 60 = .ok (.iastore, 1) := by decide +kernel
theorem dX6_sheet_61 : decode cX6_sheet 61 = .ok (.iconst 0, 1) := by decide +kernel
theorem dX6_sheet_62 : decode cX6_sheet 62 = .ok (.istore 4, 2) := by decide +kernel
theorem dX6_sheet_64 : decode cX6_sheet 64 = .ok (.iload 4, 2) := by decide +kernel
theorem dX6_sheet_66 : decode cX6_sheet 66 = .ok (.bipush 40, 2) := by decide +kernel
theorem dX6_sheet_68 : decode cX6_sheet 68 = .ok (.if_icmp .ge 22, 3) := by decide +kernel
theorem dX6_sheet_71 : decode cX6_sheet 71 = .ok (.aload_n 0, 1) := by decide +kernel
theorem dX6_sheet_72 : decode cX6_sheet 72 = .ok (.getfield 37, 3) := by decide +kernel
theorem dX6_sheet_75 : decode cX6_sheet 75 = .ok (.bipush 40, 2) := by decide +kernel
theorem dX6_sheet_77 : decode cX6_sheet 77 = .ok (.iload_n 1, 1) := by decide +kernel
theorem dX6_sheet_78 : decode cX6_sheet 78 = .ok (.imul, 1) := by decide +kernel
theorem dX6_sheet_79 : decode cX6_sheet 79 = .ok (.iload 4, 2) := by decide +kernel
theorem dX6_sheet_81 : decode cX6_sheet 81 = .ok (.iadd, 1) := by decide +kernel
theorem dX6_sheet_82 : decode cX6_sheet 82 = .ok (.lconst 0, 1) := by decide +kernel
theorem dX6_sheet_83 : decode cX6_sheet 83 = .ok (.lastore, 1) := by decide +kernel
theorem dX6_sheet_84 : decode cX6_sheet 84 = .ok (.iinc 4 1, 3) := by decide +kernel
theorem dX6_sheet_87 : decode cX6_sheet 87 = .ok (.goto (-23), 3) := by decide +kernel
theorem dX6_sheet_90 : decode cX6_sheet 90 = .ok (.iconst 1, 1) := by decide +kernel
theorem dX6_sheet_91 : decode cX6_sheet 91 = .ok (.ireturn, 1) := by decide +kernel
theorem dX6_put_0 : decode cX6_put 0 = .ok (.iload_n 1, 1) := by decide +kernel
theorem dX6_put_1 : decode cX6_put 1 = .ok (.invokestatic 262, 3) := by decide +kernel
theorem dX6_put_4 : decode cX6_put 4 = .ok (.ifCond .ne 5, 3) := by decide +kernel
theorem dX6_put_7 : decode cX6_put 7 = .ok (.iconst (-1), 1) := by decide +kernel
theorem dX6_put_8 : decode cX6_put 8 = .ok (.ireturn, 1) := by decide +kernel
theorem dX6_put_9 : decode cX6_put 9 = .ok (.aload_n 0, 1) := by decide +kernel
theorem dX6_put_10 : decode cX6_put 10 = .ok (.getfield 31, 3) := by decide +kernel
theorem dX6_put_13 : decode cX6_put 13 = .ok (.iload_n 1, 1) := by decide +kernel
theorem dX6_put_14 : decode cX6_put 14 = .ok (.iaload, 1) := by decide +kernel
theorem dX6_put_15 : decode cX6_put 15 = .ok (.ifCond .ge 6, 3) := by decide +kernel
theorem dX6_put_18 : decode cX6_put 18 = .ok (.bipush (-11), 2) := by decide +kernel
theorem dX6_put_20 : decode cX6_put 20 = .ok (.ireturn, 1) := by decide +kernel
theorem dX6_put_21 : decode cX6_put 21 = .ok (.iload_n 2, 1) := by decide +kernel
theorem dX6_put_22 : decode cX6_put 22 = .ok (.iconst 0, 1) := by decide +kernel
theorem dX6_put_23 : decode cX6_put 23 = .ok (.aload_n 0, 1) := by decide +kernel
theorem dX6_put_24 : decode cX6_put 24 = .ok (.getfield 34, 3) := by decide +kernel
theorem dX6_put_27 : decode cX6_put 27 = .ok (.iload_n 1, 1) := by decide +kernel
theorem dX6_put_28 : decode cX6_put 28 = .ok (.iaload, 1) := by decide +kernel
theorem dX6_put_29 : decode cX6_put 29 = .ok (.iconst 1, 1) := by decide +kernel
theorem dX6_put_30 : decode cX6_put 30 = .ok (.isub, 1) := by decide +kernel
theorem dX6_put_31 : decode cX6_put 31 = .ok (.invokestatic 57, 3) := by decide +kernel
theorem dX6_put_34 : decode cX6_put 34 = .ok (.ifCond .ne 6, 3) := by decide +kernel
theorem dX6_put_37 : decode cX6_put 37 = .ok (.bipush (-12), 2) := by decide +kernel
theorem dX6_put_39 : decode cX6_put 39 = .ok (.ireturn, 1) := by decide +kernel
theorem dX6_put_40 : decode cX6_put 40 = .ok (.aload_n 0, 1) := by decide +kernel
theorem dX6_put_41 : decode cX6_put 41 = .ok (.getfield 37, 3) := by decide +kernel
theorem dX6_put_44 : decode cX6_put 44 = .ok (.bipush 40, 2) := by decide +kernel
theorem dX6_put_46 : decode cX6_put 46 = .ok (.iload_n 1, 1) := by decide +kernel
theorem dX6_put_47 : decode cX6_put 47 = .ok (.imul, 1) := by decide +kernel
theorem dX6_put_48 : decode cX6_put 48 = .ok (.iload_n 2, 1) := by decide +kernel
theorem dX6_put_49 : decode cX6_put 49 = .ok (.iadd, 1) := by decide +kernel
theorem dX6_put_50 : decode cX6_put 50 = .ok (.aload_n 0, 1) := by decide +kernel
theorem dX6_put_51 : decode cX6_put 51 = .ok (.getfield 31, 3) := by decide +kernel
theorem dX6_put_54 : decode cX6_put 54 = .ok (.iload_n 1, 1) := by decide +kernel
theorem dX6_put_55 : decode cX6_put 55 = .ok (.iaload, 1) := by decide +kernel
theorem dX6_put_56 : decode cX6_put 56 = .ok (.ifCond .ne 9, 3) := by decide +kernel
theorem dX6_put_59 : decode cX6_put 59 = .ok (.iload_n 3, 1) := by decide +kernel
theorem dX6_put_60 : decode cX6_put 60 = .ok (.i2b, 1) := by decide +kernel
theorem dX6_put_61 : decode cX6_put 61 = .ok (.i2l, 1) := by decide +kernel
theorem dX6_put_62 : decode cX6_put 62 = .ok (.goto 21, 3) := by decide +kernel
theorem dX6_put_65 : decode cX6_put 65 = .ok (.aload_n 0, 1) := by decide +kernel
theorem dX6_put_66 : decode cX6_put 66 = .ok (.getfield 31, 3) := by decide +kernel
theorem dX6_put_69 : decode cX6_put 69 = .ok (.iload_n 1, 1) := by decide +kernel
theorem dX6_put_70 : decode cX6_put 70 = .ok (.iaload, 1) := by decide +kernel
theorem dX6_put_71 : decode cX6_put 71 = .ok (.iconst 1, 1) := by decide +kernel
theorem dX6_put_72 : decode cX6_put 72 = .ok (.if_icmp .ne 9, 3) := by decide +kernel
theorem dX6_put_75 : decode cX6_put 75 = .ok (.iload_n 3, 1) := by decide +kernel
theorem dX6_put_76 : decode cX6_put 76 = .ok (.i2s, 1) := by decide +kernel
theorem dX6_put_77 : decode cX6_put 77 = .ok (.i2l, 1) := by decide +kernel
theorem dX6_put_78 : decode cX6_put 78 = .ok (.goto 5, 3) := by decide +kernel
theorem dX6_put_81 : decode cX6_put 81 = .ok (.iload_n 3, 1) := by decide +kernel
theorem dX6_put_82 : decode cX6_put 82 = .ok (.i2l, 1) := by decide +kernel
theorem dX6_put_83 : decode cX6_put 83 = .ok (.lastore, 1) := by decide +kernel
theorem dX6_put_84 : decode cX6_put 84 = .ok (.iconst 1, 1) := by decide +kernel
theorem dX6_put_85 : decode cX6_put 85 = .ok (.ireturn, 1) := by decide +kernel
theorem dX6_lacksSort_0 : decode cX6_lacksSort 0 = .ok (.aload_n 0, 1) := by decide +kernel
theorem dX6_lacksSort_1 : decode cX6_lacksSort 1 = .ok (.getfield 31, 3) := by decide +kernel
theorem dX6_lacksSort_4 : decode cX6_lacksSort 4 = .ok (.iload_n 1, 1) := by decide +kernel
theorem dX6_lacksSort_5 : decode cX6_lacksSort 5 = .ok (.iaload, 1) := by decide +kernel
theorem dX6_lacksSort_6 : decode cX6_lacksSort 6 = .ok (.ifCond .ge 8, 3) := by decide +kernel
theorem dX6_lacksSort_9 : decode cX6_lacksSort 9 = .ok (.bipush (-11), 2) := by decide +kernel
theorem dX6_lacksSort_11 : decode cX6_lacksSort 11 = .ok (.goto 19, 3) := by decide +kernel
theorem dX6_lacksSort_14 : decode cX6_lacksSort 14 = .ok (.aload_n 0, 1) := by decide +kernel
theorem dX6_lacksSort_15 : decode cX6_lacksSort 15 = .ok (.getfield 31, 3) := by decide +kernel
theorem dX6_lacksSort_18 : decode cX6_lacksSort 18 = .ok (.iload_n 1, 1) := by decide +kernel
theorem dX6_lacksSort_19 : decode cX6_lacksSort 19 = .ok (.iaload, 1) := by decide +kernel
theorem dX6_lacksSort_20 : decode cX6_lacksSort 20 = .ok (.iload_n 2, 1) := by decide +kernel
theorem dX6_lacksSort_21 : decode cX6_lacksSort 21 = .ok (.if_icmp .eq 8, 3) := by decide +kernel
theorem dX6_lacksSort_24 : decode cX6_lacksSort 24 = .ok (.bipush (-13), 2) := by decide +kernel
theorem dX6_lacksSort_26 : decode cX6_lacksSort 26 = .ok (.goto 4, 3) := by decide +kernel
theorem dX6_lacksSort_29 : decode cX6_lacksSort 29 = .ok (.iconst 0, 1) := by decide +kernel
theorem dX6_lacksSort_30 : decode cX6_lacksSort 30 = .ok (.ireturn, 1) := by decide +kernel
theorem dX6_item_0 : decode cX6_item 0 = .ok (.iload_n 1, 1) := by decide +kernel
theorem dX6_item_1 : decode cX6_item 1 = .ok (.invokestatic 262, 3) := by decide +kernel
theorem dX6_item_4 : decode cX6_item 4 = .ok (.ifCond .eq 12, 3) := by decide +kernel
theorem dX6_item_7 : decode cX6_item 7 = .ok (.iload_n 2, 1) := by decide +kernel
theorem dX6_item_8 : decode cX6_item 8 = .ok (.iconst 0, 1) := by decide +kernel
theorem dX6_item_9 : decode cX6_item 9 = .ok (.iconst 3, 1) := by decide +kernel
theorem dX6_item_10 : decode cX6_item 10 = .ok (.invokestatic 57, 3) := by decide +kernel
theorem dX6_item_13 : decode cX6_item 13 = .ok (.ifCond .ne 5, 3) := by decide +kernel
theorem dX6_item_16 : decode cX6_item 16 = .ok (.iconst (-1), 1) := by decide +kernel
theorem dX6_item_17 : decode cX6_item 17 = .ok (.ireturn, 1) := by decide +kernel
theorem dX6_item_18 : decode cX6_item 18 = .ok (.aload_n 0, 1) := by decide +kernel
theorem dX6_item_19 : decode cX6_item 19 = .ok (.iload_n 1, 1) := by decide +kernel
theorem dX6_item_20 : decode cX6_item 20 = .ok (.iload_n 2, 1) := by decide +kernel
theorem dX6_item_21 : decode cX6_item 21 = .ok (.invokevirtual 284, 3) := by decide +kernel
theorem dX6_item_24 : decode cX6_item 24 = .ok (.istore 4, 2) := by decide +kernel
theorem dX6_item_26 : decode cX6_item 26 = .ok (.iload 4, 2) := by decide +kernel
theorem dX6_item_28 : decode cX6_item 28 = .ok (.ifCond .eq 6, 3) := by decide +kernel
theorem dX6_item_31 : decode cX6_item 31 = .ok (.iload 4, 2) := by decide +kernel
theorem dX6_item_33 : decode cX6_item 33 = .ok (.ireturn, 1) := by decide +kernel
theorem dX6_item_34 : decode cX6_item 34 = .ok (.iload_n 3, 1) := by decide +kernel
theorem dX6_item_35 : decode cX6_item 35 = .ok (.iconst 0, 1) := by decide +kernel
theorem dX6_item_36 : decode cX6_item 36 = .ok (.aload_n 0, 1) := by decide +kernel
theorem dX6_item_37 : decode cX6_item 37 = .ok (.getfield 34, 3) := by decide +kernel
theorem dX6_item_40 : decode cX6_item 40 = .ok (.iload_n 1, 1) := by decide +kernel
theorem dX6_item_41 : decode cX6_item 41 = .ok (.iaload, 1) := by decide +kernel
theorem dX6_item_42 : decode cX6_item 42 = .ok (.iconst 1, 1) := by decide +kernel
theorem dX6_item_43 : decode cX6_item 43 = .ok (.isub, 1) := by decide +kernel
theorem dX6_item_44 : decode cX6_item 44 = .ok (.invokestatic 57, 3) := by decide +kernel
theorem dX6_item_47 : decode cX6_item 47 = .ok (.ifCond .eq 18, 3) := by decide +kernel
theorem dX6_item_50 : decode cX6_item 50 = .ok (.aload_n 0, 1) := by decide +kernel
theorem dX6_item_51 : decode cX6_item 51 = .ok (.getfield 37, 3) := by decide +kernel
theorem dX6_item_54 : decode cX6_item 54 = .ok (.bipush 40, 2) := by decide +kernel
theorem dX6_item_56 : decode cX6_item 56 = .ok (.iload_n 1, 1) := by decide +kernel
theorem dX6_item_57 : decode cX6_item 57 = .ok (.imul, 1) := by decide +kernel
theorem dX6_item_58 : decode cX6_item 58 = .ok (.iload_n 3, 1) := by decide +kernel
theorem dX6_item_59 : decode cX6_item 59 = .ok (.iadd, 1) := by decide +kernel
theorem dX6_item_60 : decode cX6_item 60 = .ok (.laload, 1) := by decide +kernel
theorem dX6_item_61 : decode cX6_item 61 = .ok (.l2i, 1) := by decide +kernel
theorem dX6_item_62 : decode cX6_item 62 = .ok (.goto 5, 3) := by decide +kernel
theorem dX6_item_65 : decode cX6_item 65 = .ok (.bipush (-12), 2) := by decide +kernel
theorem dX6_item_67 : decode cX6_item 67 = .ok (.ireturn, 1) := by decide +kernel
theorem dX6_isHeld_0 : decode cX6_isHeld 0 = .ok (.iload_n 1, 1) := by decide +kernel
theorem dX6_isHeld_1 : decode cX6_isHeld 1 = .ok (.ifCond .ne 11, 3) := by decide +kernel
theorem dX6_isHeld_4 : decode cX6_isHeld 4 = .ok (.aload_n 0, 1) := by decide +kernel
theorem dX6_isHeld_5 : decode cX6_isHeld 5 = .ok (.iload_n 2, 1) := by decide +kernel
theorem dX6_isHeld_6 : decode cX6_isHeld 6 = .ok (.invokevirtual 206, 3) := by decide +kernel
theorem dX6_isHeld_9 : decode cX6_isHeld 9 = .ok (.goto 25, 3) := by decide +kernel
theorem dX6_isHeld_12 : decode cX6_isHeld 12 = .ok (.iload_n 1, 1) := by decide +kernel
theorem dX6_isHeld_13 : decode cX6_isHeld 13 = .ok (.iconst 1, 1) := by decide +kernel
theorem dX6_isHeld_14 : decode cX6_isHeld 14 = .ok (.if_icmp .ne 10, 3) := by decide +kernel
theorem dX6_isHeld_17 : decode cX6_isHeld 17 = .ok (.iload_n 2, 1) := by decide +kernel
theorem dX6_isHeld_18 : decode cX6_isHeld 18 = .ok (.invokestatic 262, 3) := by decide +kernel
theorem dX6_isHeld_21 : decode cX6_isHeld 21 = .ok (.goto 13, 3) := by decide +kernel
theorem dX6_isHeld_24 : decode cX6_isHeld 24 = .ok (.iload_n 1, 1) := by decide +kernel
theorem dX6_isHeld_25 : decode cX6_isHeld 25 = .ok (.iconst 2, 1) := by decide +kernel
theorem dX6_isHeld_26 : decode cX6_isHeld 26 = .ok (.if_icmp .ne 7, 3) := by decide +kernel
theorem dX6_isHeld_29 : decode cX6_isHeld 29 = .ok (.iconst 1, 1) := by decide +kernel
theorem dX6_isHeld_30 : decode cX6_isHeld 30 = .ok (.goto 4, 3) := by decide +kernel
theorem dX6_isHeld_33 : decode cX6_isHeld 33 = .ok (.iconst 0, 1) := by decide +kernel
theorem dX6_isHeld_34 : decode cX6_isHeld 34 = .ok (.ireturn, 1) := by decide +kernel
theorem dX6_shelf_0 : decode cX6_shelf 0 = .ok (.iload_n 1, 1) := by decide +kernel
theorem dX6_shelf_1 : decode cX6_shelf 1 = .ok (.invokestatic 262, 3) := by decide +kernel
theorem dX6_shelf_4 : decode cX6_shelf 4 = .ok (.ifCond .eq 12, 3) := by decide +kernel
theorem dX6_shelf_7 : decode cX6_shelf 7 = .ok (.aload_n 0, 1) := by decide +kernel
theorem dX6_shelf_8 : decode cX6_shelf 8 = .ok (.iload_n 2, 1) := by decide +kernel
theorem dX6_shelf_9 : decode cX6_shelf 9 = .ok (.iload_n 3, 1) := by decide +kernel
theorem dX6_shelf_10 : decode cX6_shelf 10 = .ok (.invokevirtual 287, 3) := by decide +kernel
theorem dX6_shelf_13 : decode cX6_shelf 13 = .ok (.ifCond .ne 5, 3) := by decide +kernel
theorem dX6_shelf_16 : decode cX6_shelf 16 = .ok (.iconst (-1), 1) := by decide +kernel
theorem dX6_shelf_17 : decode cX6_shelf 17 = .ok (.ireturn, 1) := by decide +kernel
theorem dX6_shelf_18 : decode cX6_shelf 18 = .ok (.aload_n 0, 1) := by decide +kernel
theorem dX6_shelf_19 : decode cX6_shelf 19 = .ok (.getfield 41, 3) := by decide +kernel
theorem dX6_shelf_22 : decode cX6_shelf 22 = .ok (.iload_n 1, 1) := by decide +kernel
theorem dX6_shelf_23 : decode cX6_shelf 23 = .ok (.iload_n 2, 1) := by decide +kernel
theorem dX6_shelf_24 : decode cX6_shelf 24 = .ok (.iconst 2, 1) := by decide +kernel
theorem dX6_shelf_25 : decode cX6_shelf 25 = .ok (.if_icmp .eq 17, 3) := by decide +kernel
theorem dX6_shelf_28 : decode cX6_shelf 28 = .ok (.iload_n 2, 1) := by decide +kernel
theorem dX6_shelf_29 : decode cX6_shelf 29 = .ok (.iconst 1, 1) := by decide +kernel
theorem dX6_shelf_30 : decode cX6_shelf 30 = .ok (.if_icmp .ne 16, 3) := by decide +kernel
theorem dX6_shelf_33 : decode cX6_shelf 33 = .ok (.aload_n 0, 1) := by decide +kernel
theorem dX6_shelf_34 : decode cX6_shelf 34 = .ok (.getfield 31, 3) := by decide +kernel
theorem dX6_shelf_37 : decode cX6_shelf 37 = .ok (.iload_n 3, 1) := by decide +kernel
theorem dX6_shelf_38 : decode cX6_shelf 38 = .ok (.iaload, 1) := by decide +kernel
theorem dX6_shelf_39 : decode cX6_shelf 39 = .ok (.ifCond .ge 7, 3) := by decide +kernel
theorem dX6_shelf_42 : decode cX6_shelf 42 = .ok (.iconst (-1), 1) := by decide +kernel
theorem dX6_shelf_43 : decode cX6_shelf 43 = .ok (.goto 4, 3) := by decide +kernel
theorem dX6_shelf_46 : decode cX6_shelf 46 = .ok (.iload_n 2, 1) := by decide +kernel
theorem dX6_shelf_47 : decode cX6_shelf 47 = .ok (.iastore, 1) := by decide +kernel
theorem dX6_shelf_48 : decode cX6_shelf 48 = .ok (.aload_n 0, 1) := by decide +kernel
theorem dX6_shelf_49 : decode cX6_shelf 49 = .ok (.getfield 44, 3) := by decide +kernel
theorem dX6_shelf_52 : decode cX6_shelf 52 = .ok (.iload_n 1, 1) := by decide +kernel
theorem dX6_shelf_53 : decode cX6_shelf 53 = .ok (.iload_n 2, 1) := by decide +kernel
theorem dX6_shelf_54 : decode cX6_shelf 54 = .ok (.iconst 1, 1) := by decide +kernel
theorem dX6_shelf_55 : decode cX6_shelf 55 = .ok (.if_icmp .ne 12, 3) := by decide +kernel
theorem dX6_shelf_58 : decode cX6_shelf 58 = .ok (.aload_n 0, 1) := by decide +kernel
theorem dX6_shelf_59 : decode cX6_shelf 59 = .ok (.getfield 31, 3) := by decide +kernel
theorem dX6_shelf_62 : decode cX6_shelf 62 = .ok (.iload_n 3, 1) := by decide +kernel
theorem dX6_shelf_63 : decode cX6_shelf 63 = .ok (.iaload, 1) := by decide +kernel
theorem dX6_shelf_64 : decode cX6_shelf 64 = .ok (.goto 4, 3) := by decide +kernel
theorem dX6_shelf_67 : decode cX6_shelf 67 = .ok (.iload_n 3, 1) := by decide +kernel
theorem dX6_shelf_68 : decode cX6_shelf 68 = .ok (.iastore, 1) := by decide +kernel
theorem dX6_shelf_69 : decode cX6_shelf 69 = .ok (.aload_n 0, 1) := by decide +kernel
theorem dX6_shelf_70 : decode cX6_shelf 70 = .ok (.getfield 47, 3) := by decide +kernel
theorem dX6_shelf_73 : decode cX6_shelf 73 = .ok (.iload_n 1, 1) := by decide +kernel
theorem dX6_shelf_74 : decode cX6_shelf 74 = .ok (.iload_n 2, 1) := by decide +kernel
theorem dX6_shelf_75 : decode cX6_shelf 75 = .ok (.iconst 1, 1) := by decide +kernel
theorem dX6_shelf_76 : decode cX6_shelf 76 = .ok (.if_icmp .ne 12, 3) := by decide +kernel
theorem dX6_shelf_79 : decode cX6_shelf 79 = .ok (.aload_n 0, 1) := by decide +kernel
theorem dX6_shelf_80 : decode cX6_shelf 80 = .ok (.getfield 34, 3) := by decide +kernel
theorem dX6_shelf_83 : decode cX6_shelf 83 = .ok (.iload_n 3, 1) := by decide +kernel
theorem dX6_shelf_84 : decode cX6_shelf 84 = .ok (.iaload, 1) := by decide +kernel
theorem dX6_shelf_85 : decode cX6_shelf 85 = .ok (.goto 4, 3) := by decide +kernel
theorem dX6_shelf_88 : decode cX6_shelf 88 = .ok (.iconst 0, 1) := by decide +kernel
theorem dX6_shelf_89 : decode cX6_shelf 89 = .ok (.iastore, 1) := by decide +kernel
theorem dX6_shelf_90 : decode cX6_shelf 90 = .ok (.iconst 1, 1) := by decide +kernel
theorem dX6_shelf_91 : decode cX6_shelf 91 = .ok (.ireturn, 1) := by decide +kernel
theorem dX6_kindOn_0 : decode cX6_kindOn 0 = .ok (.aload_n 0, 1) := by decide +kernel
theorem dX6_kindOn_1 : decode cX6_kindOn 1 = .ok (.getfield 41, 3) := by decide +kernel
theorem dX6_kindOn_4 : decode cX6_kindOn 4 = .ok (.iload_n 1, 1) := by decide +kernel
theorem dX6_kindOn_5 : decode cX6_kindOn 5 = .ok (.iaload, 1) := by decide +kernel
theorem dX6_kindOn_6 : decode cX6_kindOn 6 = .ok (.ifCond .eq 19, 3) := by decide +kernel
theorem dX6_kindOn_9 : decode cX6_kindOn 9 = .ok (.aload_n 0, 1) := by decide +kernel
theorem dX6_kindOn_10 : decode cX6_kindOn 10 = .ok (.getfield 41, 3) := by decide +kernel
theorem dX6_kindOn_13 : decode cX6_kindOn 13 = .ok (.iload_n 1, 1) := by decide +kernel
theorem dX6_kindOn_14 : decode cX6_kindOn 14 = .ok (.iaload, 1) := by decide +kernel
theorem dX6_kindOn_15 : decode cX6_kindOn 15 = .ok (.ifCond .ge 7, 3) := by decide +kernel
theorem dX6_kindOn_18 : decode cX6_kindOn 18 = .ok (.iconst (-1), 1) := by decide +kernel
theorem dX6_kindOn_19 : decode cX6_kindOn 19 = .ok (.goto 5, 3) := by decide +kernel
theorem dX6_kindOn_22 : decode cX6_kindOn 22 = .ok (.bipush 9, 2) := by decide +kernel
theorem dX6_kindOn_24 : decode cX6_kindOn 24 = .ok (.ireturn, 1) := by decide +kernel
theorem dX6_kindOn_25 : decode cX6_kindOn 25 = .ok (.aload_n 0, 1) := by decide +kernel
theorem dX6_kindOn_26 : decode cX6_kindOn 26 = .ok (.aload_n 0, 1) := by decide +kernel
theorem dX6_kindOn_27 : decode cX6_kindOn 27 = .ok (.getfield 44, 3) := by decide +kernel
theorem dX6_kindOn_30 : decode cX6_kindOn 30 = .ok (.iload_n 1, 1) := by decide +kernel
theorem dX6_kindOn_31 : decode cX6_kindOn 31 = .ok (.iaload, 1) := by decide +kernel
theorem dX6_kindOn_32 : decode cX6_kindOn 32 = .ok (.invokevirtual 206, 3) := by decide +kernel
theorem dX6_kindOn_35 : decode cX6_kindOn 35 = .ok (.ifCond .eq 17, 3) := by decide +kernel
theorem dX6_kindOn_38 : decode cX6_kindOn 38 = .ok (.aload_n 0, 1) := by decide +kernel
theorem dX6_kindOn_39 : decode cX6_kindOn 39 = .ok (.aload_n 0, 1) := by decide +kernel
theorem dX6_kindOn_40 : decode cX6_kindOn 40 = .ok (.getfield 44, 3) := by decide +kernel
theorem dX6_kindOn_43 : decode cX6_kindOn 43 = .ok (.iload_n 1, 1) := by decide +kernel
theorem dX6_kindOn_44 : decode cX6_kindOn 44 = .ok (.iaload, 1) := by decide +kernel
theorem dX6_kindOn_45 : decode cX6_kindOn 45 = .ok (.iconst 0, 1) := by decide +kernel
theorem dX6_kindOn_46 : decode cX6_kindOn 46 = .ok (.invokevirtual 187, 3) := by decide +kernel
theorem dX6_kindOn_49 : decode cX6_kindOn 49 = .ok (.goto 4, 3) := by decide +kernel
theorem dX6_kindOn_52 : decode cX6_kindOn 52 = .ok (.iconst (-1), 1) := by decide +kernel
theorem dX6_kindOn_53 : decode cX6_kindOn 53 = .ok (.ireturn, 1) := by decide +kernel
theorem dX6_isUnder_0 : decode cX6_isUnder 0 = .ok (.iload_n 1, 1) := by decide +kernel
theorem dX6_isUnder_1 : decode cX6_isUnder 1 = .ok (.ifCond .eq 28, 3) := by decide +kernel
theorem dX6_isUnder_4 : decode cX6_isUnder 4 = .ok (.iload_n 1, 1) := by decide +kernel
theorem dX6_isUnder_5 : decode cX6_isUnder 5 = .ok (.iload_n 0, 1) := by decide +kernel
theorem dX6_isUnder_6 : decode cX6_isUnder 6 = .ok (.if_icmp .eq 23, 3) := by decide +kernel
theorem dX6_isUnder_9 : decode cX6_isUnder 9 = .ok (.iload_n 1, 1) := by decide +kernel
theorem dX6_isUnder_10 : decode cX6_isUnder 10 = .ok (.iconst 1, 1) := by decide +kernel
theorem dX6_isUnder_11 : decode cX6_isUnder 11 = .ok (.if_icmp .ne 8, 3) := by decide +kernel
theorem dX6_isUnder_14 : decode cX6_isUnder 14 = .ok (.iload_n 0, 1) := by decide +kernel
theorem dX6_isUnder_15 : decode cX6_isUnder 15 = .ok (.iconst 3, 1) := by decide +kernel
theorem dX6_isUnder_16 : decode cX6_isUnder 16 = .ok (.if_icmp .eq 13, 3) := by decide +kernel
theorem dX6_isUnder_19 : decode cX6_isUnder 19 = .ok (.iload_n 1, 1) := by decide +kernel
theorem dX6_isUnder_20 : decode cX6_isUnder 20 = .ok (.iconst 2, 1) := by decide +kernel
theorem dX6_isUnder_21 : decode cX6_isUnder 21 = .ok (.if_icmp .ne 12, 3) := by decide +kernel
theorem dX6_isUnder_24 : decode cX6_isUnder 24 = .ok (.iload_n 0, 1) := by decide +kernel
theorem dX6_isUnder_25 : decode cX6_isUnder 25 = .ok (.iconst 4, 1) := by decide +kernel
theorem dX6_isUnder_26 : decode cX6_isUnder 26 = .ok (.if_icmp .ne 7, 3) := by decide +kernel
theorem dX6_isUnder_29 : decode cX6_isUnder 29 = .ok (.iconst 1, 1) := by decide +kernel
theorem dX6_isUnder_30 : decode cX6_isUnder 30 = .ok (.goto 4, 3) := by decide +kernel
theorem dX6_isUnder_33 : decode cX6_isUnder 33 = .ok (.iconst 0, 1) := by decide +kernel
theorem dX6_isUnder_34 : decode cX6_isUnder 34 = .ok (.ireturn, 1) := by decide +kernel
theorem dX6_taken_0 : decode cX6_taken 0 = .ok (.iload_n 1, 1) := by decide +kernel
theorem dX6_taken_1 : decode cX6_taken 1 = .ok (.invokestatic 262, 3) := by decide +kernel
theorem dX6_taken_4 : decode cX6_taken 4 = .ok (.ifCond .eq 23, 3) := by decide +kernel
theorem dX6_taken_7 : decode cX6_taken 7 = .ok (.iload_n 2, 1) := by decide +kernel
theorem dX6_taken_8 : decode cX6_taken 8 = .ok (.iconst 0, 1) := by decide +kernel
theorem dX6_taken_9 : decode cX6_taken 9 = .ok (.iconst 5, 1) := by decide +kernel
theorem dX6_taken_10 : decode cX6_taken 10 = .ok (.invokestatic 57, 3) := by decide +kernel
theorem dX6_taken_13 : decode cX6_taken 13 = .ok (.ifCond .ne 16, 3) := by decide +kernel
theorem dX6_taken_16 : decode cX6_taken 16 = .ok (.iload_n 2, 1) := by decide +kernel
theorem dX6_taken_17 : decode cX6_taken 17 = .ok (.bipush 10, 2) := by decide +kernel
theorem dX6_taken_19 : decode cX6_taken 19 = .ok (.bipush 13, 2) := by decide +kernel
theorem dX6_taken_21 : decode cX6_taken 21 = .ok (.invokestatic 57, 3) := by decide +kernel
theorem dX6_taken_24 : decode cX6_taken 24 = .ok (.ifCond .ne 5, 3) := by decide +kernel
theorem dX6_taken_27 : decode cX6_taken 27 = .ok (.iconst (-1), 1) := by decide +kernel
theorem dX6_taken_28 : decode cX6_taken 28 = .ok (.ireturn, 1) := by decide +kernel
theorem dX6_taken_29 : decode cX6_taken 29 = .ok (.aload_n 0, 1) := by decide +kernel
theorem dX6_taken_30 : decode cX6_taken 30 = .ok (.iload_n 1, 1) := by decide +kernel
theorem dX6_taken_31 : decode cX6_taken 31 = .ok (.invokevirtual 290, 3) := by decide +kernel
theorem dX6_taken_34 : decode cX6_taken 34 = .ok (.istore_n 3, 1) := by decide +kernel
theorem dX6_taken_35 : decode cX6_taken 35 = .ok (.iload_n 3, 1) := by decide +kernel
theorem dX6_taken_36 : decode cX6_taken 36 = .ok (.ifCond .ge 6, 3) := by decide +kernel
theorem dX6_taken_39 : decode cX6_taken 39 = .ok (.bipush (-11), 2) := by decide +kernel
theorem dX6_taken_41 : decode cX6_taken 41 = .ok (.ireturn, 1) := by decide +kernel
theorem dX6_taken_42 : decode cX6_taken 42 = .ok (.iload_n 3, 1) := by decide +kernel
theorem dX6_taken_43 : decode cX6_taken 43 = .ok (.bipush 9, 2) := by decide +kernel
theorem dX6_taken_45 : decode cX6_taken 45 = .ok (.if_icmp .ne 28, 3) := by decide +kernel
theorem dX6_taken_48 : decode cX6_taken 48 = .ok (.iload_n 2, 1) := by decide +kernel
theorem dX6_taken_49 : decode cX6_taken 49 = .ok (.bipush 10, 2) := by decide +kernel
theorem dX6_taken_51 : decode cX6_taken 51 = .ok (.aload_n 0, 1) := by decide +kernel
theorem dX6_taken_52 : decode cX6_taken 52 = .ok (.getfield 44, 3) := by decide +kernel
theorem dX6_taken_55 : decode cX6_taken 55 = .ok (.iload_n 1, 1) := by decide +kernel
theorem dX6_taken_56 : decode cX6_taken 56 = .ok (.iaload, 1) := by decide +kernel
theorem dX6_taken_57 : decode cX6_taken 57 = .ok (.iadd, 1) := by decide +kernel
theorem dX6_taken_58 : decode cX6_taken 58 = .ok (.if_icmp .ne 12, 3) := by decide +kernel
theorem dX6_taken_61 : decode cX6_taken 61 = .ok (.aload_n 0, 1) := by decide +kernel
theorem dX6_taken_62 : decode cX6_taken 62 = .ok (.getfield 47, 3) := by decide +kernel
theorem dX6_taken_65 : decode cX6_taken 65 = .ok (.iload_n 1, 1) := by decide +kernel
theorem dX6_taken_66 : decode cX6_taken 66 = .ok (.iaload, 1) := by decide +kernel
theorem dX6_taken_67 : decode cX6_taken 67 = .ok (.goto 5, 3) := by decide +kernel
theorem dX6_taken_70 : decode cX6_taken 70 = .ok (.bipush (-13), 2) := by decide +kernel
theorem dX6_taken_72 : decode cX6_taken 72 = .ok (.ireturn, 1) := by decide +kernel
theorem dX6_taken_73 : decode cX6_taken 73 = .ok (.iload_n 2, 1) := by decide +kernel
theorem dX6_taken_74 : decode cX6_taken 74 = .ok (.bipush 10, 2) := by decide +kernel
theorem dX6_taken_76 : decode cX6_taken 76 = .ok (.if_icmp .ge 20, 3) := by decide +kernel
theorem dX6_taken_79 : decode cX6_taken 79 = .ok (.iload_n 3, 1) := by decide +kernel
theorem dX6_taken_80 : decode cX6_taken 80 = .ok (.iload_n 2, 1) := by decide +kernel
theorem dX6_taken_81 : decode cX6_taken 81 = .ok (.invokestatic 293, 3) := by decide +kernel
theorem dX6_taken_84 : decode cX6_taken 84 = .ok (.ifCond .eq 12, 3) := by decide +kernel
theorem dX6_taken_87 : decode cX6_taken 87 = .ok (.aload_n 0, 1) := by decide +kernel
theorem dX6_taken_88 : decode cX6_taken 88 = .ok (.getfield 44, 3) := by decide +kernel
theorem dX6_taken_91 : decode cX6_taken 91 = .ok (.iload_n 1, 1) := by decide +kernel
theorem dX6_taken_92 : decode cX6_taken 92 = .ok (.iaload, 1) := by decide +kernel
theorem dX6_taken_93 : decode cX6_taken 93 = .ok (.goto 5, 3) := by decide +kernel
theorem dX6_taken_96 : decode cX6_taken 96 = .ok (.bipush (-13), 2) := by decide +kernel
theorem dX6_taken_98 : decode cX6_taken 98 = .ok (.ireturn, 1) := by decide +kernel
theorem dX6_ran_0 : decode cX6_ran 0 = .ok (.aload_n 0, 1) := by decide +kernel
theorem dX6_ran_1 : decode cX6_ran 1 = .ok (.getfield 296, 3) := by decide +kernel
theorem dX6_ran_4 : decode cX6_ran 4 = .ok (.bipush 30, 2) := by decide +kernel
theorem dX6_ran_6 : decode cX6_ran 6 = .ok (.if_icmp .ge 23, 3) := by decide +kernel
theorem dX6_ran_9 : decode cX6_ran 9 = .ok (.aload_n 0, 1) := by decide +kernel
theorem dX6_ran_10 : decode cX6_ran 10 = .ok (.getfield 50, 3) := by decide +kernel
theorem dX6_ran_13 : decode cX6_ran 13 = .ok (.aload_n 0, 1) := by decide +kernel
theorem dX6_ran_14 : decode cX6_ran 14 = .ok (.getfield 296, 3) := by decide +kernel
theorem dX6_ran_17 : decode cX6_ran 17 = .ok (.iload_n 1, 1) := by decide +kernel
theorem dX6_ran_18 : decode cX6_ran 18 = .ok (.iastore, 1) := by decide +kernel
theorem dX6_ran_19 : decode cX6_ran 19 = .ok (.aload_n 0, 1) := by decide +kernel
theorem dX6_ran_20 : decode cX6_ran 20 = .ok (.dup, 1) := by decide +kernel
theorem dX6_ran_21 : decode cX6_ran 21 = .ok (.getfield 296, 3) := by decide +kernel
theorem dX6_ran_24 : decode cX6_ran 24 = .ok (.iconst 1, 1) := by decide +kernel
theorem dX6_ran_25 : decode cX6_ran 25 = .ok (.iadd, 1) := by decide +kernel
theorem dX6_ran_26 : decode cX6_ran 26 = .ok (.putfield 296, 3) := by decide +kernel
theorem dX6_ran_29 : decode cX6_ran 29 = .ok (.return_, 1) := by decide +kernel
theorem dX6_plainShakes_0 : decode cX6_plainShakes 0 = .ok (.aload_n 0, 1) := by decide +kernel
theorem dX6_plainShakes_1 : decode cX6_plainShakes 1 = .ok (.bipush 10, 2) := by decide +kernel
theorem dX6_plainShakes_3 : decode cX6_plainShakes 3 = .ok (.invokevirtual 299, 3) := by decide +kernel
theorem dX6_plainShakes_6 : decode cX6_plainShakes 6 = .ok (.iload_n 1, 1) := by decide +kernel
theorem dX6_plainShakes_7 : decode cX6_plainShakes 7 = .ok (.iconst 5, 1) := by decide +kernel
theorem dX6_plainShakes_8 : decode cX6_plainShakes 8 = .ok (.imul, 1) := by decide +kernel
theorem dX6_plainShakes_9 : decode cX6_plainShakes 9 = .ok (.aload_n 0, 1) := by decide +kernel
theorem dX6_plainShakes_10 : decode cX6_plainShakes 10 = .ok (.getfield 302, 3) := by decide +kernel
theorem dX6_plainShakes_13 : decode cX6_plainShakes 13 = .ok (.iadd, 1) := by decide +kernel
theorem dX6_plainShakes_14 : decode cX6_plainShakes 14 = .ok (.ireturn, 1) := by decide +kernel
theorem dX6_advocateShakes_0 : decode cX6_advocateShakes 0 = .ok (.aload_n 0, 1) := by decide +kernel
theorem dX6_advocateShakes_1 : decode cX6_advocateShakes 1 = .ok (.bipush 30, 2) := by decide +kernel
theorem dX6_advocateShakes_3 : decode cX6_advocateShakes 3 = .ok (.invokevirtual 299, 3) := by decide +kernel
theorem dX6_advocateShakes_6 : decode cX6_advocateShakes 6 = .ok (.aload_n 0, 1) := by decide +kernel
theorem dX6_advocateShakes_7 : decode cX6_advocateShakes 7 = .ok (.iload_n 1, 1) := by decide +kernel
theorem dX6_advocateShakes_8 : decode cX6_advocateShakes 8 = .ok (.invokevirtual 305, 3) := by decide +kernel
theorem dX6_advocateShakes_11 : decode cX6_advocateShakes 11 = .ok (.iconst 4, 1) := by decide +kernel
theorem dX6_advocateShakes_12 : decode cX6_advocateShakes 12 = .ok (.isub, 1) := by decide +kernel
theorem dX6_advocateShakes_13 : decode cX6_advocateShakes 13 = .ok (.ireturn, 1) := by decide +kernel
theorem dX6_shakesIt_0 : decode cX6_shakesIt 0 = .ok (.aload_n 0, 1) := by decide +kernel
theorem dX6_shakesIt_1 : decode cX6_shakesIt 1 = .ok (.getfield 308, 3) := by decide +kernel
theorem dX6_shakesIt_4 : decode cX6_shakesIt 4 = .ok (.tableswitch 64 2 4 #[28, 47, 34], 28) := by decide +kernel
theorem dX6_shakesIt_32 : decode cX6_shakesIt 32 = .ok (.aload_n 0, 1) := by decide +kernel
theorem dX6_shakesIt_33 : decode cX6_shakesIt 33 = .ok (.iload_n 1, 1) := by decide +kernel
theorem dX6_shakesIt_34 : decode cX6_shakesIt 34 = .ok (.invokevirtual 311, 3) := by decide +kernel
theorem dX6_shakesIt_37 : decode cX6_shakesIt 37 = .ok (.ireturn, 1) := by decide +kernel
theorem dX6_shakesIt_38 : decode cX6_shakesIt 38 = .ok (.aload_n 0, 1) := by decide +kernel
theorem dX6_shakesIt_39 : decode cX6_shakesIt 39 = .ok (.bipush 40, 2) := by decide +kernel
theorem dX6_shakesIt_41 : decode cX6_shakesIt 41 = .ok (.invokevirtual 299, 3) := by decide +kernel
theorem dX6_shakesIt_44 : decode cX6_shakesIt 44 = .ok (.aload_n 0, 1) := by decide +kernel
theorem dX6_shakesIt_45 : decode cX6_shakesIt 45 = .ok (.iload_n 1, 1) := by decide +kernel
theorem dX6_shakesIt_46 : decode cX6_shakesIt 46 = .ok (.invokevirtual 311, 3) := by decide +kernel
theorem dX6_shakesIt_49 : decode cX6_shakesIt 49 = .ok (.ineg, 1) := by decide +kernel
theorem dX6_shakesIt_50 : decode cX6_shakesIt 50 = .ok (.ireturn, 1) := by decide +kernel
theorem dX6_shakesIt_51 : decode cX6_shakesIt 51 = .ok (.aload_n 0, 1) := by decide +kernel
theorem dX6_shakesIt_52 : decode cX6_shakesIt 52 = .ok (.bipush 51, 2) := by decide +kernel
theorem dX6_shakesIt_54 : decode cX6_shakesIt 54 = .ok (.invokevirtual 299, 3) := by decide +kernel
theorem dX6_shakesIt_57 : decode cX6_shakesIt 57 = .ok (.aload_n 0, 1) := by decide +kernel
theorem dX6_shakesIt_58 : decode cX6_shakesIt 58 = .ok (.iload_n 1, 1) := by decide +kernel
theorem dX6_shakesIt_59 : decode cX6_shakesIt 59 = .ok (.invokevirtual 305, 3) := by decide +kernel
theorem dX6_shakesIt_62 : decode cX6_shakesIt 62 = .ok (.aload_n 0, 1) := by decide +kernel
theorem dX6_shakesIt_63 : decode cX6_shakesIt 63 = .ok (.getfield 314, 3) := by decide +kernel
theorem dX6_shakesIt_66 : decode cX6_shakesIt 66 = .ok (.iadd, 1) := by decide +kernel
theorem dX6_shakesIt_67 : decode cX6_shakesIt 67 = .ok (.ireturn, 1) := by decide +kernel
theorem dX6_shakesIt_68 : decode cX6_shakesIt 68 = .ok (.aload_n 0, 1) := by decide +kernel
theorem dX6_shakesIt_69 : decode cX6_shakesIt 69 = .ok (.iload_n 1, 1) := by decide +kernel
theorem dX6_shakesIt_70 : decode cX6_shakesIt 70 = .ok (.invokevirtual 305, 3) := by decide +kernel
theorem dX6_shakesIt_73 : decode cX6_shakesIt 73 = .ok (.ireturn, 1) := by decide +kernel
theorem dX6_plainReads_0 : decode cX6_plainReads 0 = .ok (.aload_n 0, 1) := by decide +kernel
theorem dX6_plainReads_1 : decode cX6_plainReads 1 = .ok (.bipush 11, 2) := by decide +kernel
theorem dX6_plainReads_3 : decode cX6_plainReads 3 = .ok (.invokevirtual 299, 3) := by decide +kernel
theorem dX6_plainReads_6 : decode cX6_plainReads 6 = .ok (.aload_n 0, 1) := by decide +kernel
theorem dX6_plainReads_7 : decode cX6_plainReads 7 = .ok (.iload_n 1, 1) := by decide +kernel
theorem dX6_plainReads_8 : decode cX6_plainReads 8 = .ok (.invokevirtual 317, 3) := by decide +kernel
theorem dX6_plainReads_11 : decode cX6_plainReads 11 = .ok (.aload_n 0, 1) := by decide +kernel
theorem dX6_plainReads_12 : decode cX6_plainReads 12 = .ok (.getfield 314, 3) := by decide +kernel
theorem dX6_plainReads_15 : decode cX6_plainReads 15 = .ok (.isub, 1) := by decide +kernel
theorem dX6_plainReads_16 : decode cX6_plainReads 16 = .ok (.ireturn, 1) := by decide +kernel
theorem dX6_readsIt_0 : decode cX6_readsIt 0 = .ok (.aload_n 0, 1) := by decide +kernel
theorem dX6_readsIt_1 : decode cX6_readsIt 1 = .ok (.getfield 308, 3) := by decide +kernel
theorem dX6_readsIt_4 : decode cX6_readsIt 4 = .ok (.iconst 1, 1) := by decide +kernel
theorem dX6_readsIt_5 : decode cX6_readsIt 5 = .ok (.if_icmp .eq 11, 3) := by decide +kernel
theorem dX6_readsIt_8 : decode cX6_readsIt 8 = .ok (.aload_n 0, 1) := by decide +kernel
theorem dX6_readsIt_9 : decode cX6_readsIt 9 = .ok (.getfield 308, 3) := by decide +kernel
theorem dX6_readsIt_12 : decode cX6_readsIt 12 = .ok (.iconst 3, 1) := by decide +kernel
theorem dX6_readsIt_13 : decode cX6_readsIt 13 = .ok (.if_icmp .ne 17, 3) := by decide +kernel
theorem dX6_readsIt_16 : decode cX6_readsIt 16 = .ok (.aload_n 0, 1) := by decide +kernel
theorem dX6_readsIt_17 : decode cX6_readsIt 17 = .ok (.bipush 20, 2) := by decide +kernel
theorem dX6_readsIt_19 : decode cX6_readsIt 19 = .ok (.invokevirtual 299, 3) := by decide +kernel
theorem dX6_readsIt_22 : decode cX6_readsIt 22 = .ok (.aload_n 0, 1) := by decide +kernel
theorem dX6_readsIt_23 : decode cX6_readsIt 23 = .ok (.iload_n 1, 1) := by decide +kernel
theorem dX6_readsIt_24 : decode cX6_readsIt 24 = .ok (.invokevirtual 320, 3) := by decide +kernel
theorem dX6_readsIt_27 : decode cX6_readsIt 27 = .ok (.iconst 2, 1) := by decide +kernel
theorem dX6_readsIt_28 : decode cX6_readsIt 28 = .ok (.imul, 1) := by decide +kernel
theorem dX6_readsIt_29 : decode cX6_readsIt 29 = .ok (.ireturn, 1) := by decide +kernel
theorem dX6_readsIt_30 : decode cX6_readsIt 30 = .ok (.aload_n 0, 1) := by decide +kernel
theorem dX6_readsIt_31 : decode cX6_readsIt 31 = .ok (.getfield 308, 3) := by decide +kernel
theorem dX6_readsIt_34 : decode cX6_readsIt 34 = .ok (.iconst 4, 1) := by decide +kernel
theorem dX6_readsIt_35 : decode cX6_readsIt 35 = .ok (.if_icmp .ne 26, 3) := by decide +kernel
theorem dX6_readsIt_38 : decode cX6_readsIt 38 = .ok (.aload_n 0, 1) := by decide +kernel
theorem dX6_readsIt_39 : decode cX6_readsIt 39 = .ok (.bipush 41, 2) := by decide +kernel
theorem dX6_readsIt_41 : decode cX6_readsIt 41 = .ok (.invokevirtual 299, 3) := by decide +kernel
theorem dX6_readsIt_44 : decode cX6_readsIt 44 = .ok (.aload_n 0, 1) := by decide +kernel
theorem dX6_readsIt_45 : decode cX6_readsIt 45 = .ok (.iload_n 1, 1) := by decide +kernel
theorem dX6_readsIt_46 : decode cX6_readsIt 46 = .ok (.invokevirtual 320, 3) := by decide +kernel
theorem dX6_readsIt_49 : decode cX6_readsIt 49 = .ok (.istore_n 2, 1) := by decide +kernel
theorem dX6_readsIt_50 : decode cX6_readsIt 50 = .ok (.iload_n 2, 1) := by decide +kernel
theorem dX6_readsIt_51 : decode cX6_readsIt 51 = .ok (.aload_n 0, 1) := by decide +kernel
theorem dX6_readsIt_52 : decode cX6_readsIt 52 = .ok (.aload_n 0, 1) := by decide +kernel
theorem dX6_readsIt_53 : decode cX6_readsIt 53 = .ok (.getfield 314, 3) := by decide +kernel
theorem dX6_readsIt_56 : decode cX6_readsIt 56 = .ok (.invokevirtual 317, 3) := by decide +kernel
theorem dX6_readsIt_59 : decode cX6_readsIt 59 = .ok (.ixor, 1) := by decide +kernel
theorem dX6_readsIt_60 : decode cX6_readsIt 60 = .ok (.ireturn, 1) := by decide +kernel
theorem dX6_readsIt_61 : decode cX6_readsIt 61 = .ok (.aload_n 0, 1) := by decide +kernel
theorem dX6_readsIt_62 : decode cX6_readsIt 62 = .ok (.iload_n 1, 1) := by decide +kernel
theorem dX6_readsIt_63 : decode cX6_readsIt 63 = .ok (.invokevirtual 320, 3) := by decide +kernel
theorem dX6_readsIt_66 : decode cX6_readsIt 66 = .ok (.ireturn, 1) := by decide +kernel
theorem dX6_plainParts_0 : decode cX6_plainParts 0 = .ok (.aload_n 0, 1) := by decide +kernel
theorem dX6_plainParts_1 : decode cX6_plainParts 1 = .ok (.bipush 12, 2) := by decide +kernel
theorem dX6_plainParts_3 : decode cX6_plainParts 3 = .ok (.invokevirtual 299, 3) := by decide +kernel
theorem dX6_plainParts_6 : decode cX6_plainParts 6 = .ok (.aload_n 0, 1) := by decide +kernel
theorem dX6_plainParts_7 : decode cX6_plainParts 7 = .ok (.getfield 314, 3) := by decide +kernel
theorem dX6_plainParts_10 : decode cX6_plainParts 10 = .ok (.aload_n 0, 1) := by decide +kernel
theorem dX6_plainParts_11 : decode cX6_plainParts 11 = .ok (.getfield 302, 3) := by decide +kernel
theorem dX6_plainParts_14 : decode cX6_plainParts 14 = .ok (.if_icmp .ne 10, 3) := by decide +kernel
theorem dX6_plainParts_17 : decode cX6_plainParts 17 = .ok (.aload_n 0, 1) := by decide +kernel
theorem dX6_plainParts_18 : decode cX6_plainParts 18 = .ok (.iconst 1, 1) := by decide +kernel
theorem dX6_plainParts_19 : decode cX6_plainParts 19 = .ok (.putfield 323, 3) := by decide +kernel
theorem dX6_plainParts_22 : decode cX6_plainParts 22 = .ok (.iconst 0, 1) := by decide +kernel
theorem dX6_plainParts_23 : decode cX6_plainParts 23 = .ok (.ireturn, 1) := by decide +kernel
theorem dX6_plainParts_24 : decode cX6_plainParts 24 = .ok (.iload_n 1, 1) := by decide +kernel
theorem dX6_plainParts_25 : decode cX6_plainParts 25 = .ok (.aload_n 0, 1) := by decide +kernel
theorem dX6_plainParts_26 : decode cX6_plainParts 26 = .ok (.getfield 314, 3) := by decide +kernel
theorem dX6_plainParts_29 : decode cX6_plainParts 29 = .ok (.aload_n 0, 1) := by decide +kernel
theorem dX6_plainParts_30 : decode cX6_plainParts 30 = .ok (.getfield 302, 3) := by decide +kernel
theorem dX6_plainParts_33 : decode cX6_plainParts 33 = .ok (.isub, 1) := by decide +kernel
theorem dX6_plainParts_34 : decode cX6_plainParts 34 = .ok (.idiv, 1) := by decide +kernel
theorem dX6_plainParts_35 : decode cX6_plainParts 35 = .ok (.ireturn, 1) := by decide +kernel
theorem dX6_partsIt_0 : decode cX6_partsIt 0 = .ok (.aload_n 0, 1) := by decide +kernel
theorem dX6_partsIt_1 : decode cX6_partsIt 1 = .ok (.getfield 308, 3) := by decide +kernel
theorem dX6_partsIt_4 : decode cX6_partsIt 4 = .ok (.iconst 3, 1) := by decide +kernel
theorem dX6_partsIt_5 : decode cX6_partsIt 5 = .ok (.if_icmp .ne 19, 3) := by decide +kernel
theorem dX6_partsIt_8 : decode cX6_partsIt 8 = .ok (.aload_n 0, 1) := by decide +kernel
theorem dX6_partsIt_9 : decode cX6_partsIt 9 = .ok (.bipush 50, 2) := by decide +kernel
theorem dX6_partsIt_11 : decode cX6_partsIt 11 = .ok (.invokevirtual 299, 3) := by decide +kernel
theorem dX6_partsIt_14 : decode cX6_partsIt 14 = .ok (.aload_n 0, 1) := by decide +kernel
theorem dX6_partsIt_15 : decode cX6_partsIt 15 = .ok (.iload_n 1, 1) := by decide +kernel
theorem dX6_partsIt_16 : decode cX6_partsIt 16 = .ok (.iconst 3, 1) := by decide +kernel
theorem dX6_partsIt_17 : decode cX6_partsIt 17 = .ok (.imul, 1) := by decide +kernel
theorem dX6_partsIt_18 : decode cX6_partsIt 18 = .ok (.invokevirtual 326, 3) := by decide +kernel
theorem dX6_partsIt_21 : decode cX6_partsIt 21 = .ok (.iconst 2, 1) := by decide +kernel
theorem dX6_partsIt_22 : decode cX6_partsIt 22 = .ok (.iadd, 1) := by decide +kernel
theorem dX6_partsIt_23 : decode cX6_partsIt 23 = .ok (.ireturn, 1) := by decide +kernel
theorem dX6_partsIt_24 : decode cX6_partsIt 24 = .ok (.aload_n 0, 1) := by decide +kernel
theorem dX6_partsIt_25 : decode cX6_partsIt 25 = .ok (.getfield 308, 3) := by decide +kernel
theorem dX6_partsIt_28 : decode cX6_partsIt 28 = .ok (.iconst 5, 1) := by decide +kernel
theorem dX6_partsIt_29 : decode cX6_partsIt 29 = .ok (.if_icmp .ne 37, 3) := by decide +kernel
theorem dX6_partsIt_32 : decode cX6_partsIt 32 = .ok (.aload_n 0, 1) := by decide +kernel
theorem dX6_partsIt_33 : decode cX6_partsIt 33 = .ok (.bipush 61, 2) := by decide +kernel
theorem dX6_partsIt_35 : decode cX6_partsIt 35 = .ok (.invokevirtual 299, 3) := by decide +kernel
theorem dX6_partsIt_38 : decode cX6_partsIt 38 = .ok (.aload_n 0, 1) := by decide +kernel
theorem dX6_partsIt_39 : decode cX6_partsIt 39 = .ok (.iload_n 1, 1) := by decide +kernel
theorem dX6_partsIt_40 : decode cX6_partsIt 40 = .ok (.invokevirtual 326, 3) := by decide +kernel
theorem dX6_partsIt_43 : decode cX6_partsIt 43 = .ok (.istore_n 2, 1) := by decide +kernel
theorem dX6_partsIt_44 : decode cX6_partsIt 44 = .ok (.aload_n 0, 1) := by decide +kernel
theorem dX6_partsIt_45 : decode cX6_partsIt 45 = .ok (.getfield 323, 3) := by decide +kernel
theorem dX6_partsIt_48 : decode cX6_partsIt 48 = .ok (.ifCond .eq 7, 3) := by decide +kernel
theorem dX6_partsIt_51 : decode cX6_partsIt 51 = .ok (.iconst 0, 1) := by decide +kernel
theorem dX6_partsIt_52 : decode cX6_partsIt 52 = .ok (.goto 13, 3) := by decide +kernel
theorem dX6_partsIt_55 : decode cX6_partsIt 55 = .ok (.iload_n 2, 1) := by decide +kernel
theorem dX6_partsIt_56 : decode cX6_partsIt 56 = .ok (.aload_n 0, 1) := by decide +kernel
theorem dX6_partsIt_57 : decode cX6_partsIt 57 = .ok (.aload_n 0, 1) := by decide +kernel
theorem dX6_partsIt_58 : decode cX6_partsIt 58 = .ok (.getfield 302, 3) := by decide +kernel
theorem dX6_partsIt_61 : decode cX6_partsIt 61 = .ok (.invokevirtual 317, 3) := by decide +kernel
theorem dX6_partsIt_64 : decode cX6_partsIt 64 = .ok (.isub, 1) := by decide +kernel
theorem dX6_partsIt_65 : decode cX6_partsIt 65 = .ok (.ireturn, 1) := by decide +kernel
theorem dX6_partsIt_66 : decode cX6_partsIt 66 = .ok (.aload_n 0, 1) := by decide +kernel
theorem dX6_partsIt_67 : decode cX6_partsIt 67 = .ok (.iload_n 1, 1) := by decide +kernel
theorem dX6_partsIt_68 : decode cX6_partsIt 68 = .ok (.invokevirtual 326, 3) := by decide +kernel
theorem dX6_partsIt_71 : decode cX6_partsIt 71 = .ok (.ireturn, 1) := by decide +kernel
theorem dX6_plainSwears_0 : decode cX6_plainSwears 0 = .ok (.aload_n 0, 1) := by decide +kernel
theorem dX6_plainSwears_1 : decode cX6_plainSwears 1 = .ok (.bipush 13, 2) := by decide +kernel
theorem dX6_plainSwears_3 : decode cX6_plainSwears 3 = .ok (.invokevirtual 299, 3) := by decide +kernel
theorem dX6_plainSwears_6 : decode cX6_plainSwears 6 = .ok (.aload_n 0, 1) := by decide +kernel
theorem dX6_plainSwears_7 : decode cX6_plainSwears 7 = .ok (.iload_n 1, 1) := by decide +kernel
theorem dX6_plainSwears_8 : decode cX6_plainSwears 8 = .ok (.invokevirtual 329, 3) := by decide +kernel
theorem dX6_plainSwears_11 : decode cX6_plainSwears 11 = .ok (.sipush 150, 3) := by decide +kernel
theorem dX6_plainSwears_14 : decode cX6_plainSwears 14 = .ok (.ixor, 1) := by decide +kernel
theorem dX6_plainSwears_15 : decode cX6_plainSwears 15 = .ok (.ireturn, 1) := by decide +kernel
theorem dX6_swearsIt_0 : decode cX6_swearsIt 0 = .ok (.aload_n 0, 1) := by decide +kernel
theorem dX6_swearsIt_1 : decode cX6_swearsIt 1 = .ok (.getfield 308, 3) := by decide +kernel
theorem dX6_swearsIt_4 : decode cX6_swearsIt 4 = .ok (.iconst 2, 1) := by decide +kernel
theorem dX6_swearsIt_5 : decode cX6_swearsIt 5 = .ok (.if_icmp .eq 11, 3) := by decide +kernel
theorem dX6_swearsIt_8 : decode cX6_swearsIt 8 = .ok (.aload_n 0, 1) := by decide +kernel
theorem dX6_swearsIt_9 : decode cX6_swearsIt 9 = .ok (.getfield 308, 3) := by decide +kernel
theorem dX6_swearsIt_12 : decode cX6_swearsIt 12 = .ok (.iconst 4, 1) := by decide +kernel
theorem dX6_swearsIt_13 : decode cX6_swearsIt 13 = .ok (.if_icmp .ne 26, 3) := by decide +kernel
theorem dX6_swearsIt_16 : decode cX6_swearsIt 16 = .ok (.aload_n 0, 1) := by decide +kernel
theorem dX6_swearsIt_17 : decode cX6_swearsIt 17 = .ok (.bipush 31, 2) := by decide +kernel
theorem dX6_swearsIt_19 : decode cX6_swearsIt 19 = .ok (.invokevirtual 299, 3) := by decide +kernel
theorem dX6_swearsIt_22 : decode cX6_swearsIt 22 = .ok (.aload_n 0, 1) := by decide +kernel
theorem dX6_swearsIt_23 : decode cX6_swearsIt 23 = .ok (.iload_n 1, 1) := by decide +kernel
theorem dX6_swearsIt_24 : decode cX6_swearsIt 24 = .ok (.invokevirtual 332, 3) := by decide +kernel
theorem dX6_swearsIt_27 : decode cX6_swearsIt 27 = .ok (.istore_n 2, 1) := by decide +kernel
theorem dX6_swearsIt_28 : decode cX6_swearsIt 28 = .ok (.iload_n 2, 1) := by decide +kernel
theorem dX6_swearsIt_29 : decode cX6_swearsIt 29 = .ok (.aload_n 0, 1) := by decide +kernel
theorem dX6_swearsIt_30 : decode cX6_swearsIt 30 = .ok (.aload_n 0, 1) := by decide +kernel
theorem dX6_swearsIt_31 : decode cX6_swearsIt 31 = .ok (.getfield 302, 3) := by decide +kernel
theorem dX6_swearsIt_34 : decode cX6_swearsIt 34 = .ok (.invokevirtual 335, 3) := by decide +kernel
theorem dX6_swearsIt_37 : decode cX6_swearsIt 37 = .ok (.iadd, 1) := by decide +kernel
theorem dX6_swearsIt_38 : decode cX6_swearsIt 38 = .ok (.ireturn, 1) := by decide +kernel
theorem dX6_swearsIt_39 : decode cX6_swearsIt 39 = .ok (.aload_n 0, 1) := by decide +kernel
theorem dX6_swearsIt_40 : decode cX6_swearsIt 40 = .ok (.getfield 308, 3) := by decide +kernel
theorem dX6_swearsIt_43 : decode cX6_swearsIt 43 = .ok (.iconst 5, 1) := by decide +kernel
theorem dX6_swearsIt_44 : decode cX6_swearsIt 44 = .ok (.if_icmp .ne 17, 3) := by decide +kernel
theorem dX6_swearsIt_47 : decode cX6_swearsIt 47 = .ok (.aload_n 0, 1) := by decide +kernel
theorem dX6_swearsIt_48 : decode cX6_swearsIt 48 = .ok (.bipush 60, 2) := by decide +kernel
theorem dX6_swearsIt_50 : decode cX6_swearsIt 50 = .ok (.invokevirtual 299, 3) := by decide +kernel
theorem dX6_swearsIt_53 : decode cX6_swearsIt 53 = .ok (.aload_n 0, 1) := by decide +kernel
theorem dX6_swearsIt_54 : decode cX6_swearsIt 54 = .ok (.iload_n 1, 1) := by decide +kernel
theorem dX6_swearsIt_55 : decode cX6_swearsIt 55 = .ok (.invokevirtual 332, 3) := by decide +kernel
theorem dX6_swearsIt_58 : decode cX6_swearsIt 58 = .ok (.iconst 2, 1) := by decide +kernel
theorem dX6_swearsIt_59 : decode cX6_swearsIt 59 = .ok (.imul, 1) := by decide +kernel
theorem dX6_swearsIt_60 : decode cX6_swearsIt 60 = .ok (.ireturn, 1) := by decide +kernel
theorem dX6_swearsIt_61 : decode cX6_swearsIt 61 = .ok (.aload_n 0, 1) := by decide +kernel
theorem dX6_swearsIt_62 : decode cX6_swearsIt 62 = .ok (.iload_n 1, 1) := by decide +kernel
theorem dX6_swearsIt_63 : decode cX6_swearsIt 63 = .ok (.invokevirtual 332, 3) := by decide +kernel
theorem dX6_swearsIt_66 : decode cX6_swearsIt 66 = .ok (.ireturn, 1) := by decide +kernel
theorem dX6_act_0 : decode cX6_act 0 = .ok (.aload_n 0, 1) := by decide +kernel
theorem dX6_act_1 : decode cX6_act 1 = .ok (.iconst 0, 1) := by decide +kernel
theorem dX6_act_2 : decode cX6_act 2 = .ok (.putfield 296, 3) := by decide +kernel
theorem dX6_act_5 : decode cX6_act 5 = .ok (.iload_n 1, 1) := by decide +kernel
theorem dX6_act_6 : decode cX6_act 6 = .ok (.invokestatic 262, 3) := by decide +kernel
theorem dX6_act_9 : decode cX6_act 9 = .ok (.ifCond .eq 11, 3) := by decide +kernel
theorem dX6_act_12 : decode cX6_act 12 = .ok (.aload_n 0, 1) := by decide +kernel
theorem dX6_act_13 : decode cX6_act 13 = .ok (.iload_n 1, 1) := by decide +kernel
theorem dX6_act_14 : decode cX6_act 14 = .ok (.invokevirtual 290, 3) := by decide +kernel
theorem dX6_act_17 : decode cX6_act 17 = .ok (.goto 4, 3) := by decide +kernel
theorem dX6_act_20 : decode cX6_act 20 = .ok (.iconst (-1), 1) := by decide +kernel
theorem dX6_act_21 : decode cX6_act 21 = .ok (.istore 4, 2) := by decide +kernel
theorem dX6_act_23 : decode cX6_act 23 = .ok (.iload_n 2, 1) := by decide +kernel
theorem dX6_act_24 : decode cX6_act 24 = .ok (.iconst 0, 1) := by decide +kernel
theorem dX6_act_25 : decode cX6_act 25 = .ok (.iconst 3, 1) := by decide +kernel
theorem dX6_act_26 : decode cX6_act 26 = .ok (.invokestatic 57, 3) := by decide +kernel
theorem dX6_act_29 : decode cX6_act 29 = .ok (.ifCond .eq 13, 3) := by decide +kernel
theorem dX6_act_32 : decode cX6_act 32 = .ok (.iload 4, 2) := by decide +kernel
theorem dX6_act_34 : decode cX6_act 34 = .ok (.iconst 0, 1) := by decide +kernel
theorem dX6_act_35 : decode cX6_act 35 = .ok (.iconst 5, 1) := by decide +kernel
theorem dX6_act_36 : decode cX6_act 36 = .ok (.invokestatic 57, 3) := by decide +kernel
theorem dX6_act_39 : decode cX6_act 39 = .ok (.ifCond .ne 5, 3) := by decide +kernel
theorem dX6_act_42 : decode cX6_act 42 = .ok (.iconst 0, 1) := by decide +kernel
theorem dX6_act_43 : decode cX6_act 43 = .ok (.ireturn, 1) := by decide +kernel
theorem dX6_act_44 : decode cX6_act 44 = .ok (.aload_n 0, 1) := by decide +kernel
theorem dX6_act_45 : decode cX6_act 45 = .ok (.iload 4, 2) := by decide +kernel
theorem dX6_act_47 : decode cX6_act 47 = .ok (.putfield 308, 3) := by decide +kernel
theorem dX6_act_50 : decode cX6_act 50 = .ok (.aload_n 0, 1) := by decide +kernel
theorem dX6_act_51 : decode cX6_act 51 = .ok (.aload_n 0, 1) := by decide +kernel
theorem dX6_act_52 : decode cX6_act 52 = .ok (.getfield 44, 3) := by decide +kernel
theorem dX6_act_55 : decode cX6_act 55 = .ok (.iload_n 1, 1) := by decide +kernel
theorem dX6_act_56 : decode cX6_act 56 = .ok (.iaload, 1) := by decide +kernel
theorem dX6_act_57 : decode cX6_act 57 = .ok (.putfield 302, 3) := by decide +kernel
theorem dX6_act_60 : decode cX6_act 60 = .ok (.aload_n 0, 1) := by decide +kernel
theorem dX6_act_61 : decode cX6_act 61 = .ok (.aload_n 0, 1) := by decide +kernel
theorem dX6_act_62 : decode cX6_act 62 = .ok (.aload_n 0, 1) := by decide +kernel
theorem dX6_act_63 : decode cX6_act 63 = .ok (.getfield 302, 3) := by decide +kernel
theorem dX6_act_66 : decode cX6_act 66 = .ok (.iconst 1, 1) := by decide +kernel
theorem dX6_act_67 : decode cX6_act 67 = .ok (.invokevirtual 187, 3) := by decide +kernel
theorem dX6_act_70 : decode cX6_act 70 = .ok (.putfield 314, 3) := by decide +kernel
theorem dX6_act_73 : decode cX6_act 73 = .ok (.aload_n 0, 1) := by decide +kernel
theorem dX6_act_74 : decode cX6_act 74 = .ok (.iconst 0, 1) := by decide +kernel
theorem dX6_act_75 : decode cX6_act 75 = .ok (.putfield 323, 3) := by decide +kernel
theorem dX6_act_78 : decode cX6_act 78 = .ok (.iload_n 2, 1) := by decide +kernel
theorem dX6_act_79 : decode cX6_act 79 = .ok (.ifCond .ne 11, 3) := by decide +kernel
theorem dX6_act_82 : decode cX6_act 82 = .ok (.aload_n 0, 1) := by decide +kernel
theorem dX6_act_83 : decode cX6_act 83 = .ok (.iload_n 3, 1) := by decide +kernel
theorem dX6_act_84 : decode cX6_act 84 = .ok (.invokevirtual 317, 3) := by decide +kernel
theorem dX6_act_87 : decode cX6_act 87 = .ok (.goto 34, 3) := by decide +kernel
theorem dX6_act_90 : decode cX6_act 90 = .ok (.iload_n 2, 1) := by decide +kernel
theorem dX6_act_91 : decode cX6_act 91 = .ok (.iconst 1, 1) := by decide +kernel
theorem dX6_act_92 : decode cX6_act 92 = .ok (.if_icmp .ne 11, 3) := by decide +kernel
theorem dX6_act_95 : decode cX6_act 95 = .ok (.aload_n 0, 1) := by decide +kernel
theorem dX6_act_96 : decode cX6_act 96 = .ok (.iload_n 3, 1) := by decide +kernel
theorem dX6_act_97 : decode cX6_act 97 = .ok (.invokevirtual 329, 3) := by decide +kernel
theorem dX6_act_100 : decode cX6_act 100 = .ok (.goto 21, 3) := by decide +kernel
theorem dX6_act_103 : decode cX6_act 103 = .ok (.iload_n 2, 1) := by decide +kernel
theorem dX6_act_104 : decode cX6_act 104 = .ok (.iconst 2, 1) := by decide +kernel
theorem dX6_act_105 : decode cX6_act 105 = .ok (.if_icmp .ne 11, 3) := by decide +kernel
theorem dX6_act_108 : decode cX6_act 108 = .ok (.aload_n 0, 1) := by decide +kernel
theorem dX6_act_109 : decode cX6_act 109 = .ok (.iload_n 3, 1) := by decide +kernel
theorem dX6_act_110 : decode cX6_act 110 = .ok (.invokevirtual 335, 3) := by decide +kernel
theorem dX6_act_113 : decode cX6_act 113 = .ok (.goto 8, 3) := by decide +kernel
theorem dX6_act_116 : decode cX6_act 116 = .ok (.aload_n 0, 1) := by decide +kernel
theorem dX6_act_117 : decode cX6_act 117 = .ok (.iload_n 3, 1) := by decide +kernel
theorem dX6_act_118 : decode cX6_act 118 = .ok (.invokevirtual 338, 3) := by decide +kernel
theorem dX6_act_121 : decode cX6_act 121 = .ok (.istore 5, 2) := by decide +kernel
theorem dX6_act_123 : decode cX6_act 123 = .ok (.aload_n 0, 1) := by decide +kernel
theorem dX6_act_124 : decode cX6_act 124 = .ok (.getfield 323, 3) := by decide +kernel
theorem dX6_act_127 : decode cX6_act 127 = .ok (.ifCond .eq 8, 3) := by decide +kernel
theorem dX6_act_130 : decode cX6_act 130 = .ok (.bipush (-15), 2) := by decide +kernel
theorem dX6_act_132 : decode cX6_act 132 = .ok (.goto 5, 3) := by decide +kernel
theorem dX6_act_135 : decode cX6_act 135 = .ok (.iload 5, 2) := by decide +kernel
theorem dX6_act_137 : decode cX6_act 137 = .ok (.ireturn, 1) := by decide +kernel
theorem dX6_trace_0 : decode cX6_trace 0 = .ok (.iload_n 1, 1) := by decide +kernel
theorem dX6_trace_1 : decode cX6_trace 1 = .ok (.iconst 0, 1) := by decide +kernel
theorem dX6_trace_2 : decode cX6_trace 2 = .ok (.aload_n 0, 1) := by decide +kernel
theorem dX6_trace_3 : decode cX6_trace 3 = .ok (.getfield 296, 3) := by decide +kernel
theorem dX6_trace_6 : decode cX6_trace 6 = .ok (.iconst 1, 1) := by decide +kernel
theorem dX6_trace_7 : decode cX6_trace 7 = .ok (.isub, 1) := by decide +kernel
theorem dX6_trace_8 : decode cX6_trace 8 = .ok (.invokestatic 57, 3) := by decide +kernel
theorem dX6_trace_11 : decode cX6_trace 11 = .ok (.ifCond .eq 12, 3) := by decide +kernel
theorem dX6_trace_14 : decode cX6_trace 14 = .ok (.aload_n 0, 1) := by decide +kernel
theorem dX6_trace_15 : decode cX6_trace 15 = .ok (.getfield 50, 3) := by decide +kernel
theorem dX6_trace_18 : decode cX6_trace 18 = .ok (.iload_n 1, 1) := by decide +kernel
theorem dX6_trace_19 : decode cX6_trace 19 = .ok (.iaload, 1) := by decide +kernel
theorem dX6_trace_20 : decode cX6_trace 20 = .ok (.goto 5, 3) := by decide +kernel
theorem dX6_trace_23 : decode cX6_trace 23 = .ok (.bipush (-3), 2) := by decide +kernel
theorem dX6_trace_25 : decode cX6_trace 25 = .ok (.ireturn, 1) := by decide +kernel
theorem dX6_many_0 : decode cX6_many 0 = .ok (.iload_n 1, 1) := by decide +kernel
theorem dX6_many_1 : decode cX6_many 1 = .ok (.tableswitch 87 0 6 #[43, 51, 56, 64, 72, 77, 82], 43) := by decide +kernel
theorem dX6_many_44 : decode cX6_many 44 = .ok (.aload_n 0, 1) := by decide +kernel
theorem dX6_many_45 : decode cX6_many 45 = .ok (.getfield 7, 3) := by decide +kernel
theorem dX6_many_48 : decode cX6_many 48 = .ok (.bipush 6, 2) := by decide +kernel
theorem dX6_many_50 : decode cX6_many 50 = .ok (.iaload, 1) := by decide +kernel
theorem dX6_many_51 : decode cX6_many 51 = .ok (.ireturn, 1) := by decide +kernel
theorem dX6_many_52 : decode cX6_many 52 = .ok (.aload_n 0, 1) := by decide +kernel
theorem dX6_many_53 : decode cX6_many 53 = .ok (.invokevirtual 209, 3) := by decide +kernel
theorem dX6_many_56 : decode cX6_many 56 = .ok (.ireturn, 1) := by decide +kernel
theorem dX6_many_57 : decode cX6_many 57 = .ok (.aload_n 0, 1) := by decide +kernel
theorem dX6_many_58 : decode cX6_many 58 = .ok (.invokevirtual 241, 3) := by decide +kernel
theorem dX6_many_61 : decode cX6_many 61 = .ok (.invokestatic 238, 3) := by decide +kernel
theorem dX6_many_64 : decode cX6_many 64 = .ok (.ireturn, 1) := by decide +kernel
theorem dX6_many_65 : decode cX6_many 65 = .ok (.aload_n 0, 1) := by decide +kernel
theorem dX6_many_66 : decode cX6_many 66 = .ok (.invokevirtual 247, 3) := by decide +kernel
theorem dX6_many_69 : decode cX6_many 69 = .ok (.invokestatic 238, 3) := by decide +kernel
theorem dX6_many_72 : decode cX6_many 72 = .ok (.ireturn, 1) := by decide +kernel
theorem dX6_many_73 : decode cX6_many 73 = .ok (.aload_n 0, 1) := by decide +kernel
theorem dX6_many_74 : decode cX6_many 74 = .ok (.getfield 177, 3) := by decide +kernel
theorem dX6_many_77 : decode cX6_many 77 = .ok (.ireturn, 1) := by decide +kernel
theorem dX6_many_78 : decode cX6_many 78 = .ok (.aload_n 0, 1) := by decide +kernel
theorem dX6_many_79 : decode cX6_many 79 = .ok (.getfield 61, 3) := by decide +kernel
theorem dX6_many_82 : decode cX6_many 82 = .ok (.ireturn, 1) := by decide +kernel
theorem dX6_many_83 : decode cX6_many 83 = .ok (.aload_n 0, 1) := by decide +kernel
theorem dX6_many_84 : decode cX6_many 84 = .ok (.getfield 296, 3) := by decide +kernel
theorem dX6_many_87 : decode cX6_many 87 = .ok (.ireturn, 1) := by decide +kernel
theorem dX6_many_88 : decode cX6_many 88 = .ok (.iconst (-1), 1) := by decide +kernel
theorem dX6_many_89 : decode cX6_many 89 = .ok (.ireturn, 1) := by decide +kernel
theorem dX6_keep_0 : decode cX6_keep 0 = .ok (.aload_n 0, 1) := by decide +kernel
theorem dX6_keep_1 : decode cX6_keep 1 = .ok (.getfield 7, 3) := by decide +kernel
theorem dX6_keep_4 : decode cX6_keep 4 = .ok (.aload_n 0, 1) := by decide +kernel
theorem dX6_keep_5 : decode cX6_keep 5 = .ok (.getfield 16, 3) := by decide +kernel
theorem dX6_keep_8 : decode cX6_keep 8 = .ok (.invokestatic 173, 3) := by decide +kernel
theorem dX6_keep_11 : decode cX6_keep 11 = .ok (.aload_n 0, 1) := by decide +kernel
theorem dX6_keep_12 : decode cX6_keep 12 = .ok (.iconst 1, 1) := by decide +kernel
theorem dX6_keep_13 : decode cX6_keep 13 = .ok (.putfield 341, 3) := by decide +kernel
theorem dX6_keep_16 : decode cX6_keep 16 = .ok (.iconst 1, 1) := by decide +kernel
theorem dX6_keep_17 : decode cX6_keep 17 = .ok (.ireturn, 1) := by decide +kernel
theorem dX6_again_0 : decode cX6_again 0 = .ok (.aload_n 0, 1) := by decide +kernel
theorem dX6_again_1 : decode cX6_again 1 = .ok (.getfield 341, 3) := by decide +kernel
theorem dX6_again_4 : decode cX6_again 4 = .ok (.ifCond .ne 6, 3) := by decide +kernel
theorem dX6_again_7 : decode cX6_again 7 = .ok (.bipush (-3), 2) := by decide +kernel
theorem dX6_again_9 : decode cX6_again 9 = .ok (.ireturn, 1) := by decide +kernel
theorem dX6_again_10 : decode cX6_again 10 = .ok (.aload_n 0, 1) := by decide +kernel
theorem dX6_again_11 : decode cX6_again 11 = .ok (.getfield 16, 3) := by decide +kernel
theorem dX6_again_14 : decode cX6_again 14 = .ok (.aload_n 0, 1) := by decide +kernel
theorem dX6_again_15 : decode cX6_again 15 = .ok (.getfield 7, 3) := by decide +kernel
theorem dX6_again_18 : decode cX6_again 18 = .ok (.invokestatic 173, 3) := by decide +kernel
theorem dX6_again_21 : decode cX6_again 21 = .ok (.aload_n 0, 1) := by decide +kernel
theorem dX6_again_22 : decode cX6_again 22 = .ok (.getfield 7, 3) := by decide +kernel
theorem dX6_again_25 : decode cX6_again 25 = .ok (.bipush 6, 2) := by decide +kernel
theorem dX6_again_27 : decode cX6_again 27 = .ok (.iaload, 1) := by decide +kernel
theorem dX6_again_28 : decode cX6_again 28 = .ok (.ireturn, 1) := by decide +kernel
theorem dJ6_bitCount_0f7a4_0 : decode cJ6_bitCount_0f7a4 0 = .ok (.iload_n 0, 1) := by decide +kernel
theorem dJ6_bitCount_0f7a4_1 : decode cJ6_bitCount_0f7a4 1 = .ok (.iload_n 0, 1) := by decide +kernel
theorem dJ6_bitCount_0f7a4_2 : decode cJ6_bitCount_0f7a4 2 = .ok (.iconst 1, 1) := by decide +kernel
theorem dJ6_bitCount_0f7a4_3 : decode cJ6_bitCount_0f7a4 3 = .ok (.iushr, 1) := by decide +kernel
theorem dJ6_bitCount_0f7a4_4 : decode cJ6_bitCount_0f7a4 4 = .ok (.ldc_w 265, 3) := by decide +kernel
theorem dJ6_bitCount_0f7a4_7 : decode cJ6_bitCount_0f7a4 7 = .ok (.iand, 1) := by decide +kernel
theorem dJ6_bitCount_0f7a4_8 : decode cJ6_bitCount_0f7a4 8 = .ok (.isub, 1) := by decide +kernel
theorem dJ6_bitCount_0f7a4_9 : decode cJ6_bitCount_0f7a4 9 = .ok (.istore_n 0, 1) := by decide +kernel
theorem dJ6_bitCount_0f7a4_10 : decode cJ6_bitCount_0f7a4 10 = .ok (.iload_n 0, 1) := by decide +kernel
theorem dJ6_bitCount_0f7a4_11 : decode cJ6_bitCount_0f7a4 11 = .ok (.ldc_w 266, 3) := by decide +kernel
theorem dJ6_bitCount_0f7a4_14 : decode cJ6_bitCount_0f7a4 14 = .ok (.iand, 1) := by decide +kernel
theorem dJ6_bitCount_0f7a4_15 : decode cJ6_bitCount_0f7a4 15 = .ok (.iload_n 0, 1) := by decide +kernel
theorem dJ6_bitCount_0f7a4_16 : decode cJ6_bitCount_0f7a4 16 = .ok (.iconst 2, 1) := by decide +kernel
theorem dJ6_bitCount_0f7a4_17 : decode cJ6_bitCount_0f7a4 17 = .ok (.iushr, 1) := by decide +kernel
theorem dJ6_bitCount_0f7a4_18 : decode cJ6_bitCount_0f7a4 18 = .ok (.ldc_w 266, 3) := by decide +kernel
theorem dJ6_bitCount_0f7a4_21 : decode cJ6_bitCount_0f7a4 21 = .ok (.iand, 1) := by decide +kernel
theorem dJ6_bitCount_0f7a4_22 : decode cJ6_bitCount_0f7a4 22 = .ok (.iadd, 1) := by decide +kernel
theorem dJ6_bitCount_0f7a4_23 : decode cJ6_bitCount_0f7a4 23 = .ok (.istore_n 0, 1) := by decide +kernel
theorem dJ6_bitCount_0f7a4_24 : decode cJ6_bitCount_0f7a4 24 = .ok (.iload_n 0, 1) := by decide +kernel
theorem dJ6_bitCount_0f7a4_25 : decode cJ6_bitCount_0f7a4 25 = .ok (.iload_n 0, 1) := by decide +kernel
theorem dJ6_bitCount_0f7a4_26 : decode cJ6_bitCount_0f7a4 26 = .ok (.iconst 4, 1) := by decide +kernel
theorem dJ6_bitCount_0f7a4_27 : decode cJ6_bitCount_0f7a4 27 = .ok (.iushr, 1) := by decide +kernel
theorem dJ6_bitCount_0f7a4_28 : decode cJ6_bitCount_0f7a4 28 = .ok (.iadd, 1) := by decide +kernel
theorem dJ6_bitCount_0f7a4_29 : decode cJ6_bitCount_0f7a4 29 = .ok (.ldc_w 267, 3) := by decide +kernel
theorem dJ6_bitCount_0f7a4_32 : decode cJ6_bitCount_0f7a4 32 = .ok (.iand, 1) := by decide +kernel
theorem dJ6_bitCount_0f7a4_33 : decode cJ6_bitCount_0f7a4 33 = .ok (.istore_n 0, 1) := by decide +kernel
theorem dJ6_bitCount_0f7a4_34 : decode cJ6_bitCount_0f7a4 34 = .ok (.iload_n 0, 1) := by decide +kernel
theorem dJ6_bitCount_0f7a4_35 : decode cJ6_bitCount_0f7a4 35 = .ok (.iload_n 0, 1) := by decide +kernel
theorem dJ6_bitCount_0f7a4_36 : decode cJ6_bitCount_0f7a4 36 = .ok (.bipush 8, 2) := by decide +kernel
theorem dJ6_bitCount_0f7a4_38 : decode cJ6_bitCount_0f7a4 38 = .ok (.iushr, 1) := by decide +kernel
theorem dJ6_bitCount_0f7a4_39 : decode cJ6_bitCount_0f7a4 39 = .ok (.iadd, 1) := by decide +kernel
theorem dJ6_bitCount_0f7a4_40 : decode cJ6_bitCount_0f7a4 40 = .ok (.istore_n 0, 1) := by decide +kernel
theorem dJ6_bitCount_0f7a4_41 : decode cJ6_bitCount_0f7a4 41 = .ok (.iload_n 0, 1) := by decide +kernel
theorem dJ6_bitCount_0f7a4_42 : decode cJ6_bitCount_0f7a4 42 = .ok (.iload_n 0, 1) := by decide +kernel
theorem dJ6_bitCount_0f7a4_43 : decode cJ6_bitCount_0f7a4 43 = .ok (.bipush 16, 2) := by decide +kernel
theorem dJ6_bitCount_0f7a4_45 : decode cJ6_bitCount_0f7a4 45 = .ok (.iushr, 1) := by decide +kernel
theorem dJ6_bitCount_0f7a4_46 : decode cJ6_bitCount_0f7a4 46 = .ok (.iadd, 1) := by decide +kernel
theorem dJ6_bitCount_0f7a4_47 : decode cJ6_bitCount_0f7a4 47 = .ok (.istore_n 0, 1) := by decide +kernel
theorem dJ6_bitCount_0f7a4_48 : decode cJ6_bitCount_0f7a4 48 = .ok (.iload_n 0, 1) := by decide +kernel
theorem dJ6_bitCount_0f7a4_49 : decode cJ6_bitCount_0f7a4 49 = .ok (.bipush 63, 2) := by decide +kernel
theorem dJ6_bitCount_0f7a4_51 : decode cJ6_bitCount_0f7a4 51 = .ok (.iand, 1) := by decide +kernel
theorem dJ6_bitCount_0f7a4_52 : decode cJ6_bitCount_0f7a4 52 = .ok (.ireturn, 1) := by decide +kernel
theorem dJ9_max_7cf53_0 : decode cJ9_max_7cf53 0 = .ok (.iload_n 0, 1) := by decide +kernel
theorem dJ9_max_7cf53_1 : decode cJ9_max_7cf53 1 = .ok (.iload_n 1, 1) := by decide +kernel
theorem dJ9_max_7cf53_2 : decode cJ9_max_7cf53 2 = .ok (.if_icmp .lt 7, 3) := by decide +kernel
theorem dJ9_max_7cf53_5 : decode cJ9_max_7cf53 5 = .ok (.iload_n 0, 1) := by decide +kernel
theorem dJ9_max_7cf53_6 : decode cJ9_max_7cf53 6 = .ok (.goto 4, 3) := by decide +kernel
theorem dJ9_max_7cf53_9 : decode cJ9_max_7cf53 9 = .ok (.iload_n 1, 1) := by decide +kernel
theorem dJ9_max_7cf53_10 : decode cJ9_max_7cf53 10 = .ok (.ireturn, 1) := by decide +kernel
theorem dJ9_max_f86c9_0 : decode cJ9_max_f86c9 0 = .ok (.lload_n 0, 1) := by decide +kernel
theorem dJ9_max_f86c9_1 : decode cJ9_max_f86c9 1 = .ok (.lload_n 2, 1) := by decide +kernel
theorem dJ9_max_f86c9_2 : decode cJ9_max_f86c9 2 = .ok (.lcmp, 1) := by decide +kernel
theorem dJ9_max_f86c9_3 : decode cJ9_max_f86c9 3 = .ok (.ifCond .lt 7, 3) := by decide +kernel
theorem dJ9_max_f86c9_6 : decode cJ9_max_f86c9 6 = .ok (.lload_n 0, 1) := by decide +kernel
theorem dJ9_max_f86c9_7 : decode cJ9_max_f86c9 7 = .ok (.goto 4, 3) := by decide +kernel
theorem dJ9_max_f86c9_10 : decode cJ9_max_f86c9 10 = .ok (.lload_n 2, 1) := by decide +kernel
theorem dJ9_max_f86c9_11 : decode cJ9_max_f86c9 11 = .ok (.lreturn, 1) := by decide +kernel
theorem dJ9_min_7cf53_0 : decode cJ9_min_7cf53 0 = .ok (.iload_n 0, 1) := by decide +kernel
theorem dJ9_min_7cf53_1 : decode cJ9_min_7cf53 1 = .ok (.iload_n 1, 1) := by decide +kernel
theorem dJ9_min_7cf53_2 : decode cJ9_min_7cf53 2 = .ok (.if_icmp .gt 7, 3) := by decide +kernel
theorem dJ9_min_7cf53_5 : decode cJ9_min_7cf53 5 = .ok (.iload_n 0, 1) := by decide +kernel
theorem dJ9_min_7cf53_6 : decode cJ9_min_7cf53 6 = .ok (.goto 4, 3) := by decide +kernel
theorem dJ9_min_7cf53_9 : decode cJ9_min_7cf53 9 = .ok (.iload_n 1, 1) := by decide +kernel
theorem dJ9_min_7cf53_10 : decode cJ9_min_7cf53 10 = .ok (.ireturn, 1) := by decide +kernel
theorem dJ0_length_8abf5_0 : decode cJ0_length_8abf5 0 = .ok (.aload_n 0, 1) := by decide +kernel
theorem dJ0_length_8abf5_1 : decode cJ0_length_8abf5 1 = .ok (.getfield 9, 3) := by decide +kernel
theorem dJ0_length_8abf5_4 : decode cJ0_length_8abf5 4 = .ok (.arraylength, 1) := by decide +kernel
theorem dJ0_length_8abf5_5 : decode cJ0_length_8abf5 5 = .ok (.aload_n 0, 1) := by decide +kernel
theorem dJ0_length_8abf5_6 : decode cJ0_length_8abf5 6 = .ok (.invokevirtual 335, 3) := by decide +kernel
theorem dJ0_length_8abf5_9 : decode cJ0_length_8abf5 9 = .ok (.ishr, 1) := by decide +kernel
theorem dJ0_length_8abf5_10 : decode cJ0_length_8abf5 10 = .ok (.ireturn, 1) := by decide +kernel
theorem dJ0_charAt_5068e_0 : decode cJ0_charAt_5068e 0 = .ok (.aload_n 0, 1) := by decide +kernel
theorem dJ0_charAt_5068e_1 : decode cJ0_charAt_5068e 1 = .ok (.invokevirtual 492, 3) := by decide +kernel
theorem dJ0_charAt_5068e_4 : decode cJ0_charAt_5068e 4 = .ok (.ifCond .eq 12, 3) := by decide +kernel
theorem dJ0_charAt_5068e_7 : decode cJ0_charAt_5068e 7 = .ok (.aload_n 0, 1) := by decide +kernel
theorem dJ0_charAt_5068e_8 : decode cJ0_charAt_5068e 8 = .ok (.getfield 9, 3) := by decide +kernel
theorem dJ0_charAt_5068e_11 : decode cJ0_charAt_5068e 11 = .ok (.iload_n 1, 1) := by decide +kernel
theorem dJ0_charAt_5068e_12 : decode cJ0_charAt_5068e 12 = .ok (.invokestatic 495, 3) := by decide +kernel
theorem dJ0_charAt_5068e_15 : decode cJ0_charAt_5068e 15 = .ok (.ireturn, 1) := by decide +kernel
theorem dJ0_charAt_5068e_16 : decode cJ0_charAt_5068e 16 = .ok (.aload_n 0, 1) := by decide +kernel
theorem dJ0_charAt_5068e_17 : decode cJ0_charAt_5068e 17 = .ok (.getfield 9, 3) := by decide +kernel
theorem dJ0_charAt_5068e_20 : decode cJ0_charAt_5068e 20 = .ok (.iload_n 1, 1) := by decide +kernel
theorem dJ0_charAt_5068e_21 : decode cJ0_charAt_5068e 21 = .ok (.invokestatic 498, 3) := by decide +kernel
theorem dJ0_charAt_5068e_24 : decode cJ0_charAt_5068e 24 = .ok (.ireturn, 1) := by decide +kernel
theorem dJ0_coder_7d493_0 : decode cJ0_coder_7d493 0 = .ok (.getstatic 38, 3) := by decide +kernel
theorem dJ0_coder_7d493_3 : decode cJ0_coder_7d493 3 = .ok (.ifCond .eq 10, 3) := by decide +kernel
theorem dJ0_coder_7d493_6 : decode cJ0_coder_7d493 6 = .ok (.aload_n 0, 1) := by decide +kernel
theorem dJ0_coder_7d493_7 : decode cJ0_coder_7d493 7 = .ok (.getfield 15, 3) := by decide +kernel
theorem dJ0_coder_7d493_10 : decode cJ0_coder_7d493 10 = .ok (.goto 4, 3) := by decide +kernel
theorem dJ0_coder_7d493_13 : decode cJ0_coder_7d493 13 = .ok (.iconst 1, 1) := by decide +kernel
theorem dJ0_coder_7d493_14 : decode cJ0_coder_7d493 14 = .ok (.ireturn, 1) := by decide +kernel
theorem dJ0_isLatin1_aae02_0 : decode cJ0_isLatin1_aae02 0 = .ok (.getstatic 38, 3) := by decide +kernel
theorem dJ0_isLatin1_aae02_3 : decode cJ0_isLatin1_aae02 3 = .ok (.ifCond .eq 14, 3) := by decide +kernel
theorem dJ0_isLatin1_aae02_6 : decode cJ0_isLatin1_aae02 6 = .ok (.aload_n 0, 1) := by decide +kernel
theorem dJ0_isLatin1_aae02_7 : decode cJ0_isLatin1_aae02 7 = .ok (.getfield 15, 3) := by decide +kernel
theorem dJ0_isLatin1_aae02_10 : decode cJ0_isLatin1_aae02 10 = .ok (.ifCond .ne 7, 3) := by decide +kernel
theorem dJ0_isLatin1_aae02_13 : decode cJ0_isLatin1_aae02 13 = .ok (.iconst 1, 1) := by decide +kernel
theorem dJ0_isLatin1_aae02_14 : decode cJ0_isLatin1_aae02 14 = .ok (.goto 4, 3) := by decide +kernel
theorem dJ0_isLatin1_aae02_17 : decode cJ0_isLatin1_aae02 17 = .ok (.iconst 0, 1) := by decide +kernel
theorem dJ0_isLatin1_aae02_18 : decode cJ0_isLatin1_aae02 18 = .ok (.ireturn, 1) := by decide +kernel
theorem dJ0_checkIndex_df160_0 : decode cJ0_checkIndex_df160 0 = .ok (.iload_n 0, 1) := by decide +kernel
theorem dJ0_checkIndex_df160_1 : decode cJ0_checkIndex_df160 1 = .ok (.iload_n 1, 1) := by decide +kernel
theorem dJ0_checkIndex_df160_2 : decode cJ0_checkIndex_df160 2 = .ok (.getstatic 1053, 3) := by decide +kernel
theorem dJ0_checkIndex_df160_5 : decode cJ0_checkIndex_df160 5 = .ok (.invokestatic 1059, 3) := by decide +kernel
theorem dJ0_checkIndex_df160_8 : decode cJ0_checkIndex_df160 8 = .ok (.pop, 1) := by decide +kernel
theorem dJ0_checkIndex_df160_9 : decode cJ0_checkIndex_df160 9 = .ok (.return_, 1) := by decide +kernel
theorem dJ1_charAt_3b067_0 : decode cJ1_charAt_3b067 0 = .ok (.iload_n 1, 1) := by decide +kernel
theorem dJ1_charAt_3b067_1 : decode cJ1_charAt_3b067 1 = .ok (.aload_n 0, 1) := by decide +kernel
theorem dJ1_charAt_3b067_2 : decode cJ1_charAt_3b067 2 = .ok (.arraylength, 1) := by decide +kernel
theorem dJ1_charAt_3b067_3 : decode cJ1_charAt_3b067 3 = .ok (.invokestatic 9, 3) := by decide +kernel
theorem dJ1_charAt_3b067_6 : decode cJ1_charAt_3b067 6 = .ok (.aload_n 0, 1) := by decide +kernel
theorem dJ1_charAt_3b067_7 : decode cJ1_charAt_3b067 7 = .ok (.iload_n 1, 1) := by decide +kernel
theorem dJ1_charAt_3b067_8 : decode cJ1_charAt_3b067 8 = .ok (.baload, 1) := by decide +kernel
theorem dJ1_charAt_3b067_9 : decode cJ1_charAt_3b067 9 = .ok (.sipush 255, 3) := by decide +kernel
theorem dJ1_charAt_3b067_12 : decode cJ1_charAt_3b067 12 = .ok (.iand, 1) := by decide +kernel
theorem dJ1_charAt_3b067_13 : decode cJ1_charAt_3b067 13 = .ok (.i2c, 1) := by decide +kernel
theorem dJ1_charAt_3b067_14 : decode cJ1_charAt_3b067 14 = .ok (.ireturn, 1) := by decide +kernel
theorem dJ2_getChar_3b067_0 : decode cJ2_getChar_3b067 0 = .ok (.getstatic 44, 3) := by decide +kernel
theorem dJ2_getChar_3b067_3 : decode cJ2_getChar_3b067 3 = .ok (.ifCond .ne 25, 3) := by decide +kernel
theorem dJ2_getChar_3b067_6 : decode cJ2_getChar_3b067 6 = .ok (.iload_n 1, 1) := by decide +kernel
theorem dJ2_getChar_3b067_7 : decode cJ2_getChar_3b067 7 = .ok (.ifCond .lt 11, 3) := by decide +kernel
theorem dJ2_getChar_3b067_10 : decode cJ2_getChar_3b067 10 = .ok (.iload_n 1, 1) := by decide +kernel
theorem dJ2_getChar_3b067_11 : decode cJ2_getChar_3b067 11 = .ok (.aload_n 0, 1) := by decide +kernel
theorem dJ2_getChar_3b067_12 : decode cJ2_getChar_3b067 12 = .ok (.invokestatic 48, 3) := by decide +kernel
theorem dJ2_getChar_3b067_15 : decode cJ2_getChar_3b067 15 = .ok (.if_icmp .lt 13, 3) := by decide +kernel
theorem dJ2_getChar_3b067_18 : decode cJ2_getChar_3b067 18 = .ok (.new 52, 3) := by decide +kernel
theorem dJ2_getChar_3b067_21 : decode cJ2_getChar_3b067 21 = .ok (.dup, 1) := by decide +kernel
theorem dJ2_getChar_3b067_22 : decode cJ2_getChar_3b067 22 = .ok (.ldc 54, 2) := by decide +kernel
theorem dJ2_getChar_3b067_24 : decode cJ2_getChar_3b067 24 = .ok (.invokespecial 56, 3) := by decide +kernel
theorem dJ2_getChar_3b067_27 : decode cJ2_getChar_3b067 27 = .ok (.athrow, 1) := by decide +kernel
theorem dJ2_getChar_3b067_28 : decode cJ2_getChar_3b067 28 = .ok (.iload_n 1, 1) := by decide +kernel
theorem dJ2_getChar_3b067_29 : decode cJ2_getChar_3b067 29 = .ok (.iconst 1, 1) := by decide +kernel
theorem dJ2_getChar_3b067_30 : decode cJ2_getChar_3b067 30 = .ok (.ishl, 1) := by decide +kernel
theorem dJ2_getChar_3b067_31 : decode cJ2_getChar_3b067 31 = .ok (.istore_n 1, 1) := by decide +kernel
theorem dJ2_getChar_3b067_32 : decode cJ2_getChar_3b067 32 = .ok (.aload_n 0, 1) := by decide +kernel
theorem dJ2_getChar_3b067_33 : decode cJ2_getChar_3b067 33 = .ok (.iload_n 1, 1) := by decide +kernel
theorem dJ2_getChar_3b067_34 : decode cJ2_getChar_3b067 34 = .ok (.iinc 1 1, 3) := by decide +kernel
theorem dJ2_getChar_3b067_37 : decode cJ2_getChar_3b067 37 = .ok (.baload, 1) := by decide +kernel
theorem dJ2_getChar_3b067_38 : decode cJ2_getChar_3b067 38 = .ok (.sipush 255, 3) := by decide +kernel
theorem dJ2_getChar_3b067_41 : decode cJ2_getChar_3b067 41 = .ok (.iand, 1) := by decide +kernel
theorem dJ2_getChar_3b067_42 : decode cJ2_getChar_3b067 42 = .ok (.getstatic 59, 3) := by decide +kernel
theorem dJ2_getChar_3b067_45 : decode cJ2_getChar_3b067 45 = .ok (.ishl, 1) := by decide +kernel
theorem dJ2_getChar_3b067_46 : decode cJ2_getChar_3b067 46 = .ok (.aload_n 0, 1) := by decide +kernel
theorem dJ2_getChar_3b067_47 : decode cJ2_getChar_3b067 47 = .ok (.iload_n 1, 1) := by decide +kernel
theorem dJ2_getChar_3b067_48 : decode cJ2_getChar_3b067 48 = .ok (.baload, 1) := by decide +kernel
theorem dJ2_getChar_3b067_49 : decode cJ2_getChar_3b067 49 = .ok (.sipush 255, 3) := by decide +kernel
theorem dJ2_getChar_3b067_52 : decode cJ2_getChar_3b067 52 = .ok (.iand, 1) := by decide +kernel
theorem dJ2_getChar_3b067_53 : decode cJ2_getChar_3b067 53 = .ok (.getstatic 63, 3) := by decide +kernel
theorem dJ2_getChar_3b067_56 : decode cJ2_getChar_3b067 56 = .ok (.ishl, 1) := by decide +kernel
theorem dJ2_getChar_3b067_57 : decode cJ2_getChar_3b067 57 = .ok (.ior, 1) := by decide +kernel
theorem dJ2_getChar_3b067_58 : decode cJ2_getChar_3b067 58 = .ok (.i2c, 1) := by decide +kernel
theorem dJ2_getChar_3b067_59 : decode cJ2_getChar_3b067 59 = .ok (.ireturn, 1) := by decide +kernel
theorem dJ2_length_9d52b_0 : decode cJ2_length_9d52b 0 = .ok (.aload_n 0, 1) := by decide +kernel
theorem dJ2_length_9d52b_1 : decode cJ2_length_9d52b 1 = .ok (.arraylength, 1) := by decide +kernel
theorem dJ2_length_9d52b_2 : decode cJ2_length_9d52b 2 = .ok (.iconst 1, 1) := by decide +kernel
theorem dJ2_length_9d52b_3 : decode cJ2_length_9d52b 3 = .ok (.ishr, 1) := by decide +kernel
theorem dJ2_length_9d52b_4 : decode cJ2_length_9d52b 4 = .ok (.ireturn, 1) := by decide +kernel
theorem dJ2_charAt_3b067_0 : decode cJ2_charAt_3b067 0 = .ok (.iload_n 1, 1) := by decide +kernel
theorem dJ2_charAt_3b067_1 : decode cJ2_charAt_3b067 1 = .ok (.aload_n 0, 1) := by decide +kernel
theorem dJ2_charAt_3b067_2 : decode cJ2_charAt_3b067 2 = .ok (.invokestatic 67, 3) := by decide +kernel
theorem dJ2_charAt_3b067_5 : decode cJ2_charAt_3b067 5 = .ok (.aload_n 0, 1) := by decide +kernel
theorem dJ2_charAt_3b067_6 : decode cJ2_charAt_3b067 6 = .ok (.iload_n 1, 1) := by decide +kernel
theorem dJ2_charAt_3b067_7 : decode cJ2_charAt_3b067 7 = .ok (.invokestatic 71, 3) := by decide +kernel
theorem dJ2_charAt_3b067_10 : decode cJ2_charAt_3b067 10 = .ok (.ireturn, 1) := by decide +kernel
theorem dJ2_checkIndex_2214a_0 : decode cJ2_checkIndex_2214a 0 = .ok (.iload_n 0, 1) := by decide +kernel
theorem dJ2_checkIndex_2214a_1 : decode cJ2_checkIndex_2214a 1 = .ok (.aload_n 1, 1) := by decide +kernel
theorem dJ2_checkIndex_2214a_2 : decode cJ2_checkIndex_2214a 2 = .ok (.invokestatic 48, 3) := by decide +kernel
theorem dJ2_checkIndex_2214a_5 : decode cJ2_checkIndex_2214a 5 = .ok (.invokestatic 414, 3) := by decide +kernel
theorem dJ2_checkIndex_2214a_8 : decode cJ2_checkIndex_2214a 8 = .ok (.return_, 1) := by decide +kernel
theorem dJ3_checkIndex_8e157_0 : decode cJ3_checkIndex_8e157 0 = .ok (.iload_n 0, 1) := by decide +kernel
theorem dJ3_checkIndex_8e157_1 : decode cJ3_checkIndex_8e157 1 = .ok (.ifCond .lt 8, 3) := by decide +kernel
theorem dJ3_checkIndex_8e157_4 : decode cJ3_checkIndex_8e157 4 = .ok (.iload_n 0, 1) := by decide +kernel
theorem dJ3_checkIndex_8e157_5 : decode cJ3_checkIndex_8e157 5 = .ok (.iload_n 1, 1) := by decide +kernel
theorem dJ3_checkIndex_8e157_6 : decode cJ3_checkIndex_8e157 6 = .ok (.if_icmp .lt 10, 3) := by decide +kernel
theorem dJ3_checkIndex_8e157_9 : decode cJ3_checkIndex_8e157 9 = .ok (.aload_n 2, 1) := by decide +kernel
theorem dJ3_checkIndex_8e157_10 : decode cJ3_checkIndex_8e157 10 = .ok (.iload_n 0, 1) := by decide +kernel
theorem dJ3_checkIndex_8e157_11 : decode cJ3_checkIndex_8e157 11 = .ok (.iload_n 1, 1) := by decide +kernel
theorem dJ3_checkIndex_8e157_12 : decode cJ3_checkIndex_8e157 12 = .ok (.invokestatic 95, 3) := by decide +kernel
theorem dJ3_checkIndex_8e157_15 : decode cJ3_checkIndex_8e157 15 = .ok (.athrow, 1) := by decide +kernel
theorem dJ3_checkIndex_8e157_16 : decode cJ3_checkIndex_8e157 16 = .ok (.iload_n 0, 1) := by decide +kernel
theorem dJ3_checkIndex_8e157_17 : decode cJ3_checkIndex_8e157 17 = .ok (.ireturn, 1) := by decide +kernel
