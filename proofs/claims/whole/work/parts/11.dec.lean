theorem dX8_has_0 : decode cX8_has 0 = .ok (.iload_n 1, 1) := by decide +kernel
theorem dX8_has_1 : decode cX8_has 1 = .ok (.ifCond .lt 15, 3) := by decide +kernel
theorem dX8_has_4 : decode cX8_has 4 = .ok (.iload_n 1, 1) := by decide +kernel
theorem dX8_has_5 : decode cX8_has 5 = .ok (.aload_n 0, 1) := by decide +kernel
theorem dX8_has_6 : decode cX8_has 6 = .ok (.getfield 20, 3) := by decide +kernel
theorem dX8_has_9 : decode cX8_has 9 = .ok (.if_icmp .ge 7, 3) := by decide +kernel
theorem dX8_has_12 : decode cX8_has 12 = .ok (.iconst 1, 1) := by decide +kernel
theorem dX8_has_13 : decode cX8_has 13 = .ok (.goto 4, 3) := by decide +kernel
theorem dX8_has_16 : decode cX8_has 16 = .ok (.iconst 0, 1) := by decide +kernel
theorem dX8_has_17 : decode cX8_has 17 = .ok (.ireturn, 1) := by decide +kernel
theorem dX8_priceIn_0 : decode cX8_priceIn 0 = .ok (.iconst (-1), 1) := by decide +kernel
theorem dX8_priceIn_1 : decode cX8_priceIn 1 = .ok (.istore_n 3, 1) := by decide +kernel
theorem dX8_priceIn_2 : decode cX8_priceIn 2 = .ok (.iconst 0, 1) := by decide +kernel
theorem dX8_priceIn_3 : decode cX8_priceIn 3 = .ok (.istore 4, 2) := by decide +kernel
theorem dX8_priceIn_5 : decode cX8_priceIn 5 = .ok (.iconst 0, 1) := by decide +kernel
theorem dX8_priceIn_6 : decode cX8_priceIn 6 = .ok (.istore 5, 2) := by decide +kernel
theorem dX8_priceIn_8 : decode cX8_priceIn 8 = .ok (.iload 5, 2) := by decide +kernel
theorem dX8_priceIn_10 : decode cX8_priceIn 10 = .ok (.aload_n 0, 1) := by decide +kernel
theorem dX8_priceIn_11 : decode cX8_priceIn 11 = .ok (.getfield 33, 3) := by decide +kernel
theorem dX8_priceIn_14 : decode cX8_priceIn 14 = .ok (.if_icmp .ge 59, 3) := by decide +kernel
theorem dX8_priceIn_17 : decode cX8_priceIn 17 = .ok (.aload_n 0, 1) := by decide +kernel
theorem dX8_priceIn_18 : decode cX8_priceIn 18 = .ok (.getfield 24, 3) := by decide +kernel
theorem dX8_priceIn_21 : decode cX8_priceIn 21 = .ok (.iload 5, 2) := by decide +kernel
theorem dX8_priceIn_23 : decode cX8_priceIn 23 = .ok (.iaload, 1) := by decide +kernel
theorem dX8_priceIn_24 : decode cX8_priceIn 24 = .ok (.iload_n 1, 1) := by decide +kernel
theorem dX8_priceIn_25 : decode cX8_priceIn 25 = .ok (.if_icmp .ne 42, 3) := by decide +kernel
theorem dX8_priceIn_28 : decode cX8_priceIn 28 = .ok (.aload_n 0, 1) := by decide +kernel
theorem dX8_priceIn_29 : decode cX8_priceIn 29 = .ok (.getfield 27, 3) := by decide +kernel
theorem dX8_priceIn_32 : decode cX8_priceIn 32 = .ok (.iload 5, 2) := by decide +kernel
theorem dX8_priceIn_34 : decode cX8_priceIn 34 = .ok (.iaload, 1) := by decide +kernel
theorem dX8_priceIn_35 : decode cX8_priceIn 35 = .ok (.iload_n 2, 1) := by decide +kernel
theorem dX8_priceIn_36 : decode cX8_priceIn 36 = .ok (.if_icmp .gt 31, 3) := by decide +kernel
theorem dX8_priceIn_39 : decode cX8_priceIn 39 = .ok (.aload_n 0, 1) := by decide +kernel
theorem dX8_priceIn_40 : decode cX8_priceIn 40 = .ok (.getfield 27, 3) := by decide +kernel
theorem dX8_priceIn_43 : decode cX8_priceIn 43 = .ok (.iload 5, 2) := by decide +kernel
theorem dX8_priceIn_45 : decode cX8_priceIn 45 = .ok (.iaload, 1) := by decide +kernel
theorem dX8_priceIn_46 : decode cX8_priceIn 46 = .ok (.iload_n 3, 1) := by decide +kernel
theorem dX8_priceIn_47 : decode cX8_priceIn 47 = .ok (.if_icmp .lt 20, 3) := by decide +kernel
theorem dX8_priceIn_50 : decode cX8_priceIn 50 = .ok (.aload_n 0, 1) := by decide +kernel
theorem dX8_priceIn_51 : decode cX8_priceIn 51 = .ok (.getfield 27, 3) := by decide +kernel
theorem dX8_priceIn_54 : decode cX8_priceIn 54 = .ok (.iload 5, 2) := by decide +kernel
theorem dX8_priceIn_56 : decode cX8_priceIn 56 = .ok (.iaload, 1) := by decide +kernel
theorem dX8_priceIn_57 : decode cX8_priceIn 57 = .ok (.istore_n 3, 1) := by decide +kernel
theorem dX8_priceIn_58 : decode cX8_priceIn 58 = .ok (.aload_n 0, 1) := by decide +kernel
theorem dX8_priceIn_59 : decode cX8_priceIn 59 = .ok (.getfield 30, 3) := by decide +kernel
theorem dX8_priceIn_62 : decode cX8_priceIn 62 = .ok (.iload 5, 2) := by decide +kernel
theorem dX8_priceIn_64 : decode cX8_priceIn 64 = .ok (.iaload, 1) := by decide +kernel
theorem dX8_priceIn_65 : decode cX8_priceIn 65 = .ok (.istore 4, 2) := by decide +kernel
theorem dX8_priceIn_67 : decode cX8_priceIn 67 = .ok (.iinc 5 1, 3) := by decide +kernel
theorem dX8_priceIn_70 : decode cX8_priceIn 70 = .ok (.goto (-62), 3) := by decide +kernel
theorem dX8_priceIn_73 : decode cX8_priceIn 73 = .ok (.iload 4, 2) := by decide +kernel
theorem dX8_priceIn_75 : decode cX8_priceIn 75 = .ok (.ireturn, 1) := by decide +kernel
theorem dX8_isPart_0 : decode cX8_isPart 0 = .ok (.iload_n 1, 1) := by decide +kernel
theorem dX8_isPart_1 : decode cX8_isPart 1 = .ok (.istore_n 3, 1) := by decide +kernel
theorem dX8_isPart_2 : decode cX8_isPart 2 = .ok (.iconst 0, 1) := by decide +kernel
theorem dX8_isPart_3 : decode cX8_isPart 3 = .ok (.istore 4, 2) := by decide +kernel
theorem dX8_isPart_5 : decode cX8_isPart 5 = .ok (.iload 4, 2) := by decide +kernel
theorem dX8_isPart_7 : decode cX8_isPart 7 = .ok (.bipush 16, 2) := by decide +kernel
theorem dX8_isPart_9 : decode cX8_isPart 9 = .ok (.if_icmp .ge 31, 3) := by decide +kernel
theorem dX8_isPart_12 : decode cX8_isPart 12 = .ok (.aload_n 0, 1) := by decide +kernel
theorem dX8_isPart_13 : decode cX8_isPart 13 = .ok (.iload_n 3, 1) := by decide +kernel
theorem dX8_isPart_14 : decode cX8_isPart 14 = .ok (.invokevirtual 36, 3) := by decide +kernel
theorem dX8_isPart_17 : decode cX8_isPart 17 = .ok (.ifCond .eq 23, 3) := by decide +kernel
theorem dX8_isPart_20 : decode cX8_isPart 20 = .ok (.iload_n 3, 1) := by decide +kernel
theorem dX8_isPart_21 : decode cX8_isPart 21 = .ok (.iload_n 2, 1) := by decide +kernel
theorem dX8_isPart_22 : decode cX8_isPart 22 = .ok (.if_icmp .ne 5, 3) := by decide +kernel
theorem dX8_isPart_25 : decode cX8_isPart 25 = .ok (.iconst 1, 1) := by decide +kernel
theorem dX8_isPart_26 : decode cX8_isPart 26 = .ok (.ireturn, 1) := by decide +kernel
theorem dX8_isPart_27 : decode cX8_isPart 27 = .ok (.aload_n 0, 1) := by decide +kernel
theorem dX8_isPart_28 : decode cX8_isPart 28 = .ok (.getfield 16, 3) := by decide +kernel
theorem dX8_isPart_31 : decode cX8_isPart 31 = .ok (.iload_n 3, 1) := by decide +kernel
theorem dX8_isPart_32 : decode cX8_isPart 32 = .ok (.iaload, 1) := by decide +kernel
theorem dX8_isPart_33 : decode cX8_isPart 33 = .ok (.istore_n 3, 1) := by decide +kernel
theorem dX8_isPart_34 : decode cX8_isPart 34 = .ok (.iinc 4 1, 3) := by decide +kernel
theorem dX8_isPart_37 : decode cX8_isPart 37 = .ok (.goto (-32), 3) := by decide +kernel
theorem dX8_isPart_40 : decode cX8_isPart 40 = .ok (.iconst 0, 1) := by decide +kernel
theorem dX8_isPart_41 : decode cX8_isPart 41 = .ok (.ireturn, 1) := by decide +kernel
theorem dX8_addPrice_0 : decode cX8_addPrice 0 = .ok (.aload_n 0, 1) := by decide +kernel
theorem dX8_addPrice_1 : decode cX8_addPrice 1 = .ok (.getfield 33, 3) := by decide +kernel
theorem dX8_addPrice_4 : decode cX8_addPrice 4 = .ok (.bipush 60, 2) := by decide +kernel
theorem dX8_addPrice_6 : decode cX8_addPrice 6 = .ok (.if_icmp .lt 5, 3) := by decide +kernel
theorem dX8_addPrice_9 : decode cX8_addPrice 9 = .ok (.iconst (-1), 1) := by decide +kernel
theorem dX8_addPrice_10 : decode cX8_addPrice 10 = .ok (.ireturn, 1) := by decide +kernel
theorem dX8_addPrice_11 : decode cX8_addPrice 11 = .ok (.aload_n 0, 1) := by decide +kernel
theorem dX8_addPrice_12 : decode cX8_addPrice 12 = .ok (.getfield 24, 3) := by decide +kernel
theorem dX8_addPrice_15 : decode cX8_addPrice 15 = .ok (.aload_n 0, 1) := by decide +kernel
theorem dX8_addPrice_16 : decode cX8_addPrice 16 = .ok (.getfield 33, 3) := by decide +kernel
theorem dX8_addPrice_19 : decode cX8_addPrice 19 = .ok (.iload_n 1, 1) := by decide +kernel
theorem dX8_addPrice_20 : decode cX8_addPrice 20 = .ok (.iastore, 1) := by decide +kernel
theorem dX8_addPrice_21 : decode cX8_addPrice 21 = .ok (.aload_n 0, 1) := by decide +kernel
theorem dX8_addPrice_22 : decode cX8_addPrice 22 = .ok (.getfield 27, 3) := by decide +kernel
theorem dX8_addPrice_25 : decode cX8_addPrice 25 = .ok (.aload_n 0, 1) := by decide +kernel
theorem dX8_addPrice_26 : decode cX8_addPrice 26 = .ok (.getfield 33, 3) := by decide +kernel
theorem dX8_addPrice_29 : decode cX8_addPrice 29 = .ok (.iload_n 2, 1) := by decide +kernel
theorem dX8_addPrice_30 : decode cX8_addPrice 30 = .ok (.iastore, 1) := by decide +kernel
theorem dX8_addPrice_31 : decode cX8_addPrice 31 = .ok (.aload_n 0, 1) := by decide +kernel
theorem dX8_addPrice_32 : decode cX8_addPrice 32 = .ok (.getfield 30, 3) := by decide +kernel
theorem dX8_addPrice_35 : decode cX8_addPrice 35 = .ok (.aload_n 0, 1) := by decide +kernel
theorem dX8_addPrice_36 : decode cX8_addPrice 36 = .ok (.getfield 33, 3) := by decide +kernel
theorem dX8_addPrice_39 : decode cX8_addPrice 39 = .ok (.iload_n 3, 1) := by decide +kernel
theorem dX8_addPrice_40 : decode cX8_addPrice 40 = .ok (.iastore, 1) := by decide +kernel
theorem dX8_addPrice_41 : decode cX8_addPrice 41 = .ok (.aload_n 0, 1) := by decide +kernel
theorem dX8_addPrice_42 : decode cX8_addPrice 42 = .ok (.dup, 1) := by decide +kernel
theorem dX8_addPrice_43 : decode cX8_addPrice 43 = .ok (.getfield 33, 3) := by decide +kernel
theorem dX8_addPrice_46 : decode cX8_addPrice 46 = .ok (.iconst 1, 1) := by decide +kernel
theorem dX8_addPrice_47 : decode cX8_addPrice 47 = .ok (.iadd, 1) := by decide +kernel
theorem dX8_addPrice_48 : decode cX8_addPrice 48 = .ok (.putfield 33, 3) := by decide +kernel
theorem dX8_addPrice_51 : decode cX8_addPrice 51 = .ok (.aload_n 0, 1) := by decide +kernel
theorem dX8_addPrice_52 : decode cX8_addPrice 52 = .ok (.getfield 33, 3) := by decide +kernel
theorem dX8_addPrice_55 : decode cX8_addPrice 55 = .ok (.ireturn, 1) := by decide +kernel
theorem dJ9_min_7cf53_0 : decode cJ9_min_7cf53 0 = .ok (.iload_n 0, 1) := by decide +kernel
theorem dJ9_min_7cf53_1 : decode cJ9_min_7cf53 1 = .ok (.iload_n 1, 1) := by decide +kernel
theorem dJ9_min_7cf53_2 : decode cJ9_min_7cf53 2 = .ok (.if_icmp .gt 7, 3) := by decide +kernel
theorem dJ9_min_7cf53_5 : decode cJ9_min_7cf53 5 = .ok (.iload_n 0, 1) := by decide +kernel
theorem dJ9_min_7cf53_6 : decode cJ9_min_7cf53 6 = .ok (.goto 4, 3) := by decide +kernel
theorem dJ9_min_7cf53_9 : decode cJ9_min_7cf53 9 = .ok (.iload_n 1, 1) := by decide +kernel
theorem dJ9_min_7cf53_10 : decode cJ9_min_7cf53 10 = .ok (.ireturn, 1) := by decide +kernel
theorem dX6_lessen_0 : decode cX6_lessen 0 = .ok (.aload_n 0, 1) := by decide +kernel
theorem dX6_lessen_1 : decode cX6_lessen 1 = .ok (.getfield 18, 3) := by decide +kernel
theorem dX6_lessen_4 : decode cX6_lessen 4 = .ok (.iload_n 1, 1) := by decide +kernel
theorem dX6_lessen_5 : decode cX6_lessen 5 = .ok (.dup2, 1) := by decide +kernel
theorem dX6_lessen_6 : decode cX6_lessen 6 = .ok (.iaload, 1) := by decide +kernel
theorem dX6_lessen_7 : decode cX6_lessen 7 = .ok (.iload_n 2, 1) := by decide +kernel
theorem dX6_lessen_8 : decode cX6_lessen 8 = .ok (.isub, 1) := by decide +kernel
theorem dX6_lessen_9 : decode cX6_lessen 9 = .ok (.iastore, 1) := by decide +kernel
theorem dX6_lessen_10 : decode cX6_lessen 10 = .ok (.aload_n 0, 1) := by decide +kernel
theorem dX6_lessen_11 : decode cX6_lessen 11 = .ok (.getfield 21, 3) := by decide +kernel
theorem dX6_lessen_14 : decode cX6_lessen 14 = .ok (.aload_n 0, 1) := by decide +kernel
theorem dX6_lessen_15 : decode cX6_lessen 15 = .ok (.getfield 11, 3) := by decide +kernel
theorem dX6_lessen_18 : decode cX6_lessen 18 = .ok (.iload_n 1, 1) := by decide +kernel
theorem dX6_lessen_19 : decode cX6_lessen 19 = .ok (.iaload, 1) := by decide +kernel
theorem dX6_lessen_20 : decode cX6_lessen 20 = .ok (.dup2, 1) := by decide +kernel
theorem dX6_lessen_21 : decode cX6_lessen 21 = .ok (.iaload, 1) := by decide +kernel
theorem dX6_lessen_22 : decode cX6_lessen 22 = .ok (.iload_n 2, 1) := by decide +kernel
theorem dX6_lessen_23 : decode cX6_lessen 23 = .ok (.isub, 1) := by decide +kernel
theorem dX6_lessen_24 : decode cX6_lessen 24 = .ok (.iastore, 1) := by decide +kernel
theorem dX6_lessen_25 : decode cX6_lessen 25 = .ok (.aload_n 3, 1) := by decide +kernel
theorem dX6_lessen_26 : decode cX6_lessen 26 = .ok (.aload_n 0, 1) := by decide +kernel
theorem dX6_lessen_27 : decode cX6_lessen 27 = .ok (.getfield 15, 3) := by decide +kernel
theorem dX6_lessen_30 : decode cX6_lessen 30 = .ok (.iload_n 1, 1) := by decide +kernel
theorem dX6_lessen_31 : decode cX6_lessen 31 = .ok (.iaload, 1) := by decide +kernel
theorem dX6_lessen_32 : decode cX6_lessen 32 = .ok (.dup2, 1) := by decide +kernel
theorem dX6_lessen_33 : decode cX6_lessen 33 = .ok (.iaload, 1) := by decide +kernel
theorem dX6_lessen_34 : decode cX6_lessen 34 = .ok (.iload_n 2, 1) := by decide +kernel
theorem dX6_lessen_35 : decode cX6_lessen 35 = .ok (.iadd, 1) := by decide +kernel
theorem dX6_lessen_36 : decode cX6_lessen 36 = .ok (.iastore, 1) := by decide +kernel
theorem dX6_lessen_37 : decode cX6_lessen 37 = .ok (.return_, 1) := by decide +kernel
theorem dX6_takeOut_0 : decode cX6_takeOut 0 = .ok (.iload_n 2, 1) := by decide +kernel
theorem dX6_takeOut_1 : decode cX6_takeOut 1 = .ok (.istore 4, 2) := by decide +kernel
theorem dX6_takeOut_3 : decode cX6_takeOut 3 = .ok (.iconst 0, 1) := by decide +kernel
theorem dX6_takeOut_4 : decode cX6_takeOut 4 = .ok (.istore 5, 2) := by decide +kernel
theorem dX6_takeOut_6 : decode cX6_takeOut 6 = .ok (.iload 5, 2) := by decide +kernel
theorem dX6_takeOut_8 : decode cX6_takeOut 8 = .ok (.aload_n 0, 1) := by decide +kernel
theorem dX6_takeOut_9 : decode cX6_takeOut 9 = .ok (.getfield 24, 3) := by decide +kernel
theorem dX6_takeOut_12 : decode cX6_takeOut 12 = .ok (.if_icmp .ge 55, 3) := by decide +kernel
theorem dX6_takeOut_15 : decode cX6_takeOut 15 = .ok (.iload 4, 2) := by decide +kernel
theorem dX6_takeOut_17 : decode cX6_takeOut 17 = .ok (.ifCond .le 50, 3) := by decide +kernel
theorem dX6_takeOut_20 : decode cX6_takeOut 20 = .ok (.aload_n 0, 1) := by decide +kernel
theorem dX6_takeOut_21 : decode cX6_takeOut 21 = .ok (.getfield 11, 3) := by decide +kernel
theorem dX6_takeOut_24 : decode cX6_takeOut 24 = .ok (.iload 5, 2) := by decide +kernel
theorem dX6_takeOut_26 : decode cX6_takeOut 26 = .ok (.iaload, 1) := by decide +kernel
theorem dX6_takeOut_27 : decode cX6_takeOut 27 = .ok (.iload_n 1, 1) := by decide +kernel
theorem dX6_takeOut_28 : decode cX6_takeOut 28 = .ok (.if_icmp .ne 33, 3) := by decide +kernel
theorem dX6_takeOut_31 : decode cX6_takeOut 31 = .ok (.iload 4, 2) := by decide +kernel
theorem dX6_takeOut_33 : decode cX6_takeOut 33 = .ok (.aload_n 0, 1) := by decide +kernel
theorem dX6_takeOut_34 : decode cX6_takeOut 34 = .ok (.getfield 18, 3) := by decide +kernel
theorem dX6_takeOut_37 : decode cX6_takeOut 37 = .ok (.iload 5, 2) := by decide +kernel
theorem dX6_takeOut_39 : decode cX6_takeOut 39 = .ok (.iaload, 1) := by decide +kernel
theorem dX6_takeOut_40 : decode cX6_takeOut 40 = .ok (.invokestatic 28, 3) := by decide +kernel
theorem dX6_takeOut_43 : decode cX6_takeOut 43 = .ok (.istore 6, 2) := by decide +kernel
theorem dX6_takeOut_45 : decode cX6_takeOut 45 = .ok (.aload_n 0, 1) := by decide +kernel
theorem dX6_takeOut_46 : decode cX6_takeOut 46 = .ok (.iload 5, 2) := by decide +kernel
theorem dX6_takeOut_48 : decode cX6_takeOut 48 = .ok (.iload 6, 2) := by decide +kernel
theorem dX6_takeOut_50 : decode cX6_takeOut 50 = .ok (.aload_n 3, 1) := by decide +kernel
theorem dX6_takeOut_51 : decode cX6_takeOut 51 = .ok (.invokevirtual 34, 3) := by decide +kernel
theorem dX6_takeOut_54 : decode cX6_takeOut 54 = .ok (.iload 4, 2) := by decide +kernel
theorem dX6_takeOut_56 : decode cX6_takeOut 56 = .ok (.iload 6, 2) := by decide +kernel
theorem dX6_takeOut_58 : decode cX6_takeOut 58 = .ok (.isub, 1) := by decide +kernel
theorem dX6_takeOut_59 : decode cX6_takeOut 59 = .ok (.istore 4, 2) := by decide +kernel
theorem dX6_takeOut_61 : decode cX6_takeOut 61 = .ok (.iinc 5 1, 3) := by decide +kernel
theorem dX6_takeOut_64 : decode cX6_takeOut 64 = .ok (.goto (-58), 3) := by decide +kernel
theorem dX6_takeOut_67 : decode cX6_takeOut 67 = .ok (.return_, 1) := by decide +kernel
theorem dX0_everOf_0 : decode cX0_everOf 0 = .ok (.iconst 0, 1) := by decide +kernel
theorem dX0_everOf_1 : decode cX0_everOf 1 = .ok (.istore_n 2, 1) := by decide +kernel
theorem dX0_everOf_2 : decode cX0_everOf 2 = .ok (.iconst 0, 1) := by decide +kernel
theorem dX0_everOf_3 : decode cX0_everOf 3 = .ok (.istore_n 3, 1) := by decide +kernel
theorem dX0_everOf_4 : decode cX0_everOf 4 = .ok (.iload_n 3, 1) := by decide +kernel
theorem dX0_everOf_5 : decode cX0_everOf 5 = .ok (.aload_n 0, 1) := by decide +kernel
theorem dX0_everOf_6 : decode cX0_everOf 6 = .ok (.getfield 38, 3) := by decide +kernel
theorem dX0_everOf_9 : decode cX0_everOf 9 = .ok (.if_icmp .ge 20, 3) := by decide +kernel
theorem dX0_everOf_12 : decode cX0_everOf 12 = .ok (.iload_n 2, 1) := by decide +kernel
theorem dX0_everOf_13 : decode cX0_everOf 13 = .ok (.aload_n 0, 1) := by decide +kernel
theorem dX0_everOf_14 : decode cX0_everOf 14 = .ok (.getfield 35, 3) := by decide +kernel
theorem dX0_everOf_17 : decode cX0_everOf 17 = .ok (.iload_n 3, 1) := by decide +kernel
theorem dX0_everOf_18 : decode cX0_everOf 18 = .ok (.aaload, 1) := by decide +kernel
theorem dX0_everOf_19 : decode cX0_everOf 19 = .ok (.iload_n 1, 1) := by decide +kernel
theorem dX0_everOf_20 : decode cX0_everOf 20 = .ok (.iaload, 1) := by decide +kernel
theorem dX0_everOf_21 : decode cX0_everOf 21 = .ok (.iadd, 1) := by decide +kernel
theorem dX0_everOf_22 : decode cX0_everOf 22 = .ok (.istore_n 2, 1) := by decide +kernel
theorem dX0_everOf_23 : decode cX0_everOf 23 = .ok (.iinc 3 1, 3) := by decide +kernel
theorem dX0_everOf_26 : decode cX0_everOf 26 = .ok (.goto (-22), 3) := by decide +kernel
theorem dX0_everOf_29 : decode cX0_everOf 29 = .ok (.iload_n 2, 1) := by decide +kernel
theorem dX0_everOf_30 : decode cX0_everOf 30 = .ok (.ireturn, 1) := by decide +kernel
theorem dX7_level_0 : decode cX7_level 0 = .ok (.iload_n 0, 1) := by decide +kernel
theorem dX7_level_1 : decode cX7_level 1 = .ok (.lookupswitch 117 #[(33, 115), (37, 113), (38, 107), (42, 113), (43, 111), (45, 111), (47, 113), (60, 109), (61, 109), (62, 109), (124, 107), (126, 115)], 107) := by decide +kernel
theorem dX7_level_108 : decode cX7_level 108 = .ok (.iconst 1, 1) := by decide +kernel
theorem dX7_level_109 : decode cX7_level 109 = .ok (.ireturn, 1) := by decide +kernel
theorem dX7_level_110 : decode cX7_level 110 = .ok (.iconst 2, 1) := by decide +kernel
theorem dX7_level_111 : decode cX7_level 111 = .ok (.ireturn, 1) := by decide +kernel
theorem dX7_level_112 : decode cX7_level 112 = .ok (.iconst 3, 1) := by decide +kernel
theorem dX7_level_113 : decode cX7_level 113 = .ok (.ireturn, 1) := by decide +kernel
theorem dX7_level_114 : decode cX7_level 114 = .ok (.iconst 4, 1) := by decide +kernel
theorem dX7_level_115 : decode cX7_level 115 = .ok (.ireturn, 1) := by decide +kernel
theorem dX7_level_116 : decode cX7_level 116 = .ok (.iconst 5, 1) := by decide +kernel
theorem dX7_level_117 : decode cX7_level 117 = .ok (.ireturn, 1) := by decide +kernel
theorem dX7_level_118 : decode cX7_level 118 = .ok (.iconst 0, 1) := by decide +kernel
theorem dX7_level_119 : decode cX7_level 119 = .ok (.ireturn, 1) := by decide +kernel
theorem dX12_truth_0 : decode cX12_truth 0 = .ok (.iload_n 0, 1) := by decide +kernel
theorem dX12_truth_1 : decode cX12_truth 1 = .ok (.ifCond .eq 7, 3) := by decide +kernel
theorem dX12_truth_4 : decode cX12_truth 4 = .ok (.iconst 1, 1) := by decide +kernel
theorem dX12_truth_5 : decode cX12_truth 5 = .ok (.goto 4, 3) := by decide +kernel
theorem dX12_truth_8 : decode cX12_truth 8 = .ok (.iconst 0, 1) := by decide +kernel
theorem dX12_truth_9 : decode cX12_truth 9 = .ok (.ireturn, 1) := by decide +kernel
theorem dX12_lots_0 : decode cX12_lots 0 = .ok (.iconst 0, 1) := by decide +kernel
theorem dX12_lots_1 : decode cX12_lots 1 = .ok (.istore_n 1, 1) := by decide +kernel
theorem dX12_lots_2 : decode cX12_lots 2 = .ok (.iconst 0, 1) := by decide +kernel
theorem dX12_lots_3 : decode cX12_lots 3 = .ok (.istore_n 2, 1) := by decide +kernel
theorem dX12_lots_4 : decode cX12_lots 4 = .ok (.iload_n 2, 1) := by decide +kernel
theorem dX12_lots_5 : decode cX12_lots 5 = .ok (.aload_n 0, 1) := by decide +kernel
theorem dX12_lots_6 : decode cX12_lots 6 = .ok (.getfield 43, 3) := by decide +kernel
theorem dX12_lots_9 : decode cX12_lots 9 = .ok (.arraylength, 1) := by decide +kernel
theorem dX12_lots_10 : decode cX12_lots 10 = .ok (.if_icmp .ge 29, 3) := by decide +kernel
theorem dX12_lots_13 : decode cX12_lots 13 = .ok (.iload_n 1, 1) := by decide +kernel
theorem dX12_lots_14 : decode cX12_lots 14 = .ok (.aload_n 0, 1) := by decide +kernel
theorem dX12_lots_15 : decode cX12_lots 15 = .ok (.getfield 43, 3) := by decide +kernel
theorem dX12_lots_18 : decode cX12_lots 18 = .ok (.iload_n 2, 1) := by decide +kernel
theorem dX12_lots_19 : decode cX12_lots 19 = .ok (.iaload, 1) := by decide +kernel
theorem dX12_lots_20 : decode cX12_lots 20 = .ok (.ifCond .le 7, 3) := by decide +kernel
theorem dX12_lots_23 : decode cX12_lots 23 = .ok (.iconst 1, 1) := by decide +kernel
theorem dX12_lots_24 : decode cX12_lots 24 = .ok (.goto 4, 3) := by decide +kernel
theorem dX12_lots_27 : decode cX12_lots 27 = .ok (.iconst 0, 1) := by decide +kernel
theorem dX12_lots_28 : decode cX12_lots 28 = .ok (.invokestatic 190, 3) := by decide +kernel
theorem dX12_lots_31 : decode cX12_lots 31 = .ok (.iadd, 1) := by decide +kernel
theorem dX12_lots_32 : decode cX12_lots 32 = .ok (.istore_n 1, 1) := by decide +kernel
theorem dX12_lots_33 : decode cX12_lots 33 = .ok (.iinc 2 1, 3) := by decide +kernel
theorem dX12_lots_36 : decode cX12_lots 36 = .ok (.goto (-32), 3) := by decide +kernel
theorem dX12_lots_39 : decode cX12_lots 39 = .ok (.iload_n 1, 1) := by decide +kernel
theorem dX12_lots_40 : decode cX12_lots 40 = .ok (.ireturn, 1) := by decide +kernel
theorem dX12_partsInAll_0 : decode cX12_partsInAll 0 = .ok (.iconst 0, 1) := by decide +kernel
theorem dX12_partsInAll_1 : decode cX12_partsInAll 1 = .ok (.istore_n 1, 1) := by decide +kernel
theorem dX12_partsInAll_2 : decode cX12_partsInAll 2 = .ok (.iconst 0, 1) := by decide +kernel
theorem dX12_partsInAll_3 : decode cX12_partsInAll 3 = .ok (.istore_n 2, 1) := by decide +kernel
theorem dX12_partsInAll_4 : decode cX12_partsInAll 4 = .ok (.iload_n 2, 1) := by decide +kernel
theorem dX12_partsInAll_5 : decode cX12_partsInAll 5 = .ok (.aload_n 0, 1) := by decide +kernel
theorem dX12_partsInAll_6 : decode cX12_partsInAll 6 = .ok (.getfield 153, 3) := by decide +kernel
theorem dX12_partsInAll_9 : decode cX12_partsInAll 9 = .ok (.if_icmp .ge 18, 3) := by decide +kernel
theorem dX12_partsInAll_12 : decode cX12_partsInAll 12 = .ok (.iload_n 1, 1) := by decide +kernel
theorem dX12_partsInAll_13 : decode cX12_partsInAll 13 = .ok (.aload_n 0, 1) := by decide +kernel
theorem dX12_partsInAll_14 : decode cX12_partsInAll 14 = .ok (.getfield 87, 3) := by decide +kernel
theorem dX12_partsInAll_17 : decode cX12_partsInAll 17 = .ok (.iload_n 2, 1) := by decide +kernel
theorem dX12_partsInAll_18 : decode cX12_partsInAll 18 = .ok (.iaload, 1) := by decide +kernel
theorem dX12_partsInAll_19 : decode cX12_partsInAll 19 = .ok (.iadd, 1) := by decide +kernel
theorem dX12_partsInAll_20 : decode cX12_partsInAll 20 = .ok (.istore_n 1, 1) := by decide +kernel
theorem dX12_partsInAll_21 : decode cX12_partsInAll 21 = .ok (.iinc 2 1, 3) := by decide +kernel
theorem dX12_partsInAll_24 : decode cX12_partsInAll 24 = .ok (.goto (-20), 3) := by decide +kernel
theorem dX12_partsInAll_27 : decode cX12_partsInAll 27 = .ok (.iload_n 1, 1) := by decide +kernel
theorem dX12_partsInAll_28 : decode cX12_partsInAll 28 = .ok (.ireturn, 1) := by decide +kernel
theorem dX12_count_0 : decode cX12_count 0 = .ok (.aload_n 0, 1) := by decide +kernel
theorem dX12_count_1 : decode cX12_count 1 = .ok (.iconst 0, 1) := by decide +kernel
theorem dX12_count_2 : decode cX12_count 2 = .ok (.putfield 150, 3) := by decide +kernel
theorem dX12_count_5 : decode cX12_count 5 = .ok (.iload_n 1, 1) := by decide +kernel
theorem dX12_count_6 : decode cX12_count 6 = .ok (.tableswitch 131 0 12 #[66, 71, 76, 81, 86, 91, 96, 101, 106, 111, 116, 121, 126], 66) := by decide +kernel
theorem dX12_count_72 : decode cX12_count 72 = .ok (.aload_n 0, 1) := by decide +kernel
theorem dX12_count_73 : decode cX12_count 73 = .ok (.getfield 153, 3) := by decide +kernel
theorem dX12_count_76 : decode cX12_count 76 = .ok (.ireturn, 1) := by decide +kernel
theorem dX12_count_77 : decode cX12_count 77 = .ok (.aload_n 0, 1) := by decide +kernel
theorem dX12_count_78 : decode cX12_count 78 = .ok (.getfield 175, 3) := by decide +kernel
theorem dX12_count_81 : decode cX12_count 81 = .ok (.ireturn, 1) := by decide +kernel
theorem dX12_count_82 : decode cX12_count 82 = .ok (.aload_n 0, 1) := by decide +kernel
theorem dX12_count_83 : decode cX12_count 83 = .ok (.getfield 194, 3) := by decide +kernel
theorem dX12_count_86 : decode cX12_count 86 = .ok (.ireturn, 1) := by decide +kernel
theorem dX12_count_87 : decode cX12_count 87 = .ok (.aload_n 0, 1) := by decide +kernel
theorem dX12_count_88 : decode cX12_count 88 = .ok (.getfield 229, 3) := by decide +kernel
theorem dX12_count_91 : decode cX12_count 91 = .ok (.ireturn, 1) := by decide +kernel
theorem dX12_count_92 : decode cX12_count 92 = .ok (.aload_n 0, 1) := by decide +kernel
theorem dX12_count_93 : decode cX12_count 93 = .ok (.getfield 320, 3) := by decide +kernel
theorem dX12_count_96 : decode cX12_count 96 = .ok (.ireturn, 1) := by decide +kernel
theorem dX12_count_97 : decode cX12_count 97 = .ok (.aload_n 0, 1) := by decide +kernel
theorem dX12_count_98 : decode cX12_count 98 = .ok (.invokevirtual 433, 3) := by decide +kernel
theorem dX12_count_101 : decode cX12_count 101 = .ok (.ireturn, 1) := by decide +kernel
theorem dX12_count_102 : decode cX12_count 102 = .ok (.aload_n 0, 1) := by decide +kernel
theorem dX12_count_103 : decode cX12_count 103 = .ok (.getfield 223, 3) := by decide +kernel
theorem dX12_count_106 : decode cX12_count 106 = .ok (.ireturn, 1) := by decide +kernel
theorem dX12_count_107 : decode cX12_count 107 = .ok (.aload_n 0, 1) := by decide +kernel
theorem dX12_count_108 : decode cX12_count 108 = .ok (.getfield 409, 3) := by decide +kernel
theorem dX12_count_111 : decode cX12_count 111 = .ok (.ireturn, 1) := by decide +kernel
theorem dX12_count_112 : decode cX12_count 112 = .ok (.aload_n 0, 1) := by decide +kernel
theorem dX12_count_113 : decode cX12_count 113 = .ok (.getfield 420, 3) := by decide +kernel
theorem dX12_count_116 : decode cX12_count 116 = .ok (.ireturn, 1) := by decide +kernel
theorem dX12_count_117 : decode cX12_count 117 = .ok (.aload_n 0, 1) := by decide +kernel
theorem dX12_count_118 : decode cX12_count 118 = .ok (.getfield 388, 3) := by decide +kernel
theorem dX12_count_121 : decode cX12_count 121 = .ok (.ireturn, 1) := by decide +kernel
theorem dX12_count_122 : decode cX12_count 122 = .ok (.aload_n 0, 1) := by decide +kernel
theorem dX12_count_123 : decode cX12_count 123 = .ok (.getfield 256, 3) := by decide +kernel
theorem dX12_count_126 : decode cX12_count 126 = .ok (.ireturn, 1) := by decide +kernel
theorem dX12_count_127 : decode cX12_count 127 = .ok (.aload_n 0, 1) := by decide +kernel
theorem dX12_count_128 : decode cX12_count 128 = .ok (.getfield 64, 3) := by decide +kernel
theorem dX12_count_131 : decode cX12_count 131 = .ok (.ireturn, 1) := by decide +kernel
theorem dX12_count_132 : decode cX12_count 132 = .ok (.aload_n 0, 1) := by decide +kernel
theorem dX12_count_133 : decode cX12_count 133 = .ok (.invokevirtual 356, 3) := by decide +kernel
theorem dX12_count_136 : decode cX12_count 136 = .ok (.ireturn, 1) := by decide +kernel
theorem dX12_count_137 : decode cX12_count 137 = .ok (.iconst (-1), 1) := by decide +kernel
theorem dX12_count_138 : decode cX12_count 138 = .ok (.ireturn, 1) := by decide +kernel
theorem dX12_enters_0 : decode cX12_enters 0 = .ok (.aload_n 0, 1) := by decide +kernel
theorem dX12_enters_1 : decode cX12_enters 1 = .ok (.getfield 102, 3) := by decide +kernel
theorem dX12_enters_4 : decode cX12_enters 4 = .ok (.aload_n 0, 1) := by decide +kernel
theorem dX12_enters_5 : decode cX12_enters 5 = .ok (.getfield 388, 3) := by decide +kernel
theorem dX12_enters_8 : decode cX12_enters 8 = .ok (.iload_n 1, 1) := by decide +kernel
theorem dX12_enters_9 : decode cX12_enters 9 = .ok (.iastore, 1) := by decide +kernel
theorem dX12_enters_10 : decode cX12_enters 10 = .ok (.aload_n 0, 1) := by decide +kernel
theorem dX12_enters_11 : decode cX12_enters 11 = .ok (.dup, 1) := by decide +kernel
theorem dX12_enters_12 : decode cX12_enters 12 = .ok (.getfield 388, 3) := by decide +kernel
theorem dX12_enters_15 : decode cX12_enters 15 = .ok (.iconst 1, 1) := by decide +kernel
theorem dX12_enters_16 : decode cX12_enters 16 = .ok (.iadd, 1) := by decide +kernel
theorem dX12_enters_17 : decode cX12_enters 17 = .ok (.putfield 388, 3) := by decide +kernel
theorem dX12_enters_20 : decode cX12_enters 20 = .ok (.return_, 1) := by decide +kernel
theorem dX12_in_0 : decode cX12_in 0 = .ok (.lload_n 0, 1) := by decide +kernel
theorem dX12_in_1 : decode cX12_in 1 = .ok (.lload_n 2, 1) := by decide +kernel
theorem dX12_in_2 : decode cX12_in 2 = .ok (.lcmp, 1) := by decide +kernel
theorem dX12_in_3 : decode cX12_in 3 = .ok (.ifCond .lt 14, 3) := by decide +kernel
theorem dX12_in_6 : decode cX12_in 6 = .ok (.lload_n 0, 1) := by decide +kernel
theorem dX12_in_7 : decode cX12_in 7 = .ok (.lload 4, 2) := by decide +kernel
theorem dX12_in_9 : decode cX12_in 9 = .ok (.lcmp, 1) := by decide +kernel
theorem dX12_in_10 : decode cX12_in 10 = .ok (.ifCond .gt 7, 3) := by decide +kernel
theorem dX12_in_13 : decode cX12_in 13 = .ok (.iconst 1, 1) := by decide +kernel
theorem dX12_in_14 : decode cX12_in 14 = .ok (.goto 4, 3) := by decide +kernel
theorem dX12_in_17 : decode cX12_in 17 = .ok (.iconst 0, 1) := by decide +kernel
theorem dX12_in_18 : decode cX12_in 18 = .ok (.ireturn, 1) := by decide +kernel
theorem dX12_isSorter_0 : decode cX12_isSorter 0 = .ok (.iload_n 0, 1) := by decide +kernel
theorem dX12_isSorter_1 : decode cX12_isSorter 1 = .ok (.i2l, 1) := by decide +kernel
theorem dX12_isSorter_2 : decode cX12_isSorter 2 = .ok (.lconst 0, 1) := by decide +kernel
theorem dX12_isSorter_3 : decode cX12_isSorter 3 = .ok (.ldc2_w 203, 3) := by decide +kernel
theorem dX12_isSorter_6 : decode cX12_isSorter 6 = .ok (.invokestatic 156, 3) := by decide +kernel
theorem dX12_isSorter_9 : decode cX12_isSorter 9 = .ok (.ireturn, 1) := by decide +kernel
theorem dX12_ring_0 : decode cX12_ring 0 = .ok (.aload_n 0, 1) := by decide +kernel
theorem dX12_ring_1 : decode cX12_ring 1 = .ok (.iconst 0, 1) := by decide +kernel
theorem dX12_ring_2 : decode cX12_ring 2 = .ok (.putfield 150, 3) := by decide +kernel
theorem dX12_ring_5 : decode cX12_ring 5 = .ok (.iload_n 1, 1) := by decide +kernel
theorem dX12_ring_6 : decode cX12_ring 6 = .ok (.invokestatic 208, 3) := by decide +kernel
theorem dX12_ring_9 : decode cX12_ring 9 = .ok (.ifCond .ne 5, 3) := by decide +kernel
theorem dX12_ring_12 : decode cX12_ring 12 = .ok (.iconst (-1), 1) := by decide +kernel
theorem dX12_ring_13 : decode cX12_ring 13 = .ok (.ireturn, 1) := by decide +kernel
theorem dX12_ring_14 : decode cX12_ring 14 = .ok (.iconst 0, 1) := by decide +kernel
theorem dX12_ring_15 : decode cX12_ring 15 = .ok (.istore_n 2, 1) := by decide +kernel
theorem dX12_ring_16 : decode cX12_ring 16 = .ok (.iload_n 2, 1) := by decide +kernel
theorem dX12_ring_17 : decode cX12_ring 17 = .ok (.bipush 6, 2) := by decide +kernel
theorem dX12_ring_19 : decode cX12_ring 19 = .ok (.if_icmp .ge 25, 3) := by decide +kernel
theorem dX12_ring_22 : decode cX12_ring 22 = .ok (.aload_n 0, 1) := by decide +kernel
theorem dX12_ring_23 : decode cX12_ring 23 = .ok (.getfield 120, 3) := by decide +kernel
theorem dX12_ring_26 : decode cX12_ring 26 = .ok (.iload_n 2, 1) := by decide +kernel
theorem dX12_ring_27 : decode cX12_ring 27 = .ok (.iload_n 2, 1) := by decide +kernel
theorem dX12_ring_28 : decode cX12_ring 28 = .ok (.iload_n 1, 1) := by decide +kernel
theorem dX12_ring_29 : decode cX12_ring 29 = .ok (.if_icmp .ne 7, 3) := by decide +kernel
theorem dX12_ring_32 : decode cX12_ring 32 = .ok (.iconst 1, 1) := by decide +kernel
theorem dX12_ring_33 : decode cX12_ring 33 = .ok (.goto 4, 3) := by decide +kernel
theorem dX12_ring_36 : decode cX12_ring 36 = .ok (.iconst 0, 1) := by decide +kernel
theorem dX12_ring_37 : decode cX12_ring 37 = .ok (.bastore, 1) := by decide +kernel
theorem dX12_ring_38 : decode cX12_ring 38 = .ok (.iinc 2 1, 3) := by decide +kernel
theorem dX12_ring_41 : decode cX12_ring 41 = .ok (.goto (-25), 3) := by decide +kernel
theorem dX12_ring_44 : decode cX12_ring 44 = .ok (.iconst 1, 1) := by decide +kernel
theorem dX12_ring_45 : decode cX12_ring 45 = .ok (.istore_n 2, 1) := by decide +kernel
theorem dX12_ring_46 : decode cX12_ring 46 = .ok (.iload_n 2, 1) := by decide +kernel
theorem dX12_ring_47 : decode cX12_ring 47 = .ok (.ifCond .eq 75, 3) := by decide +kernel
theorem dX12_ring_50 : decode cX12_ring 50 = .ok (.iconst 0, 1) := by decide +kernel
theorem dX12_ring_51 : decode cX12_ring 51 = .ok (.istore_n 2, 1) := by decide +kernel
theorem dX12_ring_52 : decode cX12_ring 52 = .ok (.iconst 0, 1) := by decide +kernel
theorem dX12_ring_53 : decode cX12_ring 53 = .ok (.istore_n 3, 1) := by decide +kernel
theorem dX12_ring_54 : decode cX12_ring 54 = .ok (.iload_n 3, 1) := by decide +kernel
theorem dX12_ring_55 : decode cX12_ring 55 = .ok (.aload_n 0, 1) := by decide +kernel
theorem dX12_ring_56 : decode cX12_ring 56 = .ok (.getfield 409, 3) := by decide +kernel
theorem dX12_ring_59 : decode cX12_ring 59 = .ok (.if_icmp .ge 60, 3) := by decide +kernel
theorem dX12_ring_62 : decode cX12_ring 62 = .ok (.aload_n 0, 1) := by decide +kernel
theorem dX12_ring_63 : decode cX12_ring 63 = .ok (.getfield 120, 3) := by decide +kernel
theorem dX12_ring_66 : decode cX12_ring 66 = .ok (.aload_n 0, 1) := by decide +kernel
theorem dX12_ring_67 : decode cX12_ring 67 = .ok (.getfield 108, 3) := by decide +kernel
theorem dX12_ring_70 : decode cX12_ring 70 = .ok (.iload_n 3, 1) := by decide +kernel
theorem dX12_ring_71 : decode cX12_ring 71 = .ok (.iaload, 1) := by decide +kernel
theorem dX12_ring_72 : decode cX12_ring 72 = .ok (.baload, 1) := by decide +kernel
theorem dX12_ring_73 : decode cX12_ring 73 = .ok (.aload_n 0, 1) := by decide +kernel
theorem dX12_ring_74 : decode cX12_ring 74 = .ok (.getfield 120, 3) := by decide +kernel
theorem dX12_ring_77 : decode cX12_ring 77 = .ok (.aload_n 0, 1) := by decide +kernel
theorem dX12_ring_78 : decode cX12_ring 78 = .ok (.getfield 111, 3) := by decide +kernel
theorem dX12_ring_81 : decode cX12_ring 81 = .ok (.iload_n 3, 1) := by decide +kernel
theorem dX12_ring_82 : decode cX12_ring 82 = .ok (.iaload, 1) := by decide +kernel
theorem dX12_ring_83 : decode cX12_ring 83 = .ok (.baload, 1) := by decide +kernel
theorem dX12_ring_84 : decode cX12_ring 84 = .ok (.if_icmp .eq 29, 3) := by decide +kernel
theorem dX12_ring_87 : decode cX12_ring 87 = .ok (.aload_n 0, 1) := by decide +kernel
theorem dX12_ring_88 : decode cX12_ring 88 = .ok (.getfield 120, 3) := by decide +kernel
theorem dX12_ring_91 : decode cX12_ring 91 = .ok (.aload_n 0, 1) := by decide +kernel
theorem dX12_ring_92 : decode cX12_ring 92 = .ok (.getfield 108, 3) := by decide +kernel
theorem dX12_ring_95 : decode cX12_ring 95 = .ok (.iload_n 3, 1) := by decide +kernel
theorem dX12_ring_96 : decode cX12_ring 96 = .ok (.iaload, 1) := by decide +kernel
theorem dX12_ring_97 : decode cX12_ring 97 = .ok (.iconst 1, 1) := by decide +kernel
theorem dX12_ring_98 : decode cX12_ring 98 = .ok (.bastore, 1) := by decide +kernel
theorem dX12_ring_99 : decode cX12_ring 99 = .ok (.aload_n 0, 1) := by decide +kernel
theorem dX12_ring_100 : decode cX12_ring 100 = .ok (.getfield 120, 3) := by decide +kernel
theorem dX12_ring_103 : decode cX12_ring 103 = .ok (.aload_n 0, 1) := by decide +kernel
theorem dX12_ring_104 : decode cX12_ring 104 = .ok (.getfield 111, 3) := by decide +kernel
theorem dX12_ring_107 : decode cX12_ring 107 = .ok (.iload_n 3, 1) := by decide +kernel
theorem dX12_ring_108 : decode cX12_ring 108 = .ok (.iaload, 1) := by decide +kernel
theorem dX12_ring_109 : decode cX12_ring 109 = .ok (.iconst 1, 1) := by decide +kernel
theorem dX12_ring_110 : decode cX12_ring 110 = .ok (.bastore, 1) := by decide +kernel
theorem dX12_ring_111 : decode cX12_ring 111 = .ok (.iconst 1, 1) := by decide +kernel
theorem dX12_ring_112 : decode cX12_ring 112 = .ok (.istore_n 2, 1) := by decide +kernel
theorem dX12_ring_113 : decode cX12_ring 113 = .ok (.iinc 3 1, 3) := by decide +kernel
theorem dX12_ring_116 : decode cX12_ring 116 = .ok (.goto (-62), 3) := by decide +kernel
theorem dX12_ring_119 : decode cX12_ring 119 = .ok (.goto (-73), 3) := by decide +kernel
theorem dX12_ring_122 : decode cX12_ring 122 = .ok (.aload_n 0, 1) := by decide +kernel
theorem dX12_ring_123 : decode cX12_ring 123 = .ok (.iconst 0, 1) := by decide +kernel
theorem dX12_ring_124 : decode cX12_ring 124 = .ok (.putfield 388, 3) := by decide +kernel
theorem dX12_ring_127 : decode cX12_ring 127 = .ok (.iconst 0, 1) := by decide +kernel
theorem dX12_ring_128 : decode cX12_ring 128 = .ok (.istore_n 3, 1) := by decide +kernel
theorem dX12_ring_129 : decode cX12_ring 129 = .ok (.iload_n 3, 1) := by decide +kernel
theorem dX12_ring_130 : decode cX12_ring 130 = .ok (.bipush 6, 2) := by decide +kernel
theorem dX12_ring_132 : decode cX12_ring 132 = .ok (.if_icmp .ge 23, 3) := by decide +kernel
theorem dX12_ring_135 : decode cX12_ring 135 = .ok (.aload_n 0, 1) := by decide +kernel
theorem dX12_ring_136 : decode cX12_ring 136 = .ok (.getfield 120, 3) := by decide +kernel
theorem dX12_ring_139 : decode cX12_ring 139 = .ok (.iload_n 3, 1) := by decide +kernel
theorem dX12_ring_140 : decode cX12_ring 140 = .ok (.baload, 1) := by decide +kernel
theorem dX12_ring_141 : decode cX12_ring 141 = .ok (.ifCond .eq 8, 3) := by decide +kernel
theorem dX12_ring_144 : decode cX12_ring 144 = .ok (.aload_n 0, 1) := by decide +kernel
theorem dX12_ring_145 : decode cX12_ring 145 = .ok (.iload_n 3, 1) := by decide +kernel
theorem dX12_ring_146 : decode cX12_ring 146 = .ok (.invokevirtual 394, 3) := by decide +kernel
theorem dX12_ring_149 : decode cX12_ring 149 = .ok (.iinc 3 1, 3) := by decide +kernel
theorem dX12_ring_152 : decode cX12_ring 152 = .ok (.goto (-23), 3) := by decide +kernel
theorem dX12_ring_155 : decode cX12_ring 155 = .ok (.aload_n 0, 1) := by decide +kernel
theorem dX12_ring_156 : decode cX12_ring 156 = .ok (.getfield 388, 3) := by decide +kernel
theorem dX12_ring_159 : decode cX12_ring 159 = .ok (.ireturn, 1) := by decide +kernel
theorem dX1_keepTrial_0 : decode cX1_keepTrial 0 = .ok (.aload_n 0, 1) := by decide +kernel
theorem dX1_keepTrial_1 : decode cX1_keepTrial 1 = .ok (.getfield 33, 3) := by decide +kernel
theorem dX1_keepTrial_4 : decode cX1_keepTrial 4 = .ok (.iconst 0, 1) := by decide +kernel
theorem dX1_keepTrial_5 : decode cX1_keepTrial 5 = .ok (.aload_n 0, 1) := by decide +kernel
theorem dX1_keepTrial_6 : decode cX1_keepTrial 6 = .ok (.getfield 36, 3) := by decide +kernel
theorem dX1_keepTrial_9 : decode cX1_keepTrial 9 = .ok (.iconst 0, 1) := by decide +kernel
theorem dX1_keepTrial_10 : decode cX1_keepTrial 10 = .ok (.bipush 16, 2) := by decide +kernel
theorem dX1_keepTrial_12 : decode cX1_keepTrial 12 = .ok (.invokestatic 45, 3) := by decide +kernel
theorem dX1_keepTrial_15 : decode cX1_keepTrial 15 = .ok (.return_, 1) := by decide +kernel
theorem dX6_withPounds_0 : decode cX6_withPounds 0 = .ok (.iconst 0, 1) := by decide +kernel
theorem dX6_withPounds_1 : decode cX6_withPounds 1 = .ok (.istore_n 1, 1) := by decide +kernel
theorem dX6_withPounds_2 : decode cX6_withPounds 2 = .ok (.iconst 0, 1) := by decide +kernel
theorem dX6_withPounds_3 : decode cX6_withPounds 3 = .ok (.istore_n 2, 1) := by decide +kernel
theorem dX6_withPounds_4 : decode cX6_withPounds 4 = .ok (.iload_n 2, 1) := by decide +kernel
theorem dX6_withPounds_5 : decode cX6_withPounds 5 = .ok (.aload_n 0, 1) := by decide +kernel
theorem dX6_withPounds_6 : decode cX6_withPounds 6 = .ok (.getfield 24, 3) := by decide +kernel
theorem dX6_withPounds_9 : decode cX6_withPounds 9 = .ok (.if_icmp .ge 21, 3) := by decide +kernel
theorem dX6_withPounds_12 : decode cX6_withPounds 12 = .ok (.aload_n 0, 1) := by decide +kernel
theorem dX6_withPounds_13 : decode cX6_withPounds 13 = .ok (.getfield 18, 3) := by decide +kernel
theorem dX6_withPounds_16 : decode cX6_withPounds 16 = .ok (.iload_n 2, 1) := by decide +kernel
theorem dX6_withPounds_17 : decode cX6_withPounds 17 = .ok (.iaload, 1) := by decide +kernel
theorem dX6_withPounds_18 : decode cX6_withPounds 18 = .ok (.ifCond .le 6, 3) := by decide +kernel
theorem dX6_withPounds_21 : decode cX6_withPounds 21 = .ok (.iinc 1 1, 3) := by decide +kernel
theorem dX6_withPounds_24 : decode cX6_withPounds 24 = .ok (.iinc 2 1, 3) := by decide +kernel
theorem dX6_withPounds_27 : decode cX6_withPounds 27 = .ok (.goto (-23), 3) := by decide +kernel
theorem dX6_withPounds_30 : decode cX6_withPounds 30 = .ok (.iload_n 1, 1) := by decide +kernel
theorem dX6_withPounds_31 : decode cX6_withPounds 31 = .ok (.ireturn, 1) := by decide +kernel
theorem dX1_inAll_0 : decode cX1_inAll 0 = .ok (.iconst 0, 1) := by decide +kernel
theorem dX1_inAll_1 : decode cX1_inAll 1 = .ok (.istore_n 1, 1) := by decide +kernel
theorem dX1_inAll_2 : decode cX1_inAll 2 = .ok (.iconst 0, 1) := by decide +kernel
theorem dX1_inAll_3 : decode cX1_inAll 3 = .ok (.istore_n 2, 1) := by decide +kernel
theorem dX1_inAll_4 : decode cX1_inAll 4 = .ok (.iload_n 2, 1) := by decide +kernel
theorem dX1_inAll_5 : decode cX1_inAll 5 = .ok (.bipush 16, 2) := by decide +kernel
theorem dX1_inAll_7 : decode cX1_inAll 7 = .ok (.if_icmp .ge 18, 3) := by decide +kernel
theorem dX1_inAll_10 : decode cX1_inAll 10 = .ok (.iload_n 1, 1) := by decide +kernel
theorem dX1_inAll_11 : decode cX1_inAll 11 = .ok (.aload_n 0, 1) := by decide +kernel
theorem dX1_inAll_12 : decode cX1_inAll 12 = .ok (.getfield 9, 3) := by decide +kernel
theorem dX1_inAll_15 : decode cX1_inAll 15 = .ok (.iload_n 2, 1) := by decide +kernel
theorem dX1_inAll_16 : decode cX1_inAll 16 = .ok (.iaload, 1) := by decide +kernel
theorem dX1_inAll_17 : decode cX1_inAll 17 = .ok (.iadd, 1) := by decide +kernel
theorem dX1_inAll_18 : decode cX1_inAll 18 = .ok (.istore_n 1, 1) := by decide +kernel
theorem dX1_inAll_19 : decode cX1_inAll 19 = .ok (.iinc 2 1, 3) := by decide +kernel
theorem dX1_inAll_22 : decode cX1_inAll 22 = .ok (.goto (-18), 3) := by decide +kernel
theorem dX1_inAll_25 : decode cX1_inAll 25 = .ok (.iload_n 1, 1) := by decide +kernel
theorem dX1_inAll_26 : decode cX1_inAll 26 = .ok (.ireturn, 1) := by decide +kernel
theorem dX11_count_0 : decode cX11_count 0 = .ok (.iload_n 1, 1) := by decide +kernel
theorem dX11_count_1 : decode cX11_count 1 = .ok (.tableswitch 168 0 12 #[67, 75, 83, 91, 99, 107, 115, 123, 131, 139, 144, 152, 160], 67) := by decide +kernel
theorem dX11_count_68 : decode cX11_count 68 = .ok (.aload_n 0, 1) := by decide +kernel
theorem dX11_count_69 : decode cX11_count 69 = .ok (.getfield 12, 3) := by decide +kernel
theorem dX11_count_72 : decode cX11_count 72 = .ok (.getfield 102, 3) := by decide +kernel
theorem dX11_count_75 : decode cX11_count 75 = .ok (.ireturn, 1) := by decide +kernel
theorem dX11_count_76 : decode cX11_count 76 = .ok (.aload_n 0, 1) := by decide +kernel
theorem dX11_count_77 : decode cX11_count 77 = .ok (.getfield 12, 3) := by decide +kernel
theorem dX11_count_80 : decode cX11_count 80 = .ok (.getfield 112, 3) := by decide +kernel
theorem dX11_count_83 : decode cX11_count 83 = .ok (.ireturn, 1) := by decide +kernel
theorem dX11_count_84 : decode cX11_count 84 = .ok (.aload_n 0, 1) := by decide +kernel
theorem dX11_count_85 : decode cX11_count 85 = .ok (.getfield 19, 3) := by decide +kernel
theorem dX11_count_88 : decode cX11_count 88 = .ok (.getfield 133, 3) := by decide +kernel
theorem dX11_count_91 : decode cX11_count 91 = .ok (.ireturn, 1) := by decide +kernel
theorem dX11_count_92 : decode cX11_count 92 = .ok (.aload_n 0, 1) := by decide +kernel
theorem dX11_count_93 : decode cX11_count 93 = .ok (.getfield 26, 3) := by decide +kernel
theorem dX11_count_96 : decode cX11_count 96 = .ok (.getfield 179, 3) := by decide +kernel
theorem dX11_count_99 : decode cX11_count 99 = .ok (.ireturn, 1) := by decide +kernel
theorem dX11_count_100 : decode cX11_count 100 = .ok (.aload_n 0, 1) := by decide +kernel
theorem dX11_count_101 : decode cX11_count 101 = .ok (.getfield 47, 3) := by decide +kernel
theorem dX11_count_104 : decode cX11_count 104 = .ok (.getfield 238, 3) := by decide +kernel
theorem dX11_count_107 : decode cX11_count 107 = .ok (.ireturn, 1) := by decide +kernel
theorem dX11_count_108 : decode cX11_count 108 = .ok (.aload_n 0, 1) := by decide +kernel
theorem dX11_count_109 : decode cX11_count 109 = .ok (.getfield 54, 3) := by decide +kernel
theorem dX11_count_112 : decode cX11_count 112 = .ok (.invokevirtual 415, 3) := by decide +kernel
theorem dX11_count_115 : decode cX11_count 115 = .ok (.ireturn, 1) := by decide +kernel
theorem dX11_count_116 : decode cX11_count 116 = .ok (.aload_n 0, 1) := by decide +kernel
theorem dX11_count_117 : decode cX11_count 117 = .ok (.getfield 68, 3) := by decide +kernel
theorem dX11_count_120 : decode cX11_count 120 = .ok (.getfield 351, 3) := by decide +kernel
theorem dX11_count_123 : decode cX11_count 123 = .ok (.ireturn, 1) := by decide +kernel
theorem dX11_count_124 : decode cX11_count 124 = .ok (.aload_n 0, 1) := by decide +kernel
theorem dX11_count_125 : decode cX11_count 125 = .ok (.getfield 75, 3) := by decide +kernel
theorem dX11_count_128 : decode cX11_count 128 = .ok (.getfield 374, 3) := by decide +kernel
theorem dX11_count_131 : decode cX11_count 131 = .ok (.ireturn, 1) := by decide +kernel
theorem dX11_count_132 : decode cX11_count 132 = .ok (.aload_n 0, 1) := by decide +kernel
theorem dX11_count_133 : decode cX11_count 133 = .ok (.getfield 82, 3) := by decide +kernel
theorem dX11_count_136 : decode cX11_count 136 = .ok (.getfield 391, 3) := by decide +kernel
theorem dX11_count_139 : decode cX11_count 139 = .ok (.ireturn, 1) := by decide +kernel
theorem dX11_count_140 : decode cX11_count 140 = .ok (.aload_n 0, 1) := by decide +kernel
theorem dX11_count_141 : decode cX11_count 141 = .ok (.getfield 90, 3) := by decide +kernel
theorem dX11_count_144 : decode cX11_count 144 = .ok (.ireturn, 1) := by decide +kernel
theorem dX11_count_145 : decode cX11_count 145 = .ok (.aload_n 0, 1) := by decide +kernel
theorem dX11_count_146 : decode cX11_count 146 = .ok (.getfield 33, 3) := by decide +kernel
theorem dX11_count_149 : decode cX11_count 149 = .ok (.getfield 233, 3) := by decide +kernel
theorem dX11_count_152 : decode cX11_count 152 = .ok (.ireturn, 1) := by decide +kernel
theorem dX11_count_153 : decode cX11_count 153 = .ok (.aload_n 0, 1) := by decide +kernel
theorem dX11_count_154 : decode cX11_count 154 = .ok (.getfield 26, 3) := by decide +kernel
theorem dX11_count_157 : decode cX11_count 157 = .ok (.getfield 182, 3) := by decide +kernel
theorem dX11_count_160 : decode cX11_count 160 = .ok (.ireturn, 1) := by decide +kernel
theorem dX11_count_161 : decode cX11_count 161 = .ok (.aload_n 0, 1) := by decide +kernel
theorem dX11_count_162 : decode cX11_count 162 = .ok (.getfield 61, 3) := by decide +kernel
theorem dX11_count_165 : decode cX11_count 165 = .ok (.invokevirtual 289, 3) := by decide +kernel
theorem dX11_count_168 : decode cX11_count 168 = .ok (.ireturn, 1) := by decide +kernel
theorem dX11_count_169 : decode cX11_count 169 = .ok (.iconst (-1), 1) := by decide +kernel
theorem dX11_count_170 : decode cX11_count 170 = .ok (.ireturn, 1) := by decide +kernel
theorem dJ9_max_7cf53_0 : decode cJ9_max_7cf53 0 = .ok (.iload_n 0, 1) := by decide +kernel
theorem dJ9_max_7cf53_1 : decode cJ9_max_7cf53 1 = .ok (.iload_n 1, 1) := by decide +kernel
theorem dJ9_max_7cf53_2 : decode cJ9_max_7cf53 2 = .ok (.if_icmp .lt 7, 3) := by decide +kernel
theorem dJ9_max_7cf53_5 : decode cJ9_max_7cf53 5 = .ok (.iload_n 0, 1) := by decide +kernel
theorem dJ9_max_7cf53_6 : decode cJ9_max_7cf53 6 = .ok (.goto 4, 3) := by decide +kernel
theorem dJ9_max_7cf53_9 : decode cJ9_max_7cf53 9 = .ok (.iload_n 1, 1) := by decide +kernel
theorem dJ9_max_7cf53_10 : decode cJ9_max_7cf53 10 = .ok (.ireturn, 1) := by decide +kernel
theorem dX11_poundsWithin_0 : decode cX11_poundsWithin 0 = .ok (.iconst 0, 1) := by decide +kernel
theorem dX11_poundsWithin_1 : decode cX11_poundsWithin 1 = .ok (.istore_n 3, 1) := by decide +kernel
theorem dX11_poundsWithin_2 : decode cX11_poundsWithin 2 = .ok (.iconst 0, 1) := by decide +kernel
theorem dX11_poundsWithin_3 : decode cX11_poundsWithin 3 = .ok (.istore 4, 2) := by decide +kernel
theorem dX11_poundsWithin_5 : decode cX11_poundsWithin 5 = .ok (.iload 4, 2) := by decide +kernel
theorem dX11_poundsWithin_7 : decode cX11_poundsWithin 7 = .ok (.aload_n 0, 1) := by decide +kernel
theorem dX11_poundsWithin_8 : decode cX11_poundsWithin 8 = .ok (.getfield 12, 3) := by decide +kernel
theorem dX11_poundsWithin_11 : decode cX11_poundsWithin 11 = .ok (.getfield 102, 3) := by decide +kernel
theorem dX11_poundsWithin_14 : decode cX11_poundsWithin 14 = .ok (.if_icmp .ge 37, 3) := by decide +kernel
theorem dX11_poundsWithin_17 : decode cX11_poundsWithin 17 = .ok (.aload_n 0, 1) := by decide +kernel
theorem dX11_poundsWithin_18 : decode cX11_poundsWithin 18 = .ok (.getfield 12, 3) := by decide +kernel
theorem dX11_poundsWithin_21 : decode cX11_poundsWithin 21 = .ok (.iload 4, 2) := by decide +kernel
theorem dX11_poundsWithin_23 : decode cX11_poundsWithin 23 = .ok (.iload_n 2, 1) := by decide +kernel
theorem dX11_poundsWithin_24 : decode cX11_poundsWithin 24 = .ok (.invokevirtual 123, 3) := by decide +kernel
theorem dX11_poundsWithin_27 : decode cX11_poundsWithin 27 = .ok (.ifCond .eq 18, 3) := by decide +kernel
theorem dX11_poundsWithin_30 : decode cX11_poundsWithin 30 = .ok (.iload_n 3, 1) := by decide +kernel
theorem dX11_poundsWithin_31 : decode cX11_poundsWithin 31 = .ok (.aload_n 0, 1) := by decide +kernel
theorem dX11_poundsWithin_32 : decode cX11_poundsWithin 32 = .ok (.getfield 19, 3) := by decide +kernel
theorem dX11_poundsWithin_35 : decode cX11_poundsWithin 35 = .ok (.getfield 161, 3) := by decide +kernel
theorem dX11_poundsWithin_38 : decode cX11_poundsWithin 38 = .ok (.iload_n 1, 1) := by decide +kernel
theorem dX11_poundsWithin_39 : decode cX11_poundsWithin 39 = .ok (.aaload, 1) := by decide +kernel
theorem dX11_poundsWithin_40 : decode cX11_poundsWithin 40 = .ok (.iload 4, 2) := by decide +kernel
theorem dX11_poundsWithin_42 : decode cX11_poundsWithin 42 = .ok (.iaload, 1) := by decide +kernel
theorem dX11_poundsWithin_43 : decode cX11_poundsWithin 43 = .ok (.iadd, 1) := by decide +kernel
theorem dX11_poundsWithin_44 : decode cX11_poundsWithin 44 = .ok (.istore_n 3, 1) := by decide +kernel
theorem dX11_poundsWithin_45 : decode cX11_poundsWithin 45 = .ok (.iinc 4 1, 3) := by decide +kernel
theorem dX11_poundsWithin_48 : decode cX11_poundsWithin 48 = .ok (.goto (-43), 3) := by decide +kernel
theorem dX11_poundsWithin_51 : decode cX11_poundsWithin 51 = .ok (.iload_n 3, 1) := by decide +kernel
theorem dX11_poundsWithin_52 : decode cX11_poundsWithin 52 = .ok (.ireturn, 1) := by decide +kernel
theorem dX11_inThousand_0 : decode cX11_inThousand 0 = .ok (.iload_n 1, 1) := by decide +kernel
theorem dX11_inThousand_1 : decode cX11_inThousand 1 = .ok (.ifCond .le 16, 3) := by decide +kernel
theorem dX11_inThousand_4 : decode cX11_inThousand 4 = .ok (.iload_n 0, 1) := by decide +kernel
theorem dX11_inThousand_5 : decode cX11_inThousand 5 = .ok (.i2l, 1) := by decide +kernel
theorem dX11_inThousand_6 : decode cX11_inThousand 6 = .ok (.ldc2_w 196, 3) := by decide +kernel
theorem dX11_inThousand_9 : decode cX11_inThousand 9 = .ok (.lmul, 1) := by decide +kernel
theorem dX11_inThousand_10 : decode cX11_inThousand 10 = .ok (.iload_n 1, 1) := by decide +kernel
theorem dX11_inThousand_11 : decode cX11_inThousand 11 = .ok (.i2l, 1) := by decide +kernel
theorem dX11_inThousand_12 : decode cX11_inThousand 12 = .ok (.ldiv, 1) := by decide +kernel
theorem dX11_inThousand_13 : decode cX11_inThousand 13 = .ok (.l2i, 1) := by decide +kernel
theorem dX11_inThousand_14 : decode cX11_inThousand 14 = .ok (.goto 4, 3) := by decide +kernel
theorem dX11_inThousand_17 : decode cX11_inThousand 17 = .ok (.iconst 0, 1) := by decide +kernel
theorem dX11_inThousand_18 : decode cX11_inThousand 18 = .ok (.ireturn, 1) := by decide +kernel
theorem dX11_tell_0 : decode cX11_tell 0 = .ok (.aload_n 0, 1) := by decide +kernel
theorem dX11_tell_1 : decode cX11_tell 1 = .ok (.getfield 90, 3) := by decide +kernel
theorem dX11_tell_4 : decode cX11_tell 4 = .ok (.bipush 48, 2) := by decide +kernel
theorem dX11_tell_6 : decode cX11_tell 6 = .ok (.if_icmp .ge 23, 3) := by decide +kernel
theorem dX11_tell_9 : decode cX11_tell 9 = .ok (.aload_n 0, 1) := by decide +kernel
theorem dX11_tell_10 : decode cX11_tell 10 = .ok (.getfield 86, 3) := by decide +kernel
theorem dX11_tell_13 : decode cX11_tell 13 = .ok (.aload_n 0, 1) := by decide +kernel
theorem dX11_tell_14 : decode cX11_tell 14 = .ok (.getfield 90, 3) := by decide +kernel
theorem dX11_tell_17 : decode cX11_tell 17 = .ok (.iload_n 1, 1) := by decide +kernel
theorem dX11_tell_18 : decode cX11_tell 18 = .ok (.iastore, 1) := by decide +kernel
theorem dX11_tell_19 : decode cX11_tell 19 = .ok (.aload_n 0, 1) := by decide +kernel
theorem dX11_tell_20 : decode cX11_tell 20 = .ok (.dup, 1) := by decide +kernel
theorem dX11_tell_21 : decode cX11_tell 21 = .ok (.getfield 90, 3) := by decide +kernel
theorem dX11_tell_24 : decode cX11_tell 24 = .ok (.iconst 1, 1) := by decide +kernel
theorem dX11_tell_25 : decode cX11_tell 25 = .ok (.iadd, 1) := by decide +kernel
theorem dX11_tell_26 : decode cX11_tell 26 = .ok (.putfield 90, 3) := by decide +kernel
theorem dX11_tell_29 : decode cX11_tell 29 = .ok (.return_, 1) := by decide +kernel
theorem dX0_has_0 : decode cX0_has 0 = .ok (.iload_n 1, 1) := by decide +kernel
theorem dX0_has_1 : decode cX0_has 1 = .ok (.ifCond .lt 15, 3) := by decide +kernel
theorem dX0_has_4 : decode cX0_has 4 = .ok (.iload_n 1, 1) := by decide +kernel
theorem dX0_has_5 : decode cX0_has 5 = .ok (.aload_n 0, 1) := by decide +kernel
theorem dX0_has_6 : decode cX0_has 6 = .ok (.getfield 38, 3) := by decide +kernel
theorem dX0_has_9 : decode cX0_has 9 = .ok (.if_icmp .ge 7, 3) := by decide +kernel
theorem dX0_has_12 : decode cX0_has 12 = .ok (.iconst 1, 1) := by decide +kernel
theorem dX0_has_13 : decode cX0_has 13 = .ok (.goto 4, 3) := by decide +kernel
theorem dX0_has_16 : decode cX0_has 16 = .ok (.iconst 0, 1) := by decide +kernel
theorem dX0_has_17 : decode cX0_has 17 = .ok (.ireturn, 1) := by decide +kernel
theorem dX0_isSorted_0 : decode cX0_isSorted 0 = .ok (.aload_n 0, 1) := by decide +kernel
theorem dX0_isSorted_1 : decode cX0_isSorted 1 = .ok (.iload_n 1, 1) := by decide +kernel
theorem dX0_isSorted_2 : decode cX0_isSorted 2 = .ok (.invokevirtual 42, 3) := by decide +kernel
theorem dX0_isSorted_5 : decode cX0_isSorted 5 = .ok (.ifCond .eq 17, 3) := by decide +kernel
theorem dX0_isSorted_8 : decode cX0_isSorted 8 = .ok (.aload_n 0, 1) := by decide +kernel
theorem dX0_isSorted_9 : decode cX0_isSorted 9 = .ok (.getfield 24, 3) := by decide +kernel
theorem dX0_isSorted_12 : decode cX0_isSorted 12 = .ok (.iload_n 1, 1) := by decide +kernel
theorem dX0_isSorted_13 : decode cX0_isSorted 13 = .ok (.iaload, 1) := by decide +kernel
theorem dX0_isSorted_14 : decode cX0_isSorted 14 = .ok (.iconst (-1), 1) := by decide +kernel
theorem dX0_isSorted_15 : decode cX0_isSorted 15 = .ok (.if_icmp .eq 7, 3) := by decide +kernel
theorem dX0_isSorted_18 : decode cX0_isSorted 18 = .ok (.iconst 1, 1) := by decide +kernel
theorem dX0_isSorted_19 : decode cX0_isSorted 19 = .ok (.goto 4, 3) := by decide +kernel
theorem dX0_isSorted_22 : decode cX0_isSorted 22 = .ok (.iconst 0, 1) := by decide +kernel
theorem dX0_isSorted_23 : decode cX0_isSorted 23 = .ok (.ireturn, 1) := by decide +kernel
theorem dX11_lies_0 : decode cX11_lies 0 = .ok (.iload_n 0, 1) := by decide +kernel
theorem dX11_lies_1 : decode cX11_lies 1 = .ok (.iload_n 1, 1) := by decide +kernel
theorem dX11_lies_2 : decode cX11_lies 2 = .ok (.if_icmp .lt 12, 3) := by decide +kernel
theorem dX11_lies_5 : decode cX11_lies 5 = .ok (.iload_n 0, 1) := by decide +kernel
theorem dX11_lies_6 : decode cX11_lies 6 = .ok (.iload_n 2, 1) := by decide +kernel
theorem dX11_lies_7 : decode cX11_lies 7 = .ok (.if_icmp .gt 7, 3) := by decide +kernel
theorem dX11_lies_10 : decode cX11_lies 10 = .ok (.iconst 1, 1) := by decide +kernel
theorem dX11_lies_11 : decode cX11_lies 11 = .ok (.goto 4, 3) := by decide +kernel
theorem dX11_lies_14 : decode cX11_lies 14 = .ok (.iconst 0, 1) := by decide +kernel
theorem dX11_lies_15 : decode cX11_lies 15 = .ok (.ireturn, 1) := by decide +kernel
theorem dX11_isSeller_0 : decode cX11_isSeller 0 = .ok (.iload_n 0, 1) := by decide +kernel
theorem dX11_isSeller_1 : decode cX11_isSeller 1 = .ok (.iconst 0, 1) := by decide +kernel
theorem dX11_isSeller_2 : decode cX11_isSeller 2 = .ok (.iconst 3, 1) := by decide +kernel
theorem dX11_isSeller_3 : decode cX11_isSeller 3 = .ok (.invokestatic 94, 3) := by decide +kernel
theorem dX11_isSeller_6 : decode cX11_isSeller 6 = .ok (.ireturn, 1) := by decide +kernel
theorem dX11_isMark_0 : decode cX11_isMark 0 = .ok (.iload_n 0, 1) := by decide +kernel
theorem dX11_isMark_1 : decode cX11_isMark 1 = .ok (.iconst 0, 1) := by decide +kernel
theorem dX11_isMark_2 : decode cX11_isMark 2 = .ok (.bipush 7, 2) := by decide +kernel
theorem dX11_isMark_4 : decode cX11_isMark 4 = .ok (.invokestatic 94, 3) := by decide +kernel
theorem dX11_isMark_7 : decode cX11_isMark 7 = .ok (.ireturn, 1) := by decide +kernel
theorem dX11_foretell_0 : decode cX11_foretell 0 = .ok (.iload_n 1, 1) := by decide +kernel
theorem dX11_foretell_1 : decode cX11_foretell 1 = .ok (.invokestatic 127, 3) := by decide +kernel
theorem dX11_foretell_4 : decode cX11_foretell 4 = .ok (.ifCond .eq 26, 3) := by decide +kernel
theorem dX11_foretell_7 : decode cX11_foretell 7 = .ok (.iload_n 2, 1) := by decide +kernel
theorem dX11_foretell_8 : decode cX11_foretell 8 = .ok (.iconst (-1), 1) := by decide +kernel
theorem dX11_foretell_9 : decode cX11_foretell 9 = .ok (.if_icmp .eq 10, 3) := by decide +kernel
theorem dX11_foretell_12 : decode cX11_foretell 12 = .ok (.iload_n 2, 1) := by decide +kernel
theorem dX11_foretell_13 : decode cX11_foretell 13 = .ok (.invokestatic 130, 3) := by decide +kernel
theorem dX11_foretell_16 : decode cX11_foretell 16 = .ok (.ifCond .eq 14, 3) := by decide +kernel
theorem dX11_foretell_19 : decode cX11_foretell 19 = .ok (.aload_n 0, 1) := by decide +kernel
theorem dX11_foretell_20 : decode cX11_foretell 20 = .ok (.getfield 12, 3) := by decide +kernel
theorem dX11_foretell_23 : decode cX11_foretell 23 = .ok (.iload_n 3, 1) := by decide +kernel
theorem dX11_foretell_24 : decode cX11_foretell 24 = .ok (.invokevirtual 98, 3) := by decide +kernel
theorem dX11_foretell_27 : decode cX11_foretell 27 = .ok (.ifCond .ne 5, 3) := by decide +kernel
theorem dX11_foretell_30 : decode cX11_foretell 30 = .ok (.iconst (-1), 1) := by decide +kernel
theorem dX11_foretell_31 : decode cX11_foretell 31 = .ok (.ireturn, 1) := by decide +kernel
theorem dX11_foretell_32 : decode cX11_foretell 32 = .ok (.iconst (-1), 1) := by decide +kernel
theorem dX11_foretell_33 : decode cX11_foretell 33 = .ok (.istore 4, 2) := by decide +kernel
theorem dX11_foretell_35 : decode cX11_foretell 35 = .ok (.iconst (-1), 1) := by decide +kernel
theorem dX11_foretell_36 : decode cX11_foretell 36 = .ok (.istore 5, 2) := by decide +kernel
theorem dX11_foretell_38 : decode cX11_foretell 38 = .ok (.iconst 0, 1) := by decide +kernel
theorem dX11_foretell_39 : decode cX11_foretell 39 = .ok (.istore 6, 2) := by decide +kernel
theorem dX11_foretell_41 : decode cX11_foretell 41 = .ok (.iconst 0, 1) := by decide +kernel
theorem dX11_foretell_42 : decode cX11_foretell 42 = .ok (.istore 7, 2) := by decide +kernel
theorem dX11_foretell_44 : decode cX11_foretell 44 = .ok (.iload 7, 2) := by decide +kernel
theorem dX11_foretell_46 : decode cX11_foretell 46 = .ok (.aload_n 0, 1) := by decide +kernel
theorem dX11_foretell_47 : decode cX11_foretell 47 = .ok (.getfield 19, 3) := by decide +kernel
theorem dX11_foretell_50 : decode cX11_foretell 50 = .ok (.getfield 133, 3) := by decide +kernel
theorem dX11_foretell_53 : decode cX11_foretell 53 = .ok (.if_icmp .ge 107, 3) := by decide +kernel
theorem dX11_foretell_56 : decode cX11_foretell 56 = .ok (.aload_n 0, 1) := by decide +kernel
theorem dX11_foretell_57 : decode cX11_foretell 57 = .ok (.getfield 19, 3) := by decide +kernel
theorem dX11_foretell_60 : decode cX11_foretell 60 = .ok (.iload 7, 2) := by decide +kernel
theorem dX11_foretell_62 : decode cX11_foretell 62 = .ok (.invokevirtual 141, 3) := by decide +kernel
theorem dX11_foretell_65 : decode cX11_foretell 65 = .ok (.ifCond .eq 89, 3) := by decide +kernel
theorem dX11_foretell_68 : decode cX11_foretell 68 = .ok (.aload_n 0, 1) := by decide +kernel
theorem dX11_foretell_69 : decode cX11_foretell 69 = .ok (.getfield 19, 3) := by decide +kernel
theorem dX11_foretell_72 : decode cX11_foretell 72 = .ok (.getfield 221, 3) := by decide +kernel
theorem dX11_foretell_75 : decode cX11_foretell 75 = .ok (.iload 7, 2) := by decide +kernel
theorem dX11_foretell_77 : decode cX11_foretell 77 = .ok (.iaload, 1) := by decide +kernel
theorem dX11_foretell_78 : decode cX11_foretell 78 = .ok (.iload_n 1, 1) := by decide +kernel
theorem dX11_foretell_79 : decode cX11_foretell 79 = .ok (.if_icmp .ne 75, 3) := by decide +kernel
theorem dX11_foretell_82 : decode cX11_foretell 82 = .ok (.iload_n 2, 1) := by decide +kernel
theorem dX11_foretell_83 : decode cX11_foretell 83 = .ok (.iconst (-1), 1) := by decide +kernel
theorem dX11_foretell_84 : decode cX11_foretell 84 = .ok (.if_icmp .eq 17, 3) := by decide +kernel
theorem dX11_foretell_87 : decode cX11_foretell 87 = .ok (.aload_n 0, 1) := by decide +kernel
theorem dX11_foretell_88 : decode cX11_foretell 88 = .ok (.getfield 19, 3) := by decide +kernel
theorem dX11_foretell_91 : decode cX11_foretell 91 = .ok (.getfield 215, 3) := by decide +kernel
theorem dX11_foretell_94 : decode cX11_foretell 94 = .ok (.iload 7, 2) := by decide +kernel
theorem dX11_foretell_96 : decode cX11_foretell 96 = .ok (.iaload, 1) := by decide +kernel
theorem dX11_foretell_97 : decode cX11_foretell 97 = .ok (.iload_n 2, 1) := by decide +kernel
theorem dX11_foretell_98 : decode cX11_foretell 98 = .ok (.if_icmp .ne 56, 3) := by decide +kernel
theorem dX11_foretell_101 : decode cX11_foretell 101 = .ok (.aload_n 0, 1) := by decide +kernel
theorem dX11_foretell_102 : decode cX11_foretell 102 = .ok (.iload 7, 2) := by decide +kernel
theorem dX11_foretell_104 : decode cX11_foretell 104 = .ok (.iload_n 3, 1) := by decide +kernel
theorem dX11_foretell_105 : decode cX11_foretell 105 = .ok (.invokevirtual 371, 3) := by decide +kernel
theorem dX11_foretell_108 : decode cX11_foretell 108 = .ok (.aload_n 0, 1) := by decide +kernel
theorem dX11_foretell_109 : decode cX11_foretell 109 = .ok (.getfield 19, 3) := by decide +kernel
theorem dX11_foretell_112 : decode cX11_foretell 112 = .ok (.getfield 144, 3) := by decide +kernel
theorem dX11_foretell_115 : decode cX11_foretell 115 = .ok (.iload 7, 2) := by decide +kernel
theorem dX11_foretell_117 : decode cX11_foretell 117 = .ok (.iaload, 1) := by decide +kernel
theorem dX11_foretell_118 : decode cX11_foretell 118 = .ok (.invokestatic 208, 3) := by decide +kernel
theorem dX11_foretell_121 : decode cX11_foretell 121 = .ok (.istore 8, 2) := by decide +kernel
theorem dX11_foretell_123 : decode cX11_foretell 123 = .ok (.iload 6, 2) := by decide +kernel
theorem dX11_foretell_125 : decode cX11_foretell 125 = .ok (.ifCond .ne 8, 3) := by decide +kernel
theorem dX11_foretell_128 : decode cX11_foretell 128 = .ok (.iload 8, 2) := by decide +kernel
theorem dX11_foretell_130 : decode cX11_foretell 130 = .ok (.goto 10, 3) := by decide +kernel
theorem dX11_foretell_133 : decode cX11_foretell 133 = .ok (.iload 4, 2) := by decide +kernel
theorem dX11_foretell_135 : decode cX11_foretell 135 = .ok (.iload 8, 2) := by decide +kernel
theorem dX11_foretell_137 : decode cX11_foretell 137 = .ok (.invokestatic 227, 3) := by decide +kernel
theorem dX11_foretell_140 : decode cX11_foretell 140 = .ok (.istore 4, 2) := by decide +kernel
theorem dX11_foretell_142 : decode cX11_foretell 142 = .ok (.iload 5, 2) := by decide +kernel
theorem dX11_foretell_144 : decode cX11_foretell 144 = .ok (.iload 8, 2) := by decide +kernel
theorem dX11_foretell_146 : decode cX11_foretell 146 = .ok (.invokestatic 188, 3) := by decide +kernel
theorem dX11_foretell_149 : decode cX11_foretell 149 = .ok (.istore 5, 2) := by decide +kernel
theorem dX11_foretell_151 : decode cX11_foretell 151 = .ok (.iinc 6 1, 3) := by decide +kernel
theorem dX11_foretell_154 : decode cX11_foretell 154 = .ok (.iinc 7 1, 3) := by decide +kernel
theorem dX11_foretell_157 : decode cX11_foretell 157 = .ok (.goto (-113), 3) := by decide +kernel
theorem dX11_foretell_160 : decode cX11_foretell 160 = .ok (.iload 6, 2) := by decide +kernel
theorem dX11_foretell_162 : decode cX11_foretell 162 = .ok (.ifCond .ne 5, 3) := by decide +kernel
theorem dX11_foretell_165 : decode cX11_foretell 165 = .ok (.iconst (-1), 1) := by decide +kernel
theorem dX11_foretell_166 : decode cX11_foretell 166 = .ok (.ireturn, 1) := by decide +kernel
theorem dX11_foretell_167 : decode cX11_foretell 167 = .ok (.aload_n 0, 1) := by decide +kernel
theorem dX11_foretell_168 : decode cX11_foretell 168 = .ok (.iconst 0, 1) := by decide +kernel
theorem dX11_foretell_169 : decode cX11_foretell 169 = .ok (.putfield 90, 3) := by decide +kernel
theorem dX11_foretell_172 : decode cX11_foretell 172 = .ok (.aload_n 0, 1) := by decide +kernel
theorem dX11_foretell_173 : decode cX11_foretell 173 = .ok (.iload 4, 2) := by decide +kernel
theorem dX11_foretell_175 : decode cX11_foretell 175 = .ok (.invokevirtual 359, 3) := by decide +kernel
theorem dX11_foretell_178 : decode cX11_foretell 178 = .ok (.aload_n 0, 1) := by decide +kernel
theorem dX11_foretell_179 : decode cX11_foretell 179 = .ok (.iload 5, 2) := by decide +kernel
theorem dX11_foretell_181 : decode cX11_foretell 181 = .ok (.invokevirtual 359, 3) := by decide +kernel
theorem dX11_foretell_184 : decode cX11_foretell 184 = .ok (.aload_n 0, 1) := by decide +kernel
theorem dX11_foretell_185 : decode cX11_foretell 185 = .ok (.iload 6, 2) := by decide +kernel
theorem dX11_foretell_187 : decode cX11_foretell 187 = .ok (.invokevirtual 359, 3) := by decide +kernel
theorem dX11_foretell_190 : decode cX11_foretell 190 = .ok (.iload 4, 2) := by decide +kernel
theorem dX11_foretell_192 : decode cX11_foretell 192 = .ok (.ireturn, 1) := by decide +kernel
theorem dJ6_bitCount_0f7a4_0 : decode cJ6_bitCount_0f7a4 0 = .ok (.iload_n 0, 1) := by decide +kernel
theorem dJ6_bitCount_0f7a4_1 : decode cJ6_bitCount_0f7a4 1 = .ok (.iload_n 0, 1) := by decide +kernel
theorem dJ6_bitCount_0f7a4_2 : decode cJ6_bitCount_0f7a4 2 = .ok (.iconst 1, 1) := by decide +kernel
theorem dJ6_bitCount_0f7a4_3 : decode cJ6_bitCount_0f7a4 3 = .ok (.iushr, 1) := by decide +kernel
theorem dJ6_bitCount_0f7a4_4 : decode cJ6_bitCount_0f7a4 4 = .ok (.ldc_w 265, 3) := by decide +kernel
theorem dJ6_bitCount_0f7a4_7 : decode cJ6_bitCount_0f7a4 7 = .ok (.iand, 1) := by decide +kernel
theorem dJ6_bitCount_0f7a4_8 : decode cJ6_bitCount_0f7a4 8 = .ok (.isub, 1) := by decide +kernel
theorem dJ6_bitCount_0f7a4_9 : decode cJ6_bitCount_0f7a4 9 = .ok (.istore_n 0, 1) := by decide +kernel
theorem dJ6_bitCount_0f7a4_10 : decode cJ6_bitCount_0f7a4 10 = .ok (.iload_n 0, 1) := by decide +kernel
theorem dJ6_bitCount_0f7a4_11 : decode cJ6_bitCount_0f7a4 11 = .ok (.ldc_w 266, 3) := by decide +kernel
theorem dJ6_bitCount_0f7a4_14 : decode cJ6_bitCount_0f7a4 14 = .ok (.iand, 1) := by decide +kernel
theorem dJ6_bitCount_0f7a4_15 : decode cJ6_bitCount_0f7a4 15 = .ok (.iload_n 0, 1) := by decide +kernel
theorem dJ6_bitCount_0f7a4_16 : decode cJ6_bitCount_0f7a4 16 = .ok (.iconst 2, 1) := by decide +kernel
theorem dJ6_bitCount_0f7a4_17 : decode cJ6_bitCount_0f7a4 17 = .ok (.iushr, 1) := by decide +kernel
theorem dJ6_bitCount_0f7a4_18 : decode cJ6_bitCount_0f7a4 18 = .ok (.ldc_w 266, 3) := by decide +kernel
theorem dJ6_bitCount_0f7a4_21 : decode cJ6_bitCount_0f7a4 21 = .ok (.iand, 1) := by decide +kernel
theorem dJ6_bitCount_0f7a4_22 : decode cJ6_bitCount_0f7a4 22 = .ok (.iadd, 1) := by decide +kernel
theorem dJ6_bitCount_0f7a4_23 : decode cJ6_bitCount_0f7a4 23 = .ok (.istore_n 0, 1) := by decide +kernel
theorem dJ6_bitCount_0f7a4_24 : decode cJ6_bitCount_0f7a4 24 = .ok (.iload_n 0, 1) := by decide +kernel
theorem dJ6_bitCount_0f7a4_25 : decode cJ6_bitCount_0f7a4 25 = .ok (.iload_n 0, 1) := by decide +kernel
theorem dJ6_bitCount_0f7a4_26 : decode cJ6_bitCount_0f7a4 26 = .ok (.iconst 4, 1) := by decide +kernel
theorem dJ6_bitCount_0f7a4_27 : decode cJ6_bitCount_0f7a4 27 = .ok (.iushr, 1) := by decide +kernel
theorem dJ6_bitCount_0f7a4_28 : decode cJ6_bitCount_0f7a4 28 = .ok (.iadd, 1) := by decide +kernel
theorem dJ6_bitCount_0f7a4_29 : decode cJ6_bitCount_0f7a4 29 = .ok (.ldc_w 267, 3) := by decide +kernel
theorem dJ6_bitCount_0f7a4_32 : decode cJ6_bitCount_0f7a4 32 = .ok (.iand, 1) := by decide +kernel
theorem dJ6_bitCount_0f7a4_33 : decode cJ6_bitCount_0f7a4 33 = .ok (.istore_n 0, 1) := by decide +kernel
theorem dJ6_bitCount_0f7a4_34 : decode cJ6_bitCount_0f7a4 34 = .ok (.iload_n 0, 1) := by decide +kernel
theorem dJ6_bitCount_0f7a4_35 : decode cJ6_bitCount_0f7a4 35 = .ok (.iload_n 0, 1) := by decide +kernel
theorem dJ6_bitCount_0f7a4_36 : decode cJ6_bitCount_0f7a4 36 = .ok (.bipush 8, 2) := by decide +kernel
theorem dJ6_bitCount_0f7a4_38 : decode cJ6_bitCount_0f7a4 38 = .ok (.iushr, 1) := by decide +kernel
theorem dJ6_bitCount_0f7a4_39 : decode cJ6_bitCount_0f7a4 39 = .ok (.iadd, 1) := by decide +kernel
theorem dJ6_bitCount_0f7a4_40 : decode cJ6_bitCount_0f7a4 40 = .ok (.istore_n 0, 1) := by decide +kernel
theorem dJ6_bitCount_0f7a4_41 : decode cJ6_bitCount_0f7a4 41 = .ok (.iload_n 0, 1) := by decide +kernel
theorem dJ6_bitCount_0f7a4_42 : decode cJ6_bitCount_0f7a4 42 = .ok (.iload_n 0, 1) := by decide +kernel
theorem dJ6_bitCount_0f7a4_43 : decode cJ6_bitCount_0f7a4 43 = .ok (.bipush 16, 2) := by decide +kernel
theorem dJ6_bitCount_0f7a4_45 : decode cJ6_bitCount_0f7a4 45 = .ok (.iushr, 1) := by decide +kernel
theorem dJ6_bitCount_0f7a4_46 : decode cJ6_bitCount_0f7a4 46 = .ok (.iadd, 1) := by decide +kernel
theorem dJ6_bitCount_0f7a4_47 : decode cJ6_bitCount_0f7a4 47 = .ok (.istore_n 0, 1) := by decide +kernel
theorem dJ6_bitCount_0f7a4_48 : decode cJ6_bitCount_0f7a4 48 = .ok (.iload_n 0, 1) := by decide +kernel
theorem dJ6_bitCount_0f7a4_49 : decode cJ6_bitCount_0f7a4 49 = .ok (.bipush 63, 2) := by decide +kernel
theorem dJ6_bitCount_0f7a4_51 : decode cJ6_bitCount_0f7a4 51 = .ok (.iand, 1) := by decide +kernel
theorem dJ6_bitCount_0f7a4_52 : decode cJ6_bitCount_0f7a4 52 = .ok (.ireturn, 1) := by decide +kernel
theorem dX4_given_0 : decode cX4_given 0 = .ok (.aload_n 0, 1) := by decide +kernel
theorem dX4_given_1 : decode cX4_given 1 = .ok (.getfield 11, 3) := by decide +kernel
theorem dX4_given_4 : decode cX4_given 4 = .ok (.iload_n 1, 1) := by decide +kernel
theorem dX4_given_5 : decode cX4_given 5 = .ok (.aaload, 1) := by decide +kernel
theorem dX4_given_6 : decode cX4_given 6 = .ok (.aload_n 0, 1) := by decide +kernel
theorem dX4_given_7 : decode cX4_given 7 = .ok (.getfield 20, 3) := by decide +kernel
theorem dX4_given_10 : decode cX4_given 10 = .ok (.iload_n 2, 1) := by decide +kernel
theorem dX4_given_11 : decode cX4_given 11 = .ok (.iaload, 1) := by decide +kernel
theorem dX4_given_12 : decode cX4_given 12 = .ok (.iaload, 1) := by decide +kernel
theorem dX4_given_13 : decode cX4_given 13 = .ok (.istore_n 3, 1) := by decide +kernel
theorem dX4_given_14 : decode cX4_given 14 = .ok (.aload_n 0, 1) := by decide +kernel
theorem dX4_given_15 : decode cX4_given 15 = .ok (.getfield 29, 3) := by decide +kernel
theorem dX4_given_18 : decode cX4_given 18 = .ok (.iload_n 2, 1) := by decide +kernel
theorem dX4_given_19 : decode cX4_given 19 = .ok (.iaload, 1) := by decide +kernel
theorem dX4_given_20 : decode cX4_given 20 = .ok (.ifCond .ne 7, 3) := by decide +kernel
theorem dX4_given_23 : decode cX4_given 23 = .ok (.iconst 0, 1) := by decide +kernel
theorem dX4_given_24 : decode cX4_given 24 = .ok (.goto 16, 3) := by decide +kernel
theorem dX4_given_27 : decode cX4_given 27 = .ok (.aload_n 0, 1) := by decide +kernel
theorem dX4_given_28 : decode cX4_given 28 = .ok (.getfield 11, 3) := by decide +kernel
theorem dX4_given_31 : decode cX4_given 31 = .ok (.iload_n 1, 1) := by decide +kernel
theorem dX4_given_32 : decode cX4_given 32 = .ok (.aaload, 1) := by decide +kernel
theorem dX4_given_33 : decode cX4_given 33 = .ok (.aload_n 0, 1) := by decide +kernel
theorem dX4_given_34 : decode cX4_given 34 = .ok (.getfield 26, 3) := by decide +kernel
theorem dX4_given_37 : decode cX4_given 37 = .ok (.iload_n 2, 1) := by decide +kernel
theorem dX4_given_38 : decode cX4_given 38 = .ok (.iaload, 1) := by decide +kernel
theorem dX4_given_39 : decode cX4_given 39 = .ok (.iaload, 1) := by decide +kernel
theorem dX4_given_40 : decode cX4_given 40 = .ok (.istore 4, 2) := by decide +kernel
theorem dX4_given_42 : decode cX4_given 42 = .ok (.iload_n 3, 1) := by decide +kernel
theorem dX4_given_43 : decode cX4_given 43 = .ok (.iconst (-1), 1) := by decide +kernel
theorem dX4_given_44 : decode cX4_given 44 = .ok (.if_icmp .eq 9, 3) := by decide +kernel
theorem dX4_given_47 : decode cX4_given 47 = .ok (.iload 4, 2) := by decide +kernel
theorem dX4_given_49 : decode cX4_given 49 = .ok (.iconst (-1), 1) := by decide +kernel
theorem dX4_given_50 : decode cX4_given 50 = .ok (.if_icmp .ne 8, 3) := by decide +kernel
theorem dX4_given_53 : decode cX4_given 53 = .ok (.bipush (-2), 2) := by decide +kernel
theorem dX4_given_55 : decode cX4_given 55 = .ok (.goto 21, 3) := by decide +kernel
theorem dX4_given_58 : decode cX4_given 58 = .ok (.iload_n 3, 1) := by decide +kernel
theorem dX4_given_59 : decode cX4_given 59 = .ok (.aload_n 0, 1) := by decide +kernel
theorem dX4_given_60 : decode cX4_given 60 = .ok (.getfield 23, 3) := by decide +kernel
theorem dX4_given_63 : decode cX4_given 63 = .ok (.iload_n 2, 1) := by decide +kernel
theorem dX4_given_64 : decode cX4_given 64 = .ok (.iaload, 1) := by decide +kernel
theorem dX4_given_65 : decode cX4_given 65 = .ok (.imul, 1) := by decide +kernel
theorem dX4_given_66 : decode cX4_given 66 = .ok (.iload 4, 2) := by decide +kernel
theorem dX4_given_68 : decode cX4_given 68 = .ok (.aload_n 0, 1) := by decide +kernel
theorem dX4_given_69 : decode cX4_given 69 = .ok (.getfield 29, 3) := by decide +kernel
theorem dX4_given_72 : decode cX4_given 72 = .ok (.iload_n 2, 1) := by decide +kernel
theorem dX4_given_73 : decode cX4_given 73 = .ok (.iaload, 1) := by decide +kernel
theorem dX4_given_74 : decode cX4_given 74 = .ok (.imul, 1) := by decide +kernel
theorem dX4_given_75 : decode cX4_given 75 = .ok (.iadd, 1) := by decide +kernel
theorem dX4_given_76 : decode cX4_given 76 = .ok (.ireturn, 1) := by decide +kernel
theorem dX4_weigh_0 : decode cX4_weigh 0 = .ok (.aload_n 0, 1) := by decide +kernel
theorem dX4_weigh_1 : decode cX4_weigh 1 = .ok (.getfield 36, 3) := by decide +kernel
theorem dX4_weigh_4 : decode cX4_weigh 4 = .ok (.iconst 0, 1) := by decide +kernel
theorem dX4_weigh_5 : decode cX4_weigh 5 = .ok (.lconst 0, 1) := by decide +kernel
theorem dX4_weigh_6 : decode cX4_weigh 6 = .ok (.lastore, 1) := by decide +kernel
theorem dX4_weigh_7 : decode cX4_weigh 7 = .ok (.iconst 0, 1) := by decide +kernel
theorem dX4_weigh_8 : decode cX4_weigh 8 = .ok (.istore_n 2, 1) := by decide +kernel
theorem dX4_weigh_9 : decode cX4_weigh 9 = .ok (.iload_n 2, 1) := by decide +kernel
theorem dX4_weigh_10 : decode cX4_weigh 10 = .ok (.aload_n 0, 1) := by decide +kernel
theorem dX4_weigh_11 : decode cX4_weigh 11 = .ok (.getfield 32, 3) := by decide +kernel
theorem dX4_weigh_14 : decode cX4_weigh 14 = .ok (.if_icmp .ge 125, 3) := by decide +kernel
theorem dX4_weigh_17 : decode cX4_weigh 17 = .ok (.aload_n 0, 1) := by decide +kernel
theorem dX4_weigh_18 : decode cX4_weigh 18 = .ok (.iload_n 1, 1) := by decide +kernel
theorem dX4_weigh_19 : decode cX4_weigh 19 = .ok (.iload_n 2, 1) := by decide +kernel
theorem dX4_weigh_20 : decode cX4_weigh 20 = .ok (.invokevirtual 57, 3) := by decide +kernel
theorem dX4_weigh_23 : decode cX4_weigh 23 = .ok (.istore_n 3, 1) := by decide +kernel
theorem dX4_weigh_24 : decode cX4_weigh 24 = .ok (.iconst 4, 1) := by decide +kernel
theorem dX4_weigh_25 : decode cX4_weigh 25 = .ok (.iload_n 1, 1) := by decide +kernel
theorem dX4_weigh_26 : decode cX4_weigh 26 = .ok (.isub, 1) := by decide +kernel
theorem dX4_weigh_27 : decode cX4_weigh 27 = .ok (.i2l, 1) := by decide +kernel
theorem dX4_weigh_28 : decode cX4_weigh 28 = .ok (.getstatic 61, 3) := by decide +kernel
theorem dX4_weigh_31 : decode cX4_weigh 31 = .ok (.iload_n 2, 1) := by decide +kernel
theorem dX4_weigh_32 : decode cX4_weigh 32 = .ok (.iaload, 1) := by decide +kernel
theorem dX4_weigh_33 : decode cX4_weigh 33 = .ok (.i2l, 1) := by decide +kernel
theorem dX4_weigh_34 : decode cX4_weigh 34 = .ok (.lmul, 1) := by decide +kernel
theorem dX4_weigh_35 : decode cX4_weigh 35 = .ok (.lstore 4, 2) := by decide +kernel
theorem dX4_weigh_37 : decode cX4_weigh 37 = .ok (.iconst 1, 1) := by decide +kernel
theorem dX4_weigh_38 : decode cX4_weigh 38 = .ok (.iload_n 2, 1) := by decide +kernel
theorem dX4_weigh_39 : decode cX4_weigh 39 = .ok (.ishl, 1) := by decide +kernel
theorem dX4_weigh_40 : decode cX4_weigh 40 = .ok (.istore 6, 2) := by decide +kernel
theorem dX4_weigh_42 : decode cX4_weigh 42 = .ok (.iconst 0, 1) := by decide +kernel
theorem dX4_weigh_43 : decode cX4_weigh 43 = .ok (.istore 7, 2) := by decide +kernel
theorem dX4_weigh_45 : decode cX4_weigh 45 = .ok (.iload 7, 2) := by decide +kernel
theorem dX4_weigh_47 : decode cX4_weigh 47 = .ok (.iload 6, 2) := by decide +kernel
theorem dX4_weigh_49 : decode cX4_weigh 49 = .ok (.if_icmp .ge 84, 3) := by decide +kernel
theorem dX4_weigh_52 : decode cX4_weigh 52 = .ok (.iload_n 3, 1) := by decide +kernel
theorem dX4_weigh_53 : decode cX4_weigh 53 = .ok (.ifCond .lt 33, 3) := by decide +kernel
theorem dX4_weigh_56 : decode cX4_weigh 56 = .ok (.aload_n 0, 1) := by decide +kernel
theorem dX4_weigh_57 : decode cX4_weigh 57 = .ok (.getfield 36, 3) := by decide +kernel
theorem dX4_weigh_60 : decode cX4_weigh 60 = .ok (.iload 7, 2) := by decide +kernel
theorem dX4_weigh_62 : decode cX4_weigh 62 = .ok (.laload, 1) := by decide +kernel
theorem dX4_weigh_63 : decode cX4_weigh 63 = .ok (.lconst 0, 1) := by decide +kernel
theorem dX4_weigh_64 : decode cX4_weigh 64 = .ok (.lcmp, 1) := by decide +kernel
theorem dX4_weigh_65 : decode cX4_weigh 65 = .ok (.ifCond .lt 21, 3) := by decide +kernel
theorem dX4_weigh_68 : decode cX4_weigh 68 = .ok (.iload 7, 2) := by decide +kernel
theorem dX4_weigh_70 : decode cX4_weigh 70 = .ok (.invokestatic 64, 3) := by decide +kernel
theorem dX4_weigh_73 : decode cX4_weigh 73 = .ok (.aload_n 0, 1) := by decide +kernel
theorem dX4_weigh_74 : decode cX4_weigh 74 = .ok (.getfield 16, 3) := by decide +kernel
theorem dX4_weigh_77 : decode cX4_weigh 77 = .ok (.iload_n 1, 1) := by decide +kernel
theorem dX4_weigh_78 : decode cX4_weigh 78 = .ok (.iaload, 1) := by decide +kernel
theorem dX4_weigh_79 : decode cX4_weigh 79 = .ok (.if_icmp .ge 7, 3) := by decide +kernel
theorem dX4_weigh_82 : decode cX4_weigh 82 = .ok (.iconst 1, 1) := by decide +kernel
theorem dX4_weigh_83 : decode cX4_weigh 83 = .ok (.goto 4, 3) := by decide +kernel
theorem dX4_weigh_86 : decode cX4_weigh 86 = .ok (.iconst 0, 1) := by decide +kernel
theorem dX4_weigh_87 : decode cX4_weigh 87 = .ok (.istore 8, 2) := by decide +kernel
theorem dX4_weigh_89 : decode cX4_weigh 89 = .ok (.aload_n 0, 1) := by decide +kernel
theorem dX4_weigh_90 : decode cX4_weigh 90 = .ok (.getfield 36, 3) := by decide +kernel
theorem dX4_weigh_93 : decode cX4_weigh 93 = .ok (.iload 6, 2) := by decide +kernel
theorem dX4_weigh_95 : decode cX4_weigh 95 = .ok (.iload 7, 2) := by decide +kernel
theorem dX4_weigh_97 : decode cX4_weigh 97 = .ok (.iadd, 1) := by decide +kernel
theorem dX4_weigh_98 : decode cX4_weigh 98 = .ok (.iload 8, 2) := by decide +kernel
theorem dX4_weigh_100 : decode cX4_weigh 100 = .ok (.ifCond .eq 23, 3) := by decide +kernel
theorem dX4_weigh_103 : decode cX4_weigh 103 = .ok (.aload_n 0, 1) := by decide +kernel
theorem dX4_weigh_104 : decode cX4_weigh 104 = .ok (.getfield 36, 3) := by decide +kernel
theorem dX4_weigh_107 : decode cX4_weigh 107 = .ok (.iload 7, 2) := by decide +kernel
theorem dX4_weigh_109 : decode cX4_weigh 109 = .ok (.laload, 1) := by decide +kernel
theorem dX4_weigh_110 : decode cX4_weigh 110 = .ok (.iload_n 3, 1) := by decide +kernel
theorem dX4_weigh_111 : decode cX4_weigh 111 = .ok (.i2l, 1) := by decide +kernel
theorem dX4_weigh_112 : decode cX4_weigh 112 = .ok (.ldc2_w 70, 3) := by decide +kernel
theorem dX4_weigh_115 : decode cX4_weigh 115 = .ok (.lmul, 1) := by decide +kernel
theorem dX4_weigh_116 : decode cX4_weigh 116 = .ok (.ladd, 1) := by decide +kernel
theorem dX4_weigh_117 : decode cX4_weigh 117 = .ok (.lload 4, 2) := by decide +kernel
theorem dX4_weigh_119 : decode cX4_weigh 119 = .ok (.ladd, 1) := by decide +kernel
theorem dX4_weigh_120 : decode cX4_weigh 120 = .ok (.goto 6, 3) := by decide +kernel
theorem dX4_weigh_123 : decode cX4_weigh 123 = .ok (.ldc2_w 72, 3) := by decide +kernel
theorem dX4_weigh_126 : decode cX4_weigh 126 = .ok (.lastore, 1) := by decide +kernel
theorem dX4_weigh_127 : decode cX4_weigh 127 = .ok (.iinc 7 1, 3) := by decide +kernel
theorem dX4_weigh_130 : decode cX4_weigh 130 = .ok (.goto (-85), 3) := by decide +kernel
theorem dX4_weigh_133 : decode cX4_weigh 133 = .ok (.iinc 2 1, 3) := by decide +kernel
theorem dX4_weigh_136 : decode cX4_weigh 136 = .ok (.goto (-127), 3) := by decide +kernel
theorem dX4_weigh_139 : decode cX4_weigh 139 = .ok (.return_, 1) := by decide +kernel
