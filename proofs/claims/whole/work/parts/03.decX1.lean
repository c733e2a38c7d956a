theorem dX1_init_0 : decode cX1_init 0 = .ok (.aload_n 0, 1) := by decide +kernel
theorem dX1_init_1 : decode cX1_init 1 = .ok (.invokespecial 1, 3) := by decide +kernel
theorem dX1_init_4 : decode cX1_init 4 = .ok (.aload_n 0, 1) := by decide +kernel
theorem dX1_init_5 : decode cX1_init 5 = .ok (.bipush 8, 2) := by decide +kernel
theorem dX1_init_7 : decode cX1_init 7 = .ok (.newarray .int, 2) := by decide +kernel
theorem dX1_init_9 : decode cX1_init 9 = .ok (.putfield 9, 3) := by decide +kernel
theorem dX1_init_12 : decode cX1_init 12 = .ok (.aload_n 0, 1) := by decide +kernel
theorem dX1_init_13 : decode cX1_init 13 = .ok (.bipush 8, 2) := by decide +kernel
theorem dX1_init_15 : decode cX1_init 15 = .ok (.newarray .int, 2) := by decide +kernel
theorem dX1_init_17 : decode cX1_init 17 = .ok (.putfield 13, 3) := by decide +kernel
theorem dX1_init_20 : decode cX1_init 20 = .ok (.aload_n 0, 1) := by decide +kernel
theorem dX1_init_21 : decode cX1_init 21 = .ok (.bipush 8, 2) := by decide +kernel
theorem dX1_init_23 : decode cX1_init 23 = .ok (.newarray .int, 2) := by decide +kernel
theorem dX1_init_25 : decode cX1_init 25 = .ok (.putfield 16, 3) := by decide +kernel
theorem dX1_init_28 : decode cX1_init 28 = .ok (.aload_n 0, 1) := by decide +kernel
theorem dX1_init_29 : decode cX1_init 29 = .ok (.bipush 71, 2) := by decide +kernel
theorem dX1_init_31 : decode cX1_init 31 = .ok (.newarray .int, 2) := by decide +kernel
theorem dX1_init_33 : decode cX1_init 33 = .ok (.putfield 19, 3) := by decide +kernel
theorem dX1_init_36 : decode cX1_init 36 = .ok (.aload_n 0, 1) := by decide +kernel
theorem dX1_init_37 : decode cX1_init 37 = .ok (.bipush 71, 2) := by decide +kernel
theorem dX1_init_39 : decode cX1_init 39 = .ok (.newarray .int, 2) := by decide +kernel
theorem dX1_init_41 : decode cX1_init 41 = .ok (.putfield 22, 3) := by decide +kernel
theorem dX1_init_44 : decode cX1_init 44 = .ok (.return_, 1) := by decide +kernel
theorem dX1_thrown_0 : decode cX1_thrown 0 = .ok (.aload_n 0, 1) := by decide +kernel
theorem dX1_thrown_1 : decode cX1_thrown 1 = .ok (.getfield 25, 3) := by decide +kernel
theorem dX1_thrown_4 : decode cX1_thrown 4 = .ok (.ireturn, 1) := by decide +kernel
theorem dX1_fail_0 : decode cX1_fail 0 = .ok (.aload_n 0, 1) := by decide +kernel
theorem dX1_fail_1 : decode cX1_fail 1 = .ok (.iload_n 1, 1) := by decide +kernel
theorem dX1_fail_2 : decode cX1_fail 2 = .ok (.putfield 25, 3) := by decide +kernel
theorem dX1_fail_5 : decode cX1_fail 5 = .ok (.iconst 0, 1) := by decide +kernel
theorem dX1_fail_6 : decode cX1_fail 6 = .ok (.ireturn, 1) := by decide +kernel
theorem dX1_told_0 : decode cX1_told 0 = .ok (.aload_n 0, 1) := by decide +kernel
theorem dX1_told_1 : decode cX1_told 1 = .ok (.iconst 0, 1) := by decide +kernel
theorem dX1_told_2 : decode cX1_told 2 = .ok (.putfield 25, 3) := by decide +kernel
theorem dX1_told_5 : decode cX1_told 5 = .ok (.iload_n 1, 1) := by decide +kernel
theorem dX1_told_6 : decode cX1_told 6 = .ok (.ireturn, 1) := by decide +kernel
theorem dX1_isIn_0 : decode cX1_isIn 0 = .ok (.iload_n 0, 1) := by decide +kernel
theorem dX1_isIn_1 : decode cX1_isIn 1 = .ok (.iload_n 1, 1) := by decide +kernel
theorem dX1_isIn_2 : decode cX1_isIn 2 = .ok (.if_icmp .lt 12, 3) := by decide +kernel
theorem dX1_isIn_5 : decode cX1_isIn 5 = .ok (.iload_n 0, 1) := by decide +kernel
theorem dX1_isIn_6 : decode cX1_isIn 6 = .ok (.iload_n 2, 1) := by decide +kernel
theorem dX1_isIn_7 : decode cX1_isIn 7 = .ok (.if_icmp .gt 7, 3) := by decide +kernel
theorem dX1_isIn_10 : decode cX1_isIn 10 = .ok (.iconst 1, 1) := by decide +kernel
theorem dX1_isIn_11 : decode cX1_isIn 11 = .ok (.goto 4, 3) := by decide +kernel
theorem dX1_isIn_14 : decode cX1_isIn 14 = .ok (.iconst 0, 1) := by decide +kernel
theorem dX1_isIn_15 : decode cX1_isIn 15 = .ok (.ireturn, 1) := by decide +kernel
theorem dX1_isTower_0 : decode cX1_isTower 0 = .ok (.iload_n 1, 1) := by decide +kernel
theorem dX1_isTower_1 : decode cX1_isTower 1 = .ok (.iconst 0, 1) := by decide +kernel
theorem dX1_isTower_2 : decode cX1_isTower 2 = .ok (.aload_n 0, 1) := by decide +kernel
theorem dX1_isTower_3 : decode cX1_isTower 3 = .ok (.getfield 29, 3) := by decide +kernel
theorem dX1_isTower_6 : decode cX1_isTower 6 = .ok (.iconst 1, 1) := by decide +kernel
theorem dX1_isTower_7 : decode cX1_isTower 7 = .ok (.isub, 1) := by decide +kernel
theorem dX1_isTower_8 : decode cX1_isTower 8 = .ok (.invokestatic 32, 3) := by decide +kernel
theorem dX1_isTower_11 : decode cX1_isTower 11 = .ok (.ireturn, 1) := by decide +kernel
theorem dX1_isTrader_0 : decode cX1_isTrader 0 = .ok (.iload_n 1, 1) := by decide +kernel
theorem dX1_isTrader_1 : decode cX1_isTrader 1 = .ok (.iconst 0, 1) := by decide +kernel
theorem dX1_isTrader_2 : decode cX1_isTrader 2 = .ok (.aload_n 0, 1) := by decide +kernel
theorem dX1_isTrader_3 : decode cX1_isTrader 3 = .ok (.getfield 36, 3) := by decide +kernel
theorem dX1_isTrader_6 : decode cX1_isTrader 6 = .ok (.iconst 1, 1) := by decide +kernel
theorem dX1_isTrader_7 : decode cX1_isTrader 7 = .ok (.isub, 1) := by decide +kernel
theorem dX1_isTrader_8 : decode cX1_isTrader 8 = .ok (.invokestatic 32, 3) := by decide +kernel
theorem dX1_isTrader_11 : decode cX1_isTrader 11 = .ok (.ireturn, 1) := by decide +kernel
theorem dX1_keep_0 : decode cX1_keep 0 = .ok (.aload_n 0, 1) := by decide +kernel
theorem dX1_keep_1 : decode cX1_keep 1 = .ok (.getfield 19, 3) := by decide +kernel
theorem dX1_keep_4 : decode cX1_keep 4 = .ok (.iconst 0, 1) := by decide +kernel
theorem dX1_keep_5 : decode cX1_keep 5 = .ok (.aload_n 0, 1) := by decide +kernel
theorem dX1_keep_6 : decode cX1_keep 6 = .ok (.getfield 22, 3) := by decide +kernel
theorem dX1_keep_9 : decode cX1_keep 9 = .ok (.iconst 0, 1) := by decide +kernel
theorem dX1_keep_10 : decode cX1_keep 10 = .ok (.bipush 71, 2) := by decide +kernel
theorem dX1_keep_12 : decode cX1_keep 12 = .ok (.invokestatic 39, 3) := by decide +kernel
theorem dX1_keep_15 : decode cX1_keep 15 = .ok (.return_, 1) := by decide +kernel
theorem dX1_bringBack_0 : decode cX1_bringBack 0 = .ok (.aload_n 0, 1) := by decide +kernel
theorem dX1_bringBack_1 : decode cX1_bringBack 1 = .ok (.getfield 22, 3) := by decide +kernel
theorem dX1_bringBack_4 : decode cX1_bringBack 4 = .ok (.iconst 0, 1) := by decide +kernel
theorem dX1_bringBack_5 : decode cX1_bringBack 5 = .ok (.aload_n 0, 1) := by decide +kernel
theorem dX1_bringBack_6 : decode cX1_bringBack 6 = .ok (.getfield 19, 3) := by decide +kernel
theorem dX1_bringBack_9 : decode cX1_bringBack 9 = .ok (.iconst 0, 1) := by decide +kernel
theorem dX1_bringBack_10 : decode cX1_bringBack 10 = .ok (.bipush 71, 2) := by decide +kernel
theorem dX1_bringBack_12 : decode cX1_bringBack 12 = .ok (.invokestatic 39, 3) := by decide +kernel
theorem dX1_bringBack_15 : decode cX1_bringBack 15 = .ok (.return_, 1) := by decide +kernel
theorem dX1_at_0 : decode cX1_at 0 = .ok (.bipush 23, 2) := by decide +kernel
theorem dX1_at_2 : decode cX1_at 2 = .ok (.bipush 8, 2) := by decide +kernel
theorem dX1_at_4 : decode cX1_at 4 = .ok (.iload_n 0, 1) := by decide +kernel
theorem dX1_at_5 : decode cX1_at 5 = .ok (.imul, 1) := by decide +kernel
theorem dX1_at_6 : decode cX1_at 6 = .ok (.iadd, 1) := by decide +kernel
theorem dX1_at_7 : decode cX1_at 7 = .ok (.iload_n 1, 1) := by decide +kernel
theorem dX1_at_8 : decode cX1_at 8 = .ok (.iadd, 1) := by decide +kernel
theorem dX1_at_9 : decode cX1_at 9 = .ok (.ireturn, 1) := by decide +kernel
theorem dX1_doves_0 : decode cX1_doves 0 = .ok (.iconst 0, 1) := by decide +kernel
theorem dX1_doves_1 : decode cX1_doves 1 = .ok (.istore_n 2, 1) := by decide +kernel
theorem dX1_doves_2 : decode cX1_doves 2 = .ok (.iconst 0, 1) := by decide +kernel
theorem dX1_doves_3 : decode cX1_doves 3 = .ok (.istore_n 3, 1) := by decide +kernel
theorem dX1_doves_4 : decode cX1_doves 4 = .ok (.iload_n 3, 1) := by decide +kernel
theorem dX1_doves_5 : decode cX1_doves 5 = .ok (.aload_n 0, 1) := by decide +kernel
theorem dX1_doves_6 : decode cX1_doves 6 = .ok (.getfield 36, 3) := by decide +kernel
theorem dX1_doves_9 : decode cX1_doves 9 = .ok (.if_icmp .ge 27, 3) := by decide +kernel
theorem dX1_doves_12 : decode cX1_doves 12 = .ok (.iload_n 2, 1) := by decide +kernel
theorem dX1_doves_13 : decode cX1_doves 13 = .ok (.iconst 0, 1) := by decide +kernel
theorem dX1_doves_14 : decode cX1_doves 14 = .ok (.aload_n 0, 1) := by decide +kernel
theorem dX1_doves_15 : decode cX1_doves 15 = .ok (.getfield 19, 3) := by decide +kernel
theorem dX1_doves_18 : decode cX1_doves 18 = .ok (.iload_n 3, 1) := by decide +kernel
theorem dX1_doves_19 : decode cX1_doves 19 = .ok (.iload_n 1, 1) := by decide +kernel
theorem dX1_doves_20 : decode cX1_doves 20 = .ok (.invokestatic 45, 3) := by decide +kernel
theorem dX1_doves_23 : decode cX1_doves 23 = .ok (.iaload, 1) := by decide +kernel
theorem dX1_doves_24 : decode cX1_doves 24 = .ok (.ineg, 1) := by decide +kernel
theorem dX1_doves_25 : decode cX1_doves 25 = .ok (.invokestatic 49, 3) := by decide +kernel
theorem dX1_doves_28 : decode cX1_doves 28 = .ok (.iadd, 1) := by decide +kernel
theorem dX1_doves_29 : decode cX1_doves 29 = .ok (.istore_n 2, 1) := by decide +kernel
theorem dX1_doves_30 : decode cX1_doves 30 = .ok (.iinc 3 1, 3) := by decide +kernel
theorem dX1_doves_33 : decode cX1_doves 33 = .ok (.goto (-29), 3) := by decide +kernel
theorem dX1_doves_36 : decode cX1_doves 36 = .ok (.iload_n 2, 1) := by decide +kernel
theorem dX1_doves_37 : decode cX1_doves 37 = .ok (.ireturn, 1) := by decide +kernel
theorem dX1_priceBehind_0 : decode cX1_priceBehind 0 = .ok (.iconst 0, 1) := by decide +kernel
theorem dX1_priceBehind_1 : decode cX1_priceBehind 1 = .ok (.aload_n 0, 1) := by decide +kernel
theorem dX1_priceBehind_2 : decode cX1_priceBehind 2 = .ok (.getfield 19, 3) := by decide +kernel
theorem dX1_priceBehind_5 : decode cX1_priceBehind 5 = .ok (.iconst 1, 1) := by decide +kernel
theorem dX1_priceBehind_6 : decode cX1_priceBehind 6 = .ok (.iload_n 1, 1) := by decide +kernel
theorem dX1_priceBehind_7 : decode cX1_priceBehind 7 = .ok (.iadd, 1) := by decide +kernel
theorem dX1_priceBehind_8 : decode cX1_priceBehind 8 = .ok (.iaload, 1) := by decide +kernel
theorem dX1_priceBehind_9 : decode cX1_priceBehind 9 = .ok (.iload_n 2, 1) := by decide +kernel
theorem dX1_priceBehind_10 : decode cX1_priceBehind 10 = .ok (.iadd, 1) := by decide +kernel
theorem dX1_priceBehind_11 : decode cX1_priceBehind 11 = .ok (.aload_n 0, 1) := by decide +kernel
theorem dX1_priceBehind_12 : decode cX1_priceBehind 12 = .ok (.getfield 9, 3) := by decide +kernel
theorem dX1_priceBehind_15 : decode cX1_priceBehind 15 = .ok (.iload_n 1, 1) := by decide +kernel
theorem dX1_priceBehind_16 : decode cX1_priceBehind 16 = .ok (.iaload, 1) := by decide +kernel
theorem dX1_priceBehind_17 : decode cX1_priceBehind 17 = .ok (.imul, 1) := by decide +kernel
theorem dX1_priceBehind_18 : decode cX1_priceBehind 18 = .ok (.iconst 2, 1) := by decide +kernel
theorem dX1_priceBehind_19 : decode cX1_priceBehind 19 = .ok (.aload_n 0, 1) := by decide +kernel
theorem dX1_priceBehind_20 : decode cX1_priceBehind 20 = .ok (.iload_n 1, 1) := by decide +kernel
theorem dX1_priceBehind_21 : decode cX1_priceBehind 21 = .ok (.invokevirtual 54, 3) := by decide +kernel
theorem dX1_priceBehind_24 : decode cX1_priceBehind 24 = .ok (.imul, 1) := by decide +kernel
theorem dX1_priceBehind_25 : decode cX1_priceBehind 25 = .ok (.isub, 1) := by decide +kernel
theorem dX1_priceBehind_26 : decode cX1_priceBehind 26 = .ok (.invokestatic 49, 3) := by decide +kernel
theorem dX1_priceBehind_29 : decode cX1_priceBehind 29 = .ok (.ireturn, 1) := by decide +kernel
theorem dX1_price_0 : decode cX1_price 0 = .ok (.aload_n 0, 1) := by decide +kernel
theorem dX1_price_1 : decode cX1_price 1 = .ok (.iload_n 1, 1) := by decide +kernel
theorem dX1_price_2 : decode cX1_price 2 = .ok (.iconst 0, 1) := by decide +kernel
theorem dX1_price_3 : decode cX1_price 3 = .ok (.invokevirtual 58, 3) := by decide +kernel
theorem dX1_price_6 : decode cX1_price 6 = .ok (.ireturn, 1) := by decide +kernel
theorem dX1_until_0 : decode cX1_until 0 = .ok (.iconst 1, 1) := by decide +kernel
theorem dX1_until_1 : decode cX1_until 1 = .ok (.istore_n 2, 1) := by decide +kernel
theorem dX1_until_2 : decode cX1_until 2 = .ok (.aload_n 0, 1) := by decide +kernel
theorem dX1_until_3 : decode cX1_until 3 = .ok (.getfield 19, 3) := by decide +kernel
theorem dX1_until_6 : decode cX1_until 6 = .ok (.iconst 0, 1) := by decide +kernel
theorem dX1_until_7 : decode cX1_until 7 = .ok (.iaload, 1) := by decide +kernel
theorem dX1_until_8 : decode cX1_until 8 = .ok (.iload_n 2, 1) := by decide +kernel
theorem dX1_until_9 : decode cX1_until 9 = .ok (.iadd, 1) := by decide +kernel
theorem dX1_until_10 : decode cX1_until 10 = .ok (.aload_n 0, 1) := by decide +kernel
theorem dX1_until_11 : decode cX1_until 11 = .ok (.getfield 13, 3) := by decide +kernel
theorem dX1_until_14 : decode cX1_until 14 = .ok (.iload_n 1, 1) := by decide +kernel
theorem dX1_until_15 : decode cX1_until 15 = .ok (.iaload, 1) := by decide +kernel
theorem dX1_until_16 : decode cX1_until 16 = .ok (.irem, 1) := by decide +kernel
theorem dX1_until_17 : decode cX1_until 17 = .ok (.aload_n 0, 1) := by decide +kernel
theorem dX1_until_18 : decode cX1_until 18 = .ok (.getfield 16, 3) := by decide +kernel
theorem dX1_until_21 : decode cX1_until 21 = .ok (.iload_n 1, 1) := by decide +kernel
theorem dX1_until_22 : decode cX1_until 22 = .ok (.iaload, 1) := by decide +kernel
theorem dX1_until_23 : decode cX1_until 23 = .ok (.if_icmp .eq 9, 3) := by decide +kernel
theorem dX1_until_26 : decode cX1_until 26 = .ok (.iinc 2 1, 3) := by decide +kernel
theorem dX1_until_29 : decode cX1_until 29 = .ok (.goto (-27), 3) := by decide +kernel
theorem dX1_until_32 : decode cX1_until 32 = .ok (.iload_n 2, 1) := by decide +kernel
theorem dX1_until_33 : decode cX1_until 33 = .ok (.ireturn, 1) := by decide +kernel
theorem dX1_secondOn_0 : decode cX1_secondOn 0 = .ok (.iconst 0, 1) := by decide +kernel
theorem dX1_secondOn_1 : decode cX1_secondOn 1 = .ok (.istore_n 1, 1) := by decide +kernel
theorem dX1_secondOn_2 : decode cX1_secondOn 2 = .ok (.aload_n 0, 1) := by decide +kernel
theorem dX1_secondOn_3 : decode cX1_secondOn 3 = .ok (.getfield 19, 3) := by decide +kernel
theorem dX1_secondOn_6 : decode cX1_secondOn 6 = .ok (.iconst 0, 1) := by decide +kernel
theorem dX1_secondOn_7 : decode cX1_secondOn 7 = .ok (.dup2, 1) := by decide +kernel
theorem dX1_secondOn_8 : decode cX1_secondOn 8 = .ok (.iaload, 1) := by decide +kernel
theorem dX1_secondOn_9 : decode cX1_secondOn 9 = .ok (.iconst 1, 1) := by decide +kernel
theorem dX1_secondOn_10 : decode cX1_secondOn 10 = .ok (.iadd, 1) := by decide +kernel
theorem dX1_secondOn_11 : decode cX1_secondOn 11 = .ok (.iastore, 1) := by decide +kernel
theorem dX1_secondOn_12 : decode cX1_secondOn 12 = .ok (.iconst 0, 1) := by decide +kernel
theorem dX1_secondOn_13 : decode cX1_secondOn 13 = .ok (.istore_n 2, 1) := by decide +kernel
theorem dX1_secondOn_14 : decode cX1_secondOn 14 = .ok (.iload_n 2, 1) := by decide +kernel
theorem dX1_secondOn_15 : decode cX1_secondOn 15 = .ok (.aload_n 0, 1) := by decide +kernel
theorem dX1_secondOn_16 : decode cX1_secondOn 16 = .ok (.getfield 29, 3) := by decide +kernel
theorem dX1_secondOn_19 : decode cX1_secondOn 19 = .ok (.if_icmp .ge 133, 3) := by decide +kernel
theorem dX1_secondOn_22 : decode cX1_secondOn 22 = .ok (.aload_n 0, 1) := by decide +kernel
theorem dX1_secondOn_23 : decode cX1_secondOn 23 = .ok (.getfield 19, 3) := by decide +kernel
theorem dX1_secondOn_26 : decode cX1_secondOn 26 = .ok (.iconst 0, 1) := by decide +kernel
theorem dX1_secondOn_27 : decode cX1_secondOn 27 = .ok (.iaload, 1) := by decide +kernel
theorem dX1_secondOn_28 : decode cX1_secondOn 28 = .ok (.aload_n 0, 1) := by decide +kernel
theorem dX1_secondOn_29 : decode cX1_secondOn 29 = .ok (.getfield 13, 3) := by decide +kernel
theorem dX1_secondOn_32 : decode cX1_secondOn 32 = .ok (.iload_n 2, 1) := by decide +kernel
theorem dX1_secondOn_33 : decode cX1_secondOn 33 = .ok (.iaload, 1) := by decide +kernel
theorem dX1_secondOn_34 : decode cX1_secondOn 34 = .ok (.irem, 1) := by decide +kernel
theorem dX1_secondOn_35 : decode cX1_secondOn 35 = .ok (.aload_n 0, 1) := by decide +kernel
theorem dX1_secondOn_36 : decode cX1_secondOn 36 = .ok (.getfield 16, 3) := by decide +kernel
theorem dX1_secondOn_39 : decode cX1_secondOn 39 = .ok (.iload_n 2, 1) := by decide +kernel
theorem dX1_secondOn_40 : decode cX1_secondOn 40 = .ok (.iaload, 1) := by decide +kernel
theorem dX1_secondOn_41 : decode cX1_secondOn 41 = .ok (.if_icmp .eq 18, 3) := by decide +kernel
theorem dX1_secondOn_44 : decode cX1_secondOn 44 = .ok (.aload_n 0, 1) := by decide +kernel
theorem dX1_secondOn_45 : decode cX1_secondOn 45 = .ok (.getfield 19, 3) := by decide +kernel
theorem dX1_secondOn_48 : decode cX1_secondOn 48 = .ok (.iconst 1, 1) := by decide +kernel
theorem dX1_secondOn_49 : decode cX1_secondOn 49 = .ok (.iload_n 2, 1) := by decide +kernel
theorem dX1_secondOn_50 : decode cX1_secondOn 50 = .ok (.iadd, 1) := by decide +kernel
theorem dX1_secondOn_51 : decode cX1_secondOn 51 = .ok (.dup2, 1) := by decide +kernel
theorem dX1_secondOn_52 : decode cX1_secondOn 52 = .ok (.iaload, 1) := by decide +kernel
theorem dX1_secondOn_53 : decode cX1_secondOn 53 = .ok (.iconst 1, 1) := by decide +kernel
theorem dX1_secondOn_54 : decode cX1_secondOn 54 = .ok (.iadd, 1) := by decide +kernel
theorem dX1_secondOn_55 : decode cX1_secondOn 55 = .ok (.iastore, 1) := by decide +kernel
theorem dX1_secondOn_56 : decode cX1_secondOn 56 = .ok (.goto 90, 3) := by decide +kernel
theorem dX1_secondOn_59 : decode cX1_secondOn 59 = .ok (.aload_n 0, 1) := by decide +kernel
theorem dX1_secondOn_60 : decode cX1_secondOn 60 = .ok (.iload_n 2, 1) := by decide +kernel
theorem dX1_secondOn_61 : decode cX1_secondOn 61 = .ok (.invokevirtual 61, 3) := by decide +kernel
theorem dX1_secondOn_64 : decode cX1_secondOn 64 = .ok (.istore_n 3, 1) := by decide +kernel
theorem dX1_secondOn_65 : decode cX1_secondOn 65 = .ok (.iconst 0, 1) := by decide +kernel
theorem dX1_secondOn_66 : decode cX1_secondOn 66 = .ok (.istore 4, 2) := by decide +kernel
theorem dX1_secondOn_68 : decode cX1_secondOn 68 = .ok (.iload 4, 2) := by decide +kernel
theorem dX1_secondOn_70 : decode cX1_secondOn 70 = .ok (.aload_n 0, 1) := by decide +kernel
theorem dX1_secondOn_71 : decode cX1_secondOn 71 = .ok (.getfield 36, 3) := by decide +kernel
theorem dX1_secondOn_74 : decode cX1_secondOn 74 = .ok (.if_icmp .ge 47, 3) := by decide +kernel
theorem dX1_secondOn_77 : decode cX1_secondOn 77 = .ok (.aload_n 0, 1) := by decide +kernel
theorem dX1_secondOn_78 : decode cX1_secondOn 78 = .ok (.getfield 19, 3) := by decide +kernel
theorem dX1_secondOn_81 : decode cX1_secondOn 81 = .ok (.bipush 17, 2) := by decide +kernel
theorem dX1_secondOn_83 : decode cX1_secondOn 83 = .ok (.iload 4, 2) := by decide +kernel
theorem dX1_secondOn_85 : decode cX1_secondOn 85 = .ok (.iadd, 1) := by decide +kernel
theorem dX1_secondOn_86 : decode cX1_secondOn 86 = .ok (.dup2, 1) := by decide +kernel
theorem dX1_secondOn_87 : decode cX1_secondOn 87 = .ok (.iaload, 1) := by decide +kernel
theorem dX1_secondOn_88 : decode cX1_secondOn 88 = .ok (.iload_n 3, 1) := by decide +kernel
theorem dX1_secondOn_89 : decode cX1_secondOn 89 = .ok (.aload_n 0, 1) := by decide +kernel
theorem dX1_secondOn_90 : decode cX1_secondOn 90 = .ok (.getfield 19, 3) := by decide +kernel
theorem dX1_secondOn_93 : decode cX1_secondOn 93 = .ok (.iload 4, 2) := by decide +kernel
theorem dX1_secondOn_95 : decode cX1_secondOn 95 = .ok (.iload_n 2, 1) := by decide +kernel
theorem dX1_secondOn_96 : decode cX1_secondOn 96 = .ok (.invokestatic 45, 3) := by decide +kernel
theorem dX1_secondOn_99 : decode cX1_secondOn 99 = .ok (.iaload, 1) := by decide +kernel
theorem dX1_secondOn_100 : decode cX1_secondOn 100 = .ok (.imul, 1) := by decide +kernel
theorem dX1_secondOn_101 : decode cX1_secondOn 101 = .ok (.iadd, 1) := by decide +kernel
theorem dX1_secondOn_102 : decode cX1_secondOn 102 = .ok (.iastore, 1) := by decide +kernel
theorem dX1_secondOn_103 : decode cX1_secondOn 103 = .ok (.aload_n 0, 1) := by decide +kernel
theorem dX1_secondOn_104 : decode cX1_secondOn 104 = .ok (.getfield 19, 3) := by decide +kernel
theorem dX1_secondOn_107 : decode cX1_secondOn 107 = .ok (.iload 4, 2) := by decide +kernel
theorem dX1_secondOn_109 : decode cX1_secondOn 109 = .ok (.iload_n 2, 1) := by decide +kernel
theorem dX1_secondOn_110 : decode cX1_secondOn 110 = .ok (.invokestatic 45, 3) := by decide +kernel
theorem dX1_secondOn_113 : decode cX1_secondOn 113 = .ok (.iconst 0, 1) := by decide +kernel
theorem dX1_secondOn_114 : decode cX1_secondOn 114 = .ok (.iastore, 1) := by decide +kernel
theorem dX1_secondOn_115 : decode cX1_secondOn 115 = .ok (.iinc 4 1, 3) := by decide +kernel
theorem dX1_secondOn_118 : decode cX1_secondOn 118 = .ok (.goto (-50), 3) := by decide +kernel
theorem dX1_secondOn_121 : decode cX1_secondOn 121 = .ok (.aload_n 0, 1) := by decide +kernel
theorem dX1_secondOn_122 : decode cX1_secondOn 122 = .ok (.getfield 19, 3) := by decide +kernel
theorem dX1_secondOn_125 : decode cX1_secondOn 125 = .ok (.iconst 1, 1) := by decide +kernel
theorem dX1_secondOn_126 : decode cX1_secondOn 126 = .ok (.iload_n 2, 1) := by decide +kernel
theorem dX1_secondOn_127 : decode cX1_secondOn 127 = .ok (.iadd, 1) := by decide +kernel
theorem dX1_secondOn_128 : decode cX1_secondOn 128 = .ok (.iconst 0, 1) := by decide +kernel
theorem dX1_secondOn_129 : decode cX1_secondOn 129 = .ok (.iastore, 1) := by decide +kernel
theorem dX1_secondOn_130 : decode cX1_secondOn 130 = .ok (.aload_n 0, 1) := by decide +kernel
theorem dX1_secondOn_131 : decode cX1_secondOn 131 = .ok (.getfield 19, 3) := by decide +kernel
theorem dX1_secondOn_134 : decode cX1_secondOn 134 = .ok (.bipush 9, 2) := by decide +kernel
theorem dX1_secondOn_136 : decode cX1_secondOn 136 = .ok (.iload_n 2, 1) := by decide +kernel
theorem dX1_secondOn_137 : decode cX1_secondOn 137 = .ok (.iadd, 1) := by decide +kernel
theorem dX1_secondOn_138 : decode cX1_secondOn 138 = .ok (.dup2, 1) := by decide +kernel
theorem dX1_secondOn_139 : decode cX1_secondOn 139 = .ok (.iaload, 1) := by decide +kernel
theorem dX1_secondOn_140 : decode cX1_secondOn 140 = .ok (.iconst 1, 1) := by decide +kernel
theorem dX1_secondOn_141 : decode cX1_secondOn 141 = .ok (.iadd, 1) := by decide +kernel
theorem dX1_secondOn_142 : decode cX1_secondOn 142 = .ok (.iastore, 1) := by decide +kernel
theorem dX1_secondOn_143 : decode cX1_secondOn 143 = .ok (.iinc 1 1, 3) := by decide +kernel
theorem dX1_secondOn_146 : decode cX1_secondOn 146 = .ok (.iinc 2 1, 3) := by decide +kernel
theorem dX1_secondOn_149 : decode cX1_secondOn 149 = .ok (.goto (-135), 3) := by decide +kernel
theorem dX1_secondOn_152 : decode cX1_secondOn 152 = .ok (.iload_n 1, 1) := by decide +kernel
theorem dX1_secondOn_153 : decode cX1_secondOn 153 = .ok (.ireturn, 1) := by decide +kernel
theorem dX1_secondsOn_0 : decode cX1_secondsOn 0 = .ok (.iconst 0, 1) := by decide +kernel
theorem dX1_secondsOn_1 : decode cX1_secondsOn 1 = .ok (.istore_n 2, 1) := by decide +kernel
theorem dX1_secondsOn_2 : decode cX1_secondsOn 2 = .ok (.iconst 0, 1) := by decide +kernel
theorem dX1_secondsOn_3 : decode cX1_secondsOn 3 = .ok (.istore_n 3, 1) := by decide +kernel
theorem dX1_secondsOn_4 : decode cX1_secondsOn 4 = .ok (.iload_n 3, 1) := by decide +kernel
theorem dX1_secondsOn_5 : decode cX1_secondsOn 5 = .ok (.iload_n 1, 1) := by decide +kernel
theorem dX1_secondsOn_6 : decode cX1_secondsOn 6 = .ok (.if_icmp .ge 16, 3) := by decide +kernel
theorem dX1_secondsOn_9 : decode cX1_secondsOn 9 = .ok (.iload_n 2, 1) := by decide +kernel
theorem dX1_secondsOn_10 : decode cX1_secondsOn 10 = .ok (.aload_n 0, 1) := by decide +kernel
theorem dX1_secondsOn_11 : decode cX1_secondsOn 11 = .ok (.invokevirtual 64, 3) := by decide +kernel
theorem dX1_secondsOn_14 : decode cX1_secondsOn 14 = .ok (.iadd, 1) := by decide +kernel
theorem dX1_secondsOn_15 : decode cX1_secondsOn 15 = .ok (.istore_n 2, 1) := by decide +kernel
theorem dX1_secondsOn_16 : decode cX1_secondsOn 16 = .ok (.iinc 3 1, 3) := by decide +kernel
theorem dX1_secondsOn_19 : decode cX1_secondsOn 19 = .ok (.goto (-15), 3) := by decide +kernel
theorem dX1_secondsOn_22 : decode cX1_secondsOn 22 = .ok (.iload_n 2, 1) := by decide +kernel
theorem dX1_secondsOn_23 : decode cX1_secondsOn 23 = .ok (.ireturn, 1) := by decide +kernel
theorem dX1_list_0 : decode cX1_list 0 = .ok (.aload_n 0, 1) := by decide +kernel
theorem dX1_list_1 : decode cX1_list 1 = .ok (.iconst 0, 1) := by decide +kernel
theorem dX1_list_2 : decode cX1_list 2 = .ok (.putfield 25, 3) := by decide +kernel
theorem dX1_list_5 : decode cX1_list 5 = .ok (.iload_n 1, 1) := by decide +kernel
theorem dX1_list_6 : decode cX1_list 6 = .ok (.iconst 1, 1) := by decide +kernel
theorem dX1_list_7 : decode cX1_list 7 = .ok (.bipush 9, 2) := by decide +kernel
theorem dX1_list_9 : decode cX1_list 9 = .ok (.invokestatic 32, 3) := by decide +kernel
theorem dX1_list_12 : decode cX1_list 12 = .ok (.ifCond .eq 24, 3) := by decide +kernel
theorem dX1_list_15 : decode cX1_list 15 = .ok (.iload_n 2, 1) := by decide +kernel
theorem dX1_list_16 : decode cX1_list 16 = .ok (.iconst 2, 1) := by decide +kernel
theorem dX1_list_17 : decode cX1_list 17 = .ok (.bipush 20, 2) := by decide +kernel
theorem dX1_list_19 : decode cX1_list 19 = .ok (.invokestatic 32, 3) := by decide +kernel
theorem dX1_list_22 : decode cX1_list 22 = .ok (.ifCond .eq 14, 3) := by decide +kernel
theorem dX1_list_25 : decode cX1_list 25 = .ok (.iload_n 3, 1) := by decide +kernel
theorem dX1_list_26 : decode cX1_list 26 = .ok (.iconst 0, 1) := by decide +kernel
theorem dX1_list_27 : decode cX1_list 27 = .ok (.iload_n 2, 1) := by decide +kernel
theorem dX1_list_28 : decode cX1_list 28 = .ok (.iconst 1, 1) := by decide +kernel
theorem dX1_list_29 : decode cX1_list 29 = .ok (.isub, 1) := by decide +kernel
theorem dX1_list_30 : decode cX1_list 30 = .ok (.invokestatic 32, 3) := by decide +kernel
theorem dX1_list_33 : decode cX1_list 33 = .ok (.ifCond .ne 9, 3) := by decide +kernel
theorem dX1_list_36 : decode cX1_list 36 = .ok (.aload_n 0, 1) := by decide +kernel
theorem dX1_list_37 : decode cX1_list 37 = .ok (.iconst 1, 1) := by decide +kernel
theorem dX1_list_38 : decode cX1_list 38 = .ok (.invokevirtual 68, 3) := by decide +kernel
theorem dX1_list_41 : decode cX1_list 41 = .ok (.ireturn, 1) := by decide +kernel
theorem dX1_list_42 : decode cX1_list 42 = .ok (.aload_n 0, 1) := by decide +kernel
theorem dX1_list_43 : decode cX1_list 43 = .ok (.getfield 29, 3) := by decide +kernel
theorem dX1_list_46 : decode cX1_list 46 = .ok (.bipush 8, 2) := by decide +kernel
theorem dX1_list_48 : decode cX1_list 48 = .ok (.if_icmp .ne 9, 3) := by decide +kernel
theorem dX1_list_51 : decode cX1_list 51 = .ok (.aload_n 0, 1) := by decide +kernel
theorem dX1_list_52 : decode cX1_list 52 = .ok (.iconst 2, 1) := by decide +kernel
theorem dX1_list_53 : decode cX1_list 53 = .ok (.invokevirtual 68, 3) := by decide +kernel
theorem dX1_list_56 : decode cX1_list 56 = .ok (.ireturn, 1) := by decide +kernel
theorem dX1_list_57 : decode cX1_list 57 = .ok (.aload_n 0, 1) := by decide +kernel
theorem dX1_list_58 : decode cX1_list 58 = .ok (.getfield 9, 3) := by decide +kernel
theorem dX1_list_61 : decode cX1_list 61 = .ok (.aload_n 0, 1) := by decide +kernel
theorem dX1_list_62 : decode cX1_list 62 = .ok (.getfield 29, 3) := by decide +kernel
theorem dX1_list_65 : decode cX1_list 65 = .ok (.iload_n 1, 1) := by decide +kernel
theorem dX1_list_66 : decode cX1_list 66 = .ok (.iastore, 1) := by decide +kernel
theorem dX1_list_67 : decode cX1_list 67 = .ok (.aload_n 0, 1) := by decide +kernel
theorem dX1_list_68 : decode cX1_list 68 = .ok (.getfield 13, 3) := by decide +kernel
theorem dX1_list_71 : decode cX1_list 71 = .ok (.aload_n 0, 1) := by decide +kernel
theorem dX1_list_72 : decode cX1_list 72 = .ok (.getfield 29, 3) := by decide +kernel
theorem dX1_list_75 : decode cX1_list 75 = .ok (.iload_n 2, 1) := by decide +kernel
theorem dX1_list_76 : decode cX1_list 76 = .ok (.iastore, 1) := by decide +kernel
theorem dX1_list_77 : decode cX1_list 77 = .ok (.aload_n 0, 1) := by decide +kernel
theorem dX1_list_78 : decode cX1_list 78 = .ok (.getfield 16, 3) := by decide +kernel
theorem dX1_list_81 : decode cX1_list 81 = .ok (.aload_n 0, 1) := by decide +kernel
theorem dX1_list_82 : decode cX1_list 82 = .ok (.getfield 29, 3) := by decide +kernel
theorem dX1_list_85 : decode cX1_list 85 = .ok (.iload_n 3, 1) := by decide +kernel
theorem dX1_list_86 : decode cX1_list 86 = .ok (.iastore, 1) := by decide +kernel
theorem dX1_list_87 : decode cX1_list 87 = .ok (.aload_n 0, 1) := by decide +kernel
theorem dX1_list_88 : decode cX1_list 88 = .ok (.dup, 1) := by decide +kernel
theorem dX1_list_89 : decode cX1_list 89 = .ok (.getfield 29, 3) := by decide +kernel
theorem dX1_list_92 : decode cX1_list 92 = .ok (.iconst 1, 1) := by decide +kernel
theorem dX1_list_93 : decode cX1_list 93 = .ok (.iadd, 1) := by decide +kernel
theorem dX1_list_94 : decode cX1_list 94 = .ok (.putfield 29, 3) := by decide +kernel
theorem dX1_list_97 : decode cX1_list 97 = .ok (.aload_n 0, 1) := by decide +kernel
theorem dX1_list_98 : decode cX1_list 98 = .ok (.getfield 29, 3) := by decide +kernel
theorem dX1_list_101 : decode cX1_list 101 = .ok (.iconst 1, 1) := by decide +kernel
theorem dX1_list_102 : decode cX1_list 102 = .ok (.isub, 1) := by decide +kernel
theorem dX1_list_103 : decode cX1_list 103 = .ok (.ireturn, 1) := by decide +kernel
theorem dX1_addTrader_0 : decode cX1_addTrader 0 = .ok (.aload_n 0, 1) := by decide +kernel
theorem dX1_addTrader_1 : decode cX1_addTrader 1 = .ok (.iconst 0, 1) := by decide +kernel
theorem dX1_addTrader_2 : decode cX1_addTrader 2 = .ok (.putfield 25, 3) := by decide +kernel
theorem dX1_addTrader_5 : decode cX1_addTrader 5 = .ok (.aload_n 0, 1) := by decide +kernel
theorem dX1_addTrader_6 : decode cX1_addTrader 6 = .ok (.getfield 36, 3) := by decide +kernel
theorem dX1_addTrader_9 : decode cX1_addTrader 9 = .ok (.bipush 6, 2) := by decide +kernel
theorem dX1_addTrader_11 : decode cX1_addTrader 11 = .ok (.if_icmp .ne 9, 3) := by decide +kernel
theorem dX1_addTrader_14 : decode cX1_addTrader 14 = .ok (.aload_n 0, 1) := by decide +kernel
theorem dX1_addTrader_15 : decode cX1_addTrader 15 = .ok (.iconst 1, 1) := by decide +kernel
theorem dX1_addTrader_16 : decode cX1_addTrader 16 = .ok (.invokevirtual 68, 3) := by decide +kernel
theorem dX1_addTrader_19 : decode cX1_addTrader 19 = .ok (.ireturn, 1) := by decide +kernel
theorem dX1_addTrader_20 : decode cX1_addTrader 20 = .ok (.aload_n 0, 1) := by decide +kernel
theorem dX1_addTrader_21 : decode cX1_addTrader 21 = .ok (.getfield 19, 3) := by decide +kernel
theorem dX1_addTrader_24 : decode cX1_addTrader 24 = .ok (.bipush 17, 2) := by decide +kernel
theorem dX1_addTrader_26 : decode cX1_addTrader 26 = .ok (.aload_n 0, 1) := by decide +kernel
theorem dX1_addTrader_27 : decode cX1_addTrader 27 = .ok (.getfield 36, 3) := by decide +kernel
theorem dX1_addTrader_30 : decode cX1_addTrader 30 = .ok (.iadd, 1) := by decide +kernel
theorem dX1_addTrader_31 : decode cX1_addTrader 31 = .ok (.bipush 100, 2) := by decide +kernel
theorem dX1_addTrader_33 : decode cX1_addTrader 33 = .ok (.iastore, 1) := by decide +kernel
theorem dX1_addTrader_34 : decode cX1_addTrader 34 = .ok (.aload_n 0, 1) := by decide +kernel
theorem dX1_addTrader_35 : decode cX1_addTrader 35 = .ok (.dup, 1) := by decide +kernel
theorem dX1_addTrader_36 : decode cX1_addTrader 36 = .ok (.getfield 36, 3) := by decide +kernel
theorem dX1_addTrader_39 : decode cX1_addTrader 39 = .ok (.iconst 1, 1) := by decide +kernel
theorem dX1_addTrader_40 : decode cX1_addTrader 40 = .ok (.iadd, 1) := by decide +kernel
theorem dX1_addTrader_41 : decode cX1_addTrader 41 = .ok (.putfield 36, 3) := by decide +kernel
theorem dX1_addTrader_44 : decode cX1_addTrader 44 = .ok (.aload_n 0, 1) := by decide +kernel
theorem dX1_addTrader_45 : decode cX1_addTrader 45 = .ok (.getfield 36, 3) := by decide +kernel
theorem dX1_addTrader_48 : decode cX1_addTrader 48 = .ok (.iconst 1, 1) := by decide +kernel
theorem dX1_addTrader_49 : decode cX1_addTrader 49 = .ok (.isub, 1) := by decide +kernel
theorem dX1_addTrader_50 : decode cX1_addTrader 50 = .ok (.ireturn, 1) := by decide +kernel
theorem dX1_can_0 : decode cX1_can 0 = .ok (.aload_n 0, 1) := by decide +kernel
theorem dX1_can_1 : decode cX1_can 1 = .ok (.aload_n 0, 1) := by decide +kernel
theorem dX1_can_2 : decode cX1_can 2 = .ok (.iload_n 1, 1) := by decide +kernel
theorem dX1_can_3 : decode cX1_can 3 = .ok (.invokevirtual 71, 3) := by decide +kernel
theorem dX1_can_6 : decode cX1_can 6 = .ok (.ifCond .eq 11, 3) := by decide +kernel
theorem dX1_can_9 : decode cX1_can 9 = .ok (.aload_n 0, 1) := by decide +kernel
theorem dX1_can_10 : decode cX1_can 10 = .ok (.iload_n 2, 1) := by decide +kernel
theorem dX1_can_11 : decode cX1_can 11 = .ok (.invokevirtual 75, 3) := by decide +kernel
theorem dX1_can_14 : decode cX1_can 14 = .ok (.ifCond .ne 7, 3) := by decide +kernel
theorem dX1_can_17 : decode cX1_can 17 = .ok (.iconst 1, 1) := by decide +kernel
theorem dX1_can_18 : decode cX1_can 18 = .ok (.goto 18, 3) := by decide +kernel
theorem dX1_can_21 : decode cX1_can 21 = .ok (.iload_n 3, 1) := by decide +kernel
theorem dX1_can_22 : decode cX1_can 22 = .ok (.iconst 1, 1) := by decide +kernel
theorem dX1_can_23 : decode cX1_can 23 = .ok (.bipush 9, 2) := by decide +kernel
theorem dX1_can_25 : decode cX1_can 25 = .ok (.invokestatic 32, 3) := by decide +kernel
theorem dX1_can_28 : decode cX1_can 28 = .ok (.ifCond .eq 7, 3) := by decide +kernel
theorem dX1_can_31 : decode cX1_can 31 = .ok (.iconst 0, 1) := by decide +kernel
theorem dX1_can_32 : decode cX1_can 32 = .ok (.goto 4, 3) := by decide +kernel
theorem dX1_can_35 : decode cX1_can 35 = .ok (.iconst 2, 1) := by decide +kernel
theorem dX1_can_36 : decode cX1_can 36 = .ok (.putfield 25, 3) := by decide +kernel
theorem dX1_can_39 : decode cX1_can 39 = .ok (.aload_n 0, 1) := by decide +kernel
theorem dX1_can_40 : decode cX1_can 40 = .ok (.getfield 25, 3) := by decide +kernel
theorem dX1_can_43 : decode cX1_can 43 = .ok (.ifCond .ne 7, 3) := by decide +kernel
theorem dX1_can_46 : decode cX1_can 46 = .ok (.iconst 1, 1) := by decide +kernel
theorem dX1_can_47 : decode cX1_can 47 = .ok (.goto 4, 3) := by decide +kernel
theorem dX1_can_50 : decode cX1_can 50 = .ok (.iconst 0, 1) := by decide +kernel
theorem dX1_can_51 : decode cX1_can 51 = .ok (.ireturn, 1) := by decide +kernel
theorem dX1_buy_0 : decode cX1_buy 0 = .ok (.aload_n 0, 1) := by decide +kernel
theorem dX1_buy_1 : decode cX1_buy 1 = .ok (.iload_n 1, 1) := by decide +kernel
theorem dX1_buy_2 : decode cX1_buy 2 = .ok (.iload_n 2, 1) := by decide +kernel
theorem dX1_buy_3 : decode cX1_buy 3 = .ok (.iload_n 3, 1) := by decide +kernel
theorem dX1_buy_4 : decode cX1_buy 4 = .ok (.invokevirtual 78, 3) := by decide +kernel
theorem dX1_buy_7 : decode cX1_buy 7 = .ok (.ifCond .ne 5, 3) := by decide +kernel
theorem dX1_buy_10 : decode cX1_buy 10 = .ok (.iconst 0, 1) := by decide +kernel
theorem dX1_buy_11 : decode cX1_buy 11 = .ok (.ireturn, 1) := by decide +kernel
theorem dX1_buy_12 : decode cX1_buy 12 = .ok (.aload_n 0, 1) := by decide +kernel
theorem dX1_buy_13 : decode cX1_buy 13 = .ok (.iload_n 2, 1) := by decide +kernel
theorem dX1_buy_14 : decode cX1_buy 14 = .ok (.invokevirtual 61, 3) := by decide +kernel
theorem dX1_buy_17 : decode cX1_buy 17 = .ok (.iload_n 3, 1) := by decide +kernel
theorem dX1_buy_18 : decode cX1_buy 18 = .ok (.imul, 1) := by decide +kernel
theorem dX1_buy_19 : decode cX1_buy 19 = .ok (.istore 4, 2) := by decide +kernel
theorem dX1_buy_21 : decode cX1_buy 21 = .ok (.aload_n 0, 1) := by decide +kernel
theorem dX1_buy_22 : decode cX1_buy 22 = .ok (.getfield 19, 3) := by decide +kernel
theorem dX1_buy_25 : decode cX1_buy 25 = .ok (.iload_n 1, 1) := by decide +kernel
theorem dX1_buy_26 : decode cX1_buy 26 = .ok (.iload_n 2, 1) := by decide +kernel
theorem dX1_buy_27 : decode cX1_buy 27 = .ok (.invokestatic 45, 3) := by decide +kernel
theorem dX1_buy_30 : decode cX1_buy 30 = .ok (.iaload, 1) := by decide +kernel
theorem dX1_buy_31 : decode cX1_buy 31 = .ok (.iload_n 3, 1) := by decide +kernel
theorem dX1_buy_32 : decode cX1_buy 32 = .ok (.iadd, 1) := by decide +kernel
theorem dX1_buy_33 : decode cX1_buy 33 = .ok (.bipush 9, 2) := by decide +kernel
theorem dX1_buy_35 : decode cX1_buy 35 = .ok (.if_icmp .gt 17, 3) := by decide +kernel
theorem dX1_buy_38 : decode cX1_buy 38 = .ok (.aload_n 0, 1) := by decide +kernel
theorem dX1_buy_39 : decode cX1_buy 39 = .ok (.getfield 19, 3) := by decide +kernel
theorem dX1_buy_42 : decode cX1_buy 42 = .ok (.bipush 17, 2) := by decide +kernel
theorem dX1_buy_44 : decode cX1_buy 44 = .ok (.iload_n 1, 1) := by decide +kernel
theorem dX1_buy_45 : decode cX1_buy 45 = .ok (.iadd, 1) := by decide +kernel
theorem dX1_buy_46 : decode cX1_buy 46 = .ok (.iaload, 1) := by decide +kernel
theorem dX1_buy_47 : decode cX1_buy 47 = .ok (.iload 4, 2) := by decide +kernel
theorem dX1_buy_49 : decode cX1_buy 49 = .ok (.if_icmp .ge 9, 3) := by decide +kernel
theorem dX1_buy_52 : decode cX1_buy 52 = .ok (.aload_n 0, 1) := by decide +kernel
theorem dX1_buy_53 : decode cX1_buy 53 = .ok (.iconst 3, 1) := by decide +kernel
theorem dX1_buy_54 : decode cX1_buy 54 = .ok (.invokevirtual 68, 3) := by decide +kernel
theorem dX1_buy_57 : decode cX1_buy 57 = .ok (.ireturn, 1) := by decide +kernel
theorem dX1_buy_58 : decode cX1_buy 58 = .ok (.aload_n 0, 1) := by decide +kernel
theorem dX1_buy_59 : decode cX1_buy 59 = .ok (.getfield 19, 3) := by decide +kernel
theorem dX1_buy_62 : decode cX1_buy 62 = .ok (.iload_n 1, 1) := by decide +kernel
theorem dX1_buy_63 : decode cX1_buy 63 = .ok (.iload_n 2, 1) := by decide +kernel
theorem dX1_buy_64 : decode cX1_buy 64 = .ok (.invokestatic 45, 3) := by decide +kernel
theorem dX1_buy_67 : decode cX1_buy 67 = .ok (.dup2, 1) := by decide +kernel
theorem dX1_buy_68 : decode cX1_buy 68 = .ok (.iaload, 1) := by decide +kernel
theorem dX1_buy_69 : decode cX1_buy 69 = .ok (.iload_n 3, 1) := by decide +kernel
theorem dX1_buy_70 : decode cX1_buy 70 = .ok (.iadd, 1) := by decide +kernel
theorem dX1_buy_71 : decode cX1_buy 71 = .ok (.iastore, 1) := by decide +kernel
theorem dX1_buy_72 : decode cX1_buy 72 = .ok (.aload_n 0, 1) := by decide +kernel
theorem dX1_buy_73 : decode cX1_buy 73 = .ok (.getfield 19, 3) := by decide +kernel
theorem dX1_buy_76 : decode cX1_buy 76 = .ok (.bipush 17, 2) := by decide +kernel
theorem dX1_buy_78 : decode cX1_buy 78 = .ok (.iload_n 1, 1) := by decide +kernel
theorem dX1_buy_79 : decode cX1_buy 79 = .ok (.iadd, 1) := by decide +kernel
theorem dX1_buy_80 : decode cX1_buy 80 = .ok (.dup2, 1) := by decide +kernel
theorem dX1_buy_81 : decode cX1_buy 81 = .ok (.iaload, 1) := by decide +kernel
theorem dX1_buy_82 : decode cX1_buy 82 = .ok (.iload 4, 2) := by decide +kernel
theorem dX1_buy_84 : decode cX1_buy 84 = .ok (.isub, 1) := by decide +kernel
theorem dX1_buy_85 : decode cX1_buy 85 = .ok (.iastore, 1) := by decide +kernel
theorem dX1_buy_86 : decode cX1_buy 86 = .ok (.iload 4, 2) := by decide +kernel
theorem dX1_buy_88 : decode cX1_buy 88 = .ok (.ireturn, 1) := by decide +kernel
theorem dX1_sold_0 : decode cX1_sold 0 = .ok (.aload_n 0, 1) := by decide +kernel
theorem dX1_sold_1 : decode cX1_sold 1 = .ok (.iload_n 2, 1) := by decide +kernel
theorem dX1_sold_2 : decode cX1_sold 2 = .ok (.invokevirtual 61, 3) := by decide +kernel
theorem dX1_sold_5 : decode cX1_sold 5 = .ok (.iload_n 3, 1) := by decide +kernel
theorem dX1_sold_6 : decode cX1_sold 6 = .ok (.imul, 1) := by decide +kernel
theorem dX1_sold_7 : decode cX1_sold 7 = .ok (.istore 4, 2) := by decide +kernel
theorem dX1_sold_9 : decode cX1_sold 9 = .ok (.aload_n 0, 1) := by decide +kernel
theorem dX1_sold_10 : decode cX1_sold 10 = .ok (.getfield 19, 3) := by decide +kernel
theorem dX1_sold_13 : decode cX1_sold 13 = .ok (.iload_n 1, 1) := by decide +kernel
theorem dX1_sold_14 : decode cX1_sold 14 = .ok (.iload_n 2, 1) := by decide +kernel
theorem dX1_sold_15 : decode cX1_sold 15 = .ok (.invokestatic 45, 3) := by decide +kernel
theorem dX1_sold_18 : decode cX1_sold 18 = .ok (.dup2, 1) := by decide +kernel
theorem dX1_sold_19 : decode cX1_sold 19 = .ok (.iaload, 1) := by decide +kernel
theorem dX1_sold_20 : decode cX1_sold 20 = .ok (.iload_n 3, 1) := by decide +kernel
theorem dX1_sold_21 : decode cX1_sold 21 = .ok (.isub, 1) := by decide +kernel
theorem dX1_sold_22 : decode cX1_sold 22 = .ok (.iastore, 1) := by decide +kernel
theorem dX1_sold_23 : decode cX1_sold 23 = .ok (.aload_n 0, 1) := by decide +kernel
theorem dX1_sold_24 : decode cX1_sold 24 = .ok (.getfield 19, 3) := by decide +kernel
theorem dX1_sold_27 : decode cX1_sold 27 = .ok (.bipush 17, 2) := by decide +kernel
theorem dX1_sold_29 : decode cX1_sold 29 = .ok (.iload_n 1, 1) := by decide +kernel
theorem dX1_sold_30 : decode cX1_sold 30 = .ok (.iadd, 1) := by decide +kernel
theorem dX1_sold_31 : decode cX1_sold 31 = .ok (.dup2, 1) := by decide +kernel
theorem dX1_sold_32 : decode cX1_sold 32 = .ok (.iaload, 1) := by decide +kernel
theorem dX1_sold_33 : decode cX1_sold 33 = .ok (.iload 4, 2) := by decide +kernel
theorem dX1_sold_35 : decode cX1_sold 35 = .ok (.iadd, 1) := by decide +kernel
theorem dX1_sold_36 : decode cX1_sold 36 = .ok (.iastore, 1) := by decide +kernel
theorem dX1_sold_37 : decode cX1_sold 37 = .ok (.iload 4, 2) := by decide +kernel
theorem dX1_sold_39 : decode cX1_sold 39 = .ok (.ireturn, 1) := by decide +kernel
theorem dX1_sell_0 : decode cX1_sell 0 = .ok (.aload_n 0, 1) := by decide +kernel
theorem dX1_sell_1 : decode cX1_sell 1 = .ok (.iload_n 1, 1) := by decide +kernel
theorem dX1_sell_2 : decode cX1_sell 2 = .ok (.iload_n 2, 1) := by decide +kernel
theorem dX1_sell_3 : decode cX1_sell 3 = .ok (.iload_n 3, 1) := by decide +kernel
theorem dX1_sell_4 : decode cX1_sell 4 = .ok (.invokevirtual 78, 3) := by decide +kernel
theorem dX1_sell_7 : decode cX1_sell 7 = .ok (.ifCond .ne 5, 3) := by decide +kernel
theorem dX1_sell_10 : decode cX1_sell 10 = .ok (.iconst 0, 1) := by decide +kernel
theorem dX1_sell_11 : decode cX1_sell 11 = .ok (.ireturn, 1) := by decide +kernel
theorem dX1_sell_12 : decode cX1_sell 12 = .ok (.aload_n 0, 1) := by decide +kernel
theorem dX1_sell_13 : decode cX1_sell 13 = .ok (.getfield 19, 3) := by decide +kernel
theorem dX1_sell_16 : decode cX1_sell 16 = .ok (.iload_n 1, 1) := by decide +kernel
theorem dX1_sell_17 : decode cX1_sell 17 = .ok (.iload_n 2, 1) := by decide +kernel
theorem dX1_sell_18 : decode cX1_sell 18 = .ok (.invokestatic 45, 3) := by decide +kernel
theorem dX1_sell_21 : decode cX1_sell 21 = .ok (.iaload, 1) := by decide +kernel
theorem dX1_sell_22 : decode cX1_sell 22 = .ok (.iload_n 3, 1) := by decide +kernel
theorem dX1_sell_23 : decode cX1_sell 23 = .ok (.isub, 1) := by decide +kernel
theorem dX1_sell_24 : decode cX1_sell 24 = .ok (.bipush (-9), 2) := by decide +kernel
theorem dX1_sell_26 : decode cX1_sell 26 = .ok (.if_icmp .ge 11, 3) := by decide +kernel
theorem dX1_sell_29 : decode cX1_sell 29 = .ok (.aload_n 0, 1) := by decide +kernel
theorem dX1_sell_30 : decode cX1_sell 30 = .ok (.iconst 3, 1) := by decide +kernel
theorem dX1_sell_31 : decode cX1_sell 31 = .ok (.invokevirtual 68, 3) := by decide +kernel
theorem dX1_sell_34 : decode cX1_sell 34 = .ok (.goto 10, 3) := by decide +kernel
theorem dX1_sell_37 : decode cX1_sell 37 = .ok (.aload_n 0, 1) := by decide +kernel
theorem dX1_sell_38 : decode cX1_sell 38 = .ok (.iload_n 1, 1) := by decide +kernel
theorem dX1_sell_39 : decode cX1_sell 39 = .ok (.iload_n 2, 1) := by decide +kernel
theorem dX1_sell_40 : decode cX1_sell 40 = .ok (.iload_n 3, 1) := by decide +kernel
theorem dX1_sell_41 : decode cX1_sell 41 = .ok (.invokevirtual 81, 3) := by decide +kernel
theorem dX1_sell_44 : decode cX1_sell 44 = .ok (.ireturn, 1) := by decide +kernel
theorem dX1_pass_0 : decode cX1_pass 0 = .ok (.aload_n 0, 1) := by decide +kernel
theorem dX1_pass_1 : decode cX1_pass 1 = .ok (.iconst 0, 1) := by decide +kernel
theorem dX1_pass_2 : decode cX1_pass 2 = .ok (.putfield 25, 3) := by decide +kernel
theorem dX1_pass_5 : decode cX1_pass 5 = .ok (.iload_n 1, 1) := by decide +kernel
theorem dX1_pass_6 : decode cX1_pass 6 = .ok (.iconst 1, 1) := by decide +kernel
theorem dX1_pass_7 : decode cX1_pass 7 = .ok (.bipush 60, 2) := by decide +kernel
theorem dX1_pass_9 : decode cX1_pass 9 = .ok (.invokestatic 32, 3) := by decide +kernel
theorem dX1_pass_12 : decode cX1_pass 12 = .ok (.ifCond .eq 11, 3) := by decide +kernel
theorem dX1_pass_15 : decode cX1_pass 15 = .ok (.aload_n 0, 1) := by decide +kernel
theorem dX1_pass_16 : decode cX1_pass 16 = .ok (.iload_n 1, 1) := by decide +kernel
theorem dX1_pass_17 : decode cX1_pass 17 = .ok (.invokevirtual 85, 3) := by decide +kernel
theorem dX1_pass_20 : decode cX1_pass 20 = .ok (.goto 8, 3) := by decide +kernel
theorem dX1_pass_23 : decode cX1_pass 23 = .ok (.aload_n 0, 1) := by decide +kernel
theorem dX1_pass_24 : decode cX1_pass 24 = .ok (.iconst 1, 1) := by decide +kernel
theorem dX1_pass_25 : decode cX1_pass 25 = .ok (.invokevirtual 68, 3) := by decide +kernel
theorem dX1_pass_28 : decode cX1_pass 28 = .ok (.ireturn, 1) := by decide +kernel
theorem dX1_second_0 : decode cX1_second 0 = .ok (.aload_n 0, 1) := by decide +kernel
theorem dX1_second_1 : decode cX1_second 1 = .ok (.aload_n 0, 1) := by decide +kernel
theorem dX1_second_2 : decode cX1_second 2 = .ok (.getfield 19, 3) := by decide +kernel
theorem dX1_second_5 : decode cX1_second 5 = .ok (.iconst 0, 1) := by decide +kernel
theorem dX1_second_6 : decode cX1_second 6 = .ok (.iaload, 1) := by decide +kernel
theorem dX1_second_7 : decode cX1_second 7 = .ok (.invokevirtual 88, 3) := by decide +kernel
theorem dX1_second_10 : decode cX1_second 10 = .ok (.ireturn, 1) := by decide +kernel
theorem dX1_towers_0 : decode cX1_towers 0 = .ok (.aload_n 0, 1) := by decide +kernel
theorem dX1_towers_1 : decode cX1_towers 1 = .ok (.aload_n 0, 1) := by decide +kernel
theorem dX1_towers_2 : decode cX1_towers 2 = .ok (.getfield 29, 3) := by decide +kernel
theorem dX1_towers_5 : decode cX1_towers 5 = .ok (.invokevirtual 88, 3) := by decide +kernel
theorem dX1_towers_8 : decode cX1_towers 8 = .ok (.ireturn, 1) := by decide +kernel
theorem dX1_silenceOf_0 : decode cX1_silenceOf 0 = .ok (.aload_n 0, 1) := by decide +kernel
theorem dX1_silenceOf_1 : decode cX1_silenceOf 1 = .ok (.iconst 0, 1) := by decide +kernel
theorem dX1_silenceOf_2 : decode cX1_silenceOf 2 = .ok (.putfield 25, 3) := by decide +kernel
theorem dX1_silenceOf_5 : decode cX1_silenceOf 5 = .ok (.aload_n 0, 1) := by decide +kernel
theorem dX1_silenceOf_6 : decode cX1_silenceOf 6 = .ok (.iload_n 1, 1) := by decide +kernel
theorem dX1_silenceOf_7 : decode cX1_silenceOf 7 = .ok (.invokevirtual 75, 3) := by decide +kernel
theorem dX1_silenceOf_10 : decode cX1_silenceOf 10 = .ok (.ifCond .eq 14, 3) := by decide +kernel
theorem dX1_silenceOf_13 : decode cX1_silenceOf 13 = .ok (.aload_n 0, 1) := by decide +kernel
theorem dX1_silenceOf_14 : decode cX1_silenceOf 14 = .ok (.getfield 19, 3) := by decide +kernel
theorem dX1_silenceOf_17 : decode cX1_silenceOf 17 = .ok (.iconst 1, 1) := by decide +kernel
theorem dX1_silenceOf_18 : decode cX1_silenceOf 18 = .ok (.iload_n 1, 1) := by decide +kernel
theorem dX1_silenceOf_19 : decode cX1_silenceOf 19 = .ok (.iadd, 1) := by decide +kernel
theorem dX1_silenceOf_20 : decode cX1_silenceOf 20 = .ok (.iaload, 1) := by decide +kernel
theorem dX1_silenceOf_21 : decode cX1_silenceOf 21 = .ok (.goto 8, 3) := by decide +kernel
theorem dX1_silenceOf_24 : decode cX1_silenceOf 24 = .ok (.aload_n 0, 1) := by decide +kernel
theorem dX1_silenceOf_25 : decode cX1_silenceOf 25 = .ok (.iconst 1, 1) := by decide +kernel
theorem dX1_silenceOf_26 : decode cX1_silenceOf 26 = .ok (.invokevirtual 68, 3) := by decide +kernel
theorem dX1_silenceOf_29 : decode cX1_silenceOf 29 = .ok (.ireturn, 1) := by decide +kernel
theorem dX1_dovesOn_0 : decode cX1_dovesOn 0 = .ok (.aload_n 0, 1) := by decide +kernel
theorem dX1_dovesOn_1 : decode cX1_dovesOn 1 = .ok (.iconst 0, 1) := by decide +kernel
theorem dX1_dovesOn_2 : decode cX1_dovesOn 2 = .ok (.putfield 25, 3) := by decide +kernel
theorem dX1_dovesOn_5 : decode cX1_dovesOn 5 = .ok (.aload_n 0, 1) := by decide +kernel
theorem dX1_dovesOn_6 : decode cX1_dovesOn 6 = .ok (.iload_n 1, 1) := by decide +kernel
theorem dX1_dovesOn_7 : decode cX1_dovesOn 7 = .ok (.invokevirtual 75, 3) := by decide +kernel
theorem dX1_dovesOn_10 : decode cX1_dovesOn 10 = .ok (.ifCond .eq 11, 3) := by decide +kernel
theorem dX1_dovesOn_13 : decode cX1_dovesOn 13 = .ok (.aload_n 0, 1) := by decide +kernel
theorem dX1_dovesOn_14 : decode cX1_dovesOn 14 = .ok (.iload_n 1, 1) := by decide +kernel
theorem dX1_dovesOn_15 : decode cX1_dovesOn 15 = .ok (.invokevirtual 54, 3) := by decide +kernel
theorem dX1_dovesOn_18 : decode cX1_dovesOn 18 = .ok (.goto 8, 3) := by decide +kernel
theorem dX1_dovesOn_21 : decode cX1_dovesOn 21 = .ok (.aload_n 0, 1) := by decide +kernel
theorem dX1_dovesOn_22 : decode cX1_dovesOn 22 = .ok (.iconst 1, 1) := by decide +kernel
theorem dX1_dovesOn_23 : decode cX1_dovesOn 23 = .ok (.invokevirtual 68, 3) := by decide +kernel
theorem dX1_dovesOn_26 : decode cX1_dovesOn 26 = .ok (.ireturn, 1) := by decide +kernel
theorem dX1_priceOf_0 : decode cX1_priceOf 0 = .ok (.aload_n 0, 1) := by decide +kernel
theorem dX1_priceOf_1 : decode cX1_priceOf 1 = .ok (.iconst 0, 1) := by decide +kernel
theorem dX1_priceOf_2 : decode cX1_priceOf 2 = .ok (.putfield 25, 3) := by decide +kernel
theorem dX1_priceOf_5 : decode cX1_priceOf 5 = .ok (.aload_n 0, 1) := by decide +kernel
theorem dX1_priceOf_6 : decode cX1_priceOf 6 = .ok (.iload_n 1, 1) := by decide +kernel
theorem dX1_priceOf_7 : decode cX1_priceOf 7 = .ok (.invokevirtual 75, 3) := by decide +kernel
theorem dX1_priceOf_10 : decode cX1_priceOf 10 = .ok (.ifCond .eq 11, 3) := by decide +kernel
theorem dX1_priceOf_13 : decode cX1_priceOf 13 = .ok (.aload_n 0, 1) := by decide +kernel
theorem dX1_priceOf_14 : decode cX1_priceOf 14 = .ok (.iload_n 1, 1) := by decide +kernel
theorem dX1_priceOf_15 : decode cX1_priceOf 15 = .ok (.invokevirtual 61, 3) := by decide +kernel
theorem dX1_priceOf_18 : decode cX1_priceOf 18 = .ok (.goto 8, 3) := by decide +kernel
theorem dX1_priceOf_21 : decode cX1_priceOf 21 = .ok (.aload_n 0, 1) := by decide +kernel
theorem dX1_priceOf_22 : decode cX1_priceOf 22 = .ok (.iconst 1, 1) := by decide +kernel
theorem dX1_priceOf_23 : decode cX1_priceOf 23 = .ok (.invokevirtual 68, 3) := by decide +kernel
theorem dX1_priceOf_26 : decode cX1_priceOf 26 = .ok (.ireturn, 1) := by decide +kernel
theorem dX1_secondsUntilStroke_0 : decode cX1_secondsUntilStroke 0 = .ok (.aload_n 0, 1) := by decide +kernel
theorem dX1_secondsUntilStroke_1 : decode cX1_secondsUntilStroke 1 = .ok (.iconst 0, 1) := by decide +kernel
theorem dX1_secondsUntilStroke_2 : decode cX1_secondsUntilStroke 2 = .ok (.putfield 25, 3) := by decide +kernel
theorem dX1_secondsUntilStroke_5 : decode cX1_secondsUntilStroke 5 = .ok (.aload_n 0, 1) := by decide +kernel
theorem dX1_secondsUntilStroke_6 : decode cX1_secondsUntilStroke 6 = .ok (.iload_n 1, 1) := by decide +kernel
theorem dX1_secondsUntilStroke_7 : decode cX1_secondsUntilStroke 7 = .ok (.invokevirtual 75, 3) := by decide +kernel
theorem dX1_secondsUntilStroke_10 : decode cX1_secondsUntilStroke 10 = .ok (.ifCond .eq 11, 3) := by decide +kernel
theorem dX1_secondsUntilStroke_13 : decode cX1_secondsUntilStroke 13 = .ok (.aload_n 0, 1) := by decide +kernel
theorem dX1_secondsUntilStroke_14 : decode cX1_secondsUntilStroke 14 = .ok (.iload_n 1, 1) := by decide +kernel
theorem dX1_secondsUntilStroke_15 : decode cX1_secondsUntilStroke 15 = .ok (.invokevirtual 91, 3) := by decide +kernel
theorem dX1_secondsUntilStroke_18 : decode cX1_secondsUntilStroke 18 = .ok (.goto 8, 3) := by decide +kernel
theorem dX1_secondsUntilStroke_21 : decode cX1_secondsUntilStroke 21 = .ok (.aload_n 0, 1) := by decide +kernel
theorem dX1_secondsUntilStroke_22 : decode cX1_secondsUntilStroke 22 = .ok (.iconst 1, 1) := by decide +kernel
theorem dX1_secondsUntilStroke_23 : decode cX1_secondsUntilStroke 23 = .ok (.invokevirtual 68, 3) := by decide +kernel
theorem dX1_secondsUntilStroke_26 : decode cX1_secondsUntilStroke 26 = .ok (.ireturn, 1) := by decide +kernel
theorem dX1_strokesOf_0 : decode cX1_strokesOf 0 = .ok (.aload_n 0, 1) := by decide +kernel
theorem dX1_strokesOf_1 : decode cX1_strokesOf 1 = .ok (.iconst 0, 1) := by decide +kernel
theorem dX1_strokesOf_2 : decode cX1_strokesOf 2 = .ok (.putfield 25, 3) := by decide +kernel
theorem dX1_strokesOf_5 : decode cX1_strokesOf 5 = .ok (.aload_n 0, 1) := by decide +kernel
theorem dX1_strokesOf_6 : decode cX1_strokesOf 6 = .ok (.iload_n 1, 1) := by decide +kernel
theorem dX1_strokesOf_7 : decode cX1_strokesOf 7 = .ok (.invokevirtual 75, 3) := by decide +kernel
theorem dX1_strokesOf_10 : decode cX1_strokesOf 10 = .ok (.ifCond .eq 15, 3) := by decide +kernel
theorem dX1_strokesOf_13 : decode cX1_strokesOf 13 = .ok (.aload_n 0, 1) := by decide +kernel
theorem dX1_strokesOf_14 : decode cX1_strokesOf 14 = .ok (.getfield 19, 3) := by decide +kernel
theorem dX1_strokesOf_17 : decode cX1_strokesOf 17 = .ok (.bipush 9, 2) := by decide +kernel
theorem dX1_strokesOf_19 : decode cX1_strokesOf 19 = .ok (.iload_n 1, 1) := by decide +kernel
theorem dX1_strokesOf_20 : decode cX1_strokesOf 20 = .ok (.iadd, 1) := by decide +kernel
theorem dX1_strokesOf_21 : decode cX1_strokesOf 21 = .ok (.iaload, 1) := by decide +kernel
theorem dX1_strokesOf_22 : decode cX1_strokesOf 22 = .ok (.goto 8, 3) := by decide +kernel
theorem dX1_strokesOf_25 : decode cX1_strokesOf 25 = .ok (.aload_n 0, 1) := by decide +kernel
theorem dX1_strokesOf_26 : decode cX1_strokesOf 26 = .ok (.iconst 1, 1) := by decide +kernel
theorem dX1_strokesOf_27 : decode cX1_strokesOf 27 = .ok (.invokevirtual 68, 3) := by decide +kernel
theorem dX1_strokesOf_30 : decode cX1_strokesOf 30 = .ok (.ireturn, 1) := by decide +kernel
theorem dX1_open_0 : decode cX1_open 0 = .ok (.iconst 0, 1) := by decide +kernel
theorem dX1_open_1 : decode cX1_open 1 = .ok (.istore_n 2, 1) := by decide +kernel
theorem dX1_open_2 : decode cX1_open 2 = .ok (.iconst 0, 1) := by decide +kernel
theorem dX1_open_3 : decode cX1_open 3 = .ok (.istore_n 3, 1) := by decide +kernel
theorem dX1_open_4 : decode cX1_open 4 = .ok (.iload_n 3, 1) := by decide +kernel
theorem dX1_open_5 : decode cX1_open 5 = .ok (.aload_n 0, 1) := by decide +kernel
theorem dX1_open_6 : decode cX1_open 6 = .ok (.getfield 36, 3) := by decide +kernel
theorem dX1_open_9 : decode cX1_open 9 = .ok (.if_icmp .ge 22, 3) := by decide +kernel
theorem dX1_open_12 : decode cX1_open 12 = .ok (.iload_n 2, 1) := by decide +kernel
theorem dX1_open_13 : decode cX1_open 13 = .ok (.aload_n 0, 1) := by decide +kernel
theorem dX1_open_14 : decode cX1_open 14 = .ok (.getfield 19, 3) := by decide +kernel
theorem dX1_open_17 : decode cX1_open 17 = .ok (.iload_n 3, 1) := by decide +kernel
theorem dX1_open_18 : decode cX1_open 18 = .ok (.iload_n 1, 1) := by decide +kernel
theorem dX1_open_19 : decode cX1_open 19 = .ok (.invokestatic 45, 3) := by decide +kernel
theorem dX1_open_22 : decode cX1_open 22 = .ok (.iaload, 1) := by decide +kernel
theorem dX1_open_23 : decode cX1_open 23 = .ok (.iadd, 1) := by decide +kernel
theorem dX1_open_24 : decode cX1_open 24 = .ok (.istore_n 2, 1) := by decide +kernel
theorem dX1_open_25 : decode cX1_open 25 = .ok (.iinc 3 1, 3) := by decide +kernel
theorem dX1_open_28 : decode cX1_open 28 = .ok (.goto (-24), 3) := by decide +kernel
theorem dX1_open_31 : decode cX1_open 31 = .ok (.iload_n 2, 1) := by decide +kernel
theorem dX1_open_32 : decode cX1_open 32 = .ok (.ireturn, 1) := by decide +kernel
theorem dX1_openSeconds_0 : decode cX1_openSeconds 0 = .ok (.aload_n 0, 1) := by decide +kernel
theorem dX1_openSeconds_1 : decode cX1_openSeconds 1 = .ok (.iconst 0, 1) := by decide +kernel
theorem dX1_openSeconds_2 : decode cX1_openSeconds 2 = .ok (.putfield 25, 3) := by decide +kernel
theorem dX1_openSeconds_5 : decode cX1_openSeconds 5 = .ok (.aload_n 0, 1) := by decide +kernel
theorem dX1_openSeconds_6 : decode cX1_openSeconds 6 = .ok (.iload_n 1, 1) := by decide +kernel
theorem dX1_openSeconds_7 : decode cX1_openSeconds 7 = .ok (.invokevirtual 75, 3) := by decide +kernel
theorem dX1_openSeconds_10 : decode cX1_openSeconds 10 = .ok (.ifCond .eq 11, 3) := by decide +kernel
theorem dX1_openSeconds_13 : decode cX1_openSeconds 13 = .ok (.aload_n 0, 1) := by decide +kernel
theorem dX1_openSeconds_14 : decode cX1_openSeconds 14 = .ok (.iload_n 1, 1) := by decide +kernel
theorem dX1_openSeconds_15 : decode cX1_openSeconds 15 = .ok (.invokevirtual 94, 3) := by decide +kernel
theorem dX1_openSeconds_18 : decode cX1_openSeconds 18 = .ok (.goto 8, 3) := by decide +kernel
theorem dX1_openSeconds_21 : decode cX1_openSeconds 21 = .ok (.aload_n 0, 1) := by decide +kernel
theorem dX1_openSeconds_22 : decode cX1_openSeconds 22 = .ok (.iconst 1, 1) := by decide +kernel
theorem dX1_openSeconds_23 : decode cX1_openSeconds 23 = .ok (.invokevirtual 68, 3) := by decide +kernel
theorem dX1_openSeconds_26 : decode cX1_openSeconds 26 = .ok (.ireturn, 1) := by decide +kernel
theorem dX1_dear_0 : decode cX1_dear 0 = .ok (.iconst (-1), 1) := by decide +kernel
theorem dX1_dear_1 : decode cX1_dear 1 = .ok (.istore_n 1, 1) := by decide +kernel
theorem dX1_dear_2 : decode cX1_dear 2 = .ok (.iconst 0, 1) := by decide +kernel
theorem dX1_dear_3 : decode cX1_dear 3 = .ok (.istore_n 2, 1) := by decide +kernel
theorem dX1_dear_4 : decode cX1_dear 4 = .ok (.iload_n 2, 1) := by decide +kernel
theorem dX1_dear_5 : decode cX1_dear 5 = .ok (.aload_n 0, 1) := by decide +kernel
theorem dX1_dear_6 : decode cX1_dear 6 = .ok (.getfield 29, 3) := by decide +kernel
theorem dX1_dear_9 : decode cX1_dear 9 = .ok (.if_icmp .ge 29, 3) := by decide +kernel
theorem dX1_dear_12 : decode cX1_dear 12 = .ok (.iload_n 1, 1) := by decide +kernel
theorem dX1_dear_13 : decode cX1_dear 13 = .ok (.iconst (-1), 1) := by decide +kernel
theorem dX1_dear_14 : decode cX1_dear 14 = .ok (.if_icmp .eq 16, 3) := by decide +kernel
theorem dX1_dear_17 : decode cX1_dear 17 = .ok (.aload_n 0, 1) := by decide +kernel
theorem dX1_dear_18 : decode cX1_dear 18 = .ok (.iload_n 2, 1) := by decide +kernel
theorem dX1_dear_19 : decode cX1_dear 19 = .ok (.invokevirtual 61, 3) := by decide +kernel
theorem dX1_dear_22 : decode cX1_dear 22 = .ok (.aload_n 0, 1) := by decide +kernel
theorem dX1_dear_23 : decode cX1_dear 23 = .ok (.iload_n 1, 1) := by decide +kernel
theorem dX1_dear_24 : decode cX1_dear 24 = .ok (.invokevirtual 61, 3) := by decide +kernel
theorem dX1_dear_27 : decode cX1_dear 27 = .ok (.if_icmp .le 5, 3) := by decide +kernel
theorem dX1_dear_30 : decode cX1_dear 30 = .ok (.iload_n 2, 1) := by decide +kernel
theorem dX1_dear_31 : decode cX1_dear 31 = .ok (.istore_n 1, 1) := by decide +kernel
theorem dX1_dear_32 : decode cX1_dear 32 = .ok (.iinc 2 1, 3) := by decide +kernel
theorem dX1_dear_35 : decode cX1_dear 35 = .ok (.goto (-31), 3) := by decide +kernel
theorem dX1_dear_38 : decode cX1_dear 38 = .ok (.iload_n 1, 1) := by decide +kernel
theorem dX1_dear_39 : decode cX1_dear 39 = .ok (.ireturn, 1) := by decide +kernel
theorem dX1_dearest_0 : decode cX1_dearest 0 = .ok (.aload_n 0, 1) := by decide +kernel
theorem dX1_dearest_1 : decode cX1_dearest 1 = .ok (.aload_n 0, 1) := by decide +kernel
theorem dX1_dearest_2 : decode cX1_dearest 2 = .ok (.invokevirtual 97, 3) := by decide +kernel
theorem dX1_dearest_5 : decode cX1_dearest 5 = .ok (.invokevirtual 88, 3) := by decide +kernel
theorem dX1_dearest_8 : decode cX1_dearest 8 = .ok (.ireturn, 1) := by decide +kernel
theorem dX1_next_0 : decode cX1_next 0 = .ok (.iconst (-1), 1) := by decide +kernel
theorem dX1_next_1 : decode cX1_next 1 = .ok (.istore_n 1, 1) := by decide +kernel
theorem dX1_next_2 : decode cX1_next 2 = .ok (.iconst 0, 1) := by decide +kernel
theorem dX1_next_3 : decode cX1_next 3 = .ok (.istore_n 2, 1) := by decide +kernel
theorem dX1_next_4 : decode cX1_next 4 = .ok (.iload_n 2, 1) := by decide +kernel
theorem dX1_next_5 : decode cX1_next 5 = .ok (.aload_n 0, 1) := by decide +kernel
theorem dX1_next_6 : decode cX1_next 6 = .ok (.getfield 29, 3) := by decide +kernel
theorem dX1_next_9 : decode cX1_next 9 = .ok (.if_icmp .ge 29, 3) := by decide +kernel
theorem dX1_next_12 : decode cX1_next 12 = .ok (.iload_n 1, 1) := by decide +kernel
theorem dX1_next_13 : decode cX1_next 13 = .ok (.iconst (-1), 1) := by decide +kernel
theorem dX1_next_14 : decode cX1_next 14 = .ok (.if_icmp .eq 16, 3) := by decide +kernel
theorem dX1_next_17 : decode cX1_next 17 = .ok (.aload_n 0, 1) := by decide +kernel
theorem dX1_next_18 : decode cX1_next 18 = .ok (.iload_n 2, 1) := by decide +kernel
theorem dX1_next_19 : decode cX1_next 19 = .ok (.invokevirtual 91, 3) := by decide +kernel
theorem dX1_next_22 : decode cX1_next 22 = .ok (.aload_n 0, 1) := by decide +kernel
theorem dX1_next_23 : decode cX1_next 23 = .ok (.iload_n 1, 1) := by decide +kernel
theorem dX1_next_24 : decode cX1_next 24 = .ok (.invokevirtual 91, 3) := by decide +kernel
theorem dX1_next_27 : decode cX1_next 27 = .ok (.if_icmp .ge 5, 3) := by decide +kernel
theorem dX1_next_30 : decode cX1_next 30 = .ok (.iload_n 2, 1) := by decide +kernel
theorem dX1_next_31 : decode cX1_next 31 = .ok (.istore_n 1, 1) := by decide +kernel
theorem dX1_next_32 : decode cX1_next 32 = .ok (.iinc 2 1, 3) := by decide +kernel
theorem dX1_next_35 : decode cX1_next 35 = .ok (.goto (-31), 3) := by decide +kernel
theorem dX1_next_38 : decode cX1_next 38 = .ok (.iload_n 1, 1) := by decide +kernel
theorem dX1_next_39 : decode cX1_next 39 = .ok (.ireturn, 1) := by decide +kernel
theorem dX1_nextToStrike_0 : decode cX1_nextToStrike 0 = .ok (.aload_n 0, 1) := by decide +kernel
theorem dX1_nextToStrike_1 : decode cX1_nextToStrike 1 = .ok (.aload_n 0, 1) := by decide +kernel
theorem dX1_nextToStrike_2 : decode cX1_nextToStrike 2 = .ok (.invokevirtual 100, 3) := by decide +kernel
theorem dX1_nextToStrike_5 : decode cX1_nextToStrike 5 = .ok (.invokevirtual 88, 3) := by decide +kernel
theorem dX1_nextToStrike_8 : decode cX1_nextToStrike 8 = .ok (.ireturn, 1) := by decide +kernel
theorem dX1_traders_0 : decode cX1_traders 0 = .ok (.aload_n 0, 1) := by decide +kernel
theorem dX1_traders_1 : decode cX1_traders 1 = .ok (.aload_n 0, 1) := by decide +kernel
theorem dX1_traders_2 : decode cX1_traders 2 = .ok (.getfield 36, 3) := by decide +kernel
theorem dX1_traders_5 : decode cX1_traders 5 = .ok (.invokevirtual 88, 3) := by decide +kernel
theorem dX1_traders_8 : decode cX1_traders 8 = .ok (.ireturn, 1) := by decide +kernel
theorem dX1_purseOf_0 : decode cX1_purseOf 0 = .ok (.aload_n 0, 1) := by decide +kernel
theorem dX1_purseOf_1 : decode cX1_purseOf 1 = .ok (.iconst 0, 1) := by decide +kernel
theorem dX1_purseOf_2 : decode cX1_purseOf 2 = .ok (.putfield 25, 3) := by decide +kernel
theorem dX1_purseOf_5 : decode cX1_purseOf 5 = .ok (.aload_n 0, 1) := by decide +kernel
theorem dX1_purseOf_6 : decode cX1_purseOf 6 = .ok (.iload_n 1, 1) := by decide +kernel
theorem dX1_purseOf_7 : decode cX1_purseOf 7 = .ok (.invokevirtual 71, 3) := by decide +kernel
theorem dX1_purseOf_10 : decode cX1_purseOf 10 = .ok (.ifCond .eq 15, 3) := by decide +kernel
theorem dX1_purseOf_13 : decode cX1_purseOf 13 = .ok (.aload_n 0, 1) := by decide +kernel
theorem dX1_purseOf_14 : decode cX1_purseOf 14 = .ok (.getfield 19, 3) := by decide +kernel
theorem dX1_purseOf_17 : decode cX1_purseOf 17 = .ok (.bipush 17, 2) := by decide +kernel
theorem dX1_purseOf_19 : decode cX1_purseOf 19 = .ok (.iload_n 1, 1) := by decide +kernel
theorem dX1_purseOf_20 : decode cX1_purseOf 20 = .ok (.iadd, 1) := by decide +kernel
theorem dX1_purseOf_21 : decode cX1_purseOf 21 = .ok (.iaload, 1) := by decide +kernel
theorem dX1_purseOf_22 : decode cX1_purseOf 22 = .ok (.goto 8, 3) := by decide +kernel
theorem dX1_purseOf_25 : decode cX1_purseOf 25 = .ok (.aload_n 0, 1) := by decide +kernel
theorem dX1_purseOf_26 : decode cX1_purseOf 26 = .ok (.iconst 1, 1) := by decide +kernel
theorem dX1_purseOf_27 : decode cX1_purseOf 27 = .ok (.invokevirtual 68, 3) := by decide +kernel
theorem dX1_purseOf_30 : decode cX1_purseOf 30 = .ok (.ireturn, 1) := by decide +kernel
theorem dX1_holds_0 : decode cX1_holds 0 = .ok (.aload_n 0, 1) := by decide +kernel
theorem dX1_holds_1 : decode cX1_holds 1 = .ok (.iconst 0, 1) := by decide +kernel
theorem dX1_holds_2 : decode cX1_holds 2 = .ok (.putfield 25, 3) := by decide +kernel
theorem dX1_holds_5 : decode cX1_holds 5 = .ok (.aload_n 0, 1) := by decide +kernel
theorem dX1_holds_6 : decode cX1_holds 6 = .ok (.iload_n 1, 1) := by decide +kernel
theorem dX1_holds_7 : decode cX1_holds 7 = .ok (.invokevirtual 71, 3) := by decide +kernel
theorem dX1_holds_10 : decode cX1_holds 10 = .ok (.ifCond .eq 24, 3) := by decide +kernel
theorem dX1_holds_13 : decode cX1_holds 13 = .ok (.aload_n 0, 1) := by decide +kernel
theorem dX1_holds_14 : decode cX1_holds 14 = .ok (.iload_n 2, 1) := by decide +kernel
theorem dX1_holds_15 : decode cX1_holds 15 = .ok (.invokevirtual 75, 3) := by decide +kernel
theorem dX1_holds_18 : decode cX1_holds 18 = .ok (.ifCond .eq 16, 3) := by decide +kernel
theorem dX1_holds_21 : decode cX1_holds 21 = .ok (.aload_n 0, 1) := by decide +kernel
theorem dX1_holds_22 : decode cX1_holds 22 = .ok (.getfield 19, 3) := by decide +kernel
theorem dX1_holds_25 : decode cX1_holds 25 = .ok (.iload_n 1, 1) := by decide +kernel
theorem dX1_holds_26 : decode cX1_holds 26 = .ok (.iload_n 2, 1) := by decide +kernel
theorem dX1_holds_27 : decode cX1_holds 27 = .ok (.invokestatic 45, 3) := by decide +kernel
theorem dX1_holds_30 : decode cX1_holds 30 = .ok (.iaload, 1) := by decide +kernel
theorem dX1_holds_31 : decode cX1_holds 31 = .ok (.goto 8, 3) := by decide +kernel
theorem dX1_holds_34 : decode cX1_holds 34 = .ok (.aload_n 0, 1) := by decide +kernel
theorem dX1_holds_35 : decode cX1_holds 35 = .ok (.iconst 1, 1) := by decide +kernel
theorem dX1_holds_36 : decode cX1_holds 36 = .ok (.invokevirtual 68, 3) := by decide +kernel
theorem dX1_holds_39 : decode cX1_holds 39 = .ok (.ireturn, 1) := by decide +kernel
theorem dX1_worth_0 : decode cX1_worth 0 = .ok (.aload_n 0, 1) := by decide +kernel
theorem dX1_worth_1 : decode cX1_worth 1 = .ok (.getfield 19, 3) := by decide +kernel
theorem dX1_worth_4 : decode cX1_worth 4 = .ok (.bipush 17, 2) := by decide +kernel
theorem dX1_worth_6 : decode cX1_worth 6 = .ok (.iload_n 1, 1) := by decide +kernel
theorem dX1_worth_7 : decode cX1_worth 7 = .ok (.iadd, 1) := by decide +kernel
theorem dX1_worth_8 : decode cX1_worth 8 = .ok (.iaload, 1) := by decide +kernel
theorem dX1_worth_9 : decode cX1_worth 9 = .ok (.istore_n 2, 1) := by decide +kernel
theorem dX1_worth_10 : decode cX1_worth 10 = .ok (.iconst 0, 1) := by decide +kernel
theorem dX1_worth_11 : decode cX1_worth 11 = .ok (.istore_n 3, 1) := by decide +kernel
theorem dX1_worth_12 : decode cX1_worth 12 = .ok (.iload_n 3, 1) := by decide +kernel
theorem dX1_worth_13 : decode cX1_worth 13 = .ok (.aload_n 0, 1) := by decide +kernel
theorem dX1_worth_14 : decode cX1_worth 14 = .ok (.getfield 29, 3) := by decide +kernel
theorem dX1_worth_17 : decode cX1_worth 17 = .ok (.if_icmp .ge 28, 3) := by decide +kernel
theorem dX1_worth_20 : decode cX1_worth 20 = .ok (.iload_n 2, 1) := by decide +kernel
theorem dX1_worth_21 : decode cX1_worth 21 = .ok (.aload_n 0, 1) := by decide +kernel
theorem dX1_worth_22 : decode cX1_worth 22 = .ok (.iload_n 3, 1) := by decide +kernel
theorem dX1_worth_23 : decode cX1_worth 23 = .ok (.invokevirtual 61, 3) := by decide +kernel
theorem dX1_worth_26 : decode cX1_worth 26 = .ok (.aload_n 0, 1) := by decide +kernel
theorem dX1_worth_27 : decode cX1_worth 27 = .ok (.getfield 19, 3) := by decide +kernel
theorem dX1_worth_30 : decode cX1_worth 30 = .ok (.iload_n 1, 1) := by decide +kernel
theorem dX1_worth_31 : decode cX1_worth 31 = .ok (.iload_n 3, 1) := by decide +kernel
theorem dX1_worth_32 : decode cX1_worth 32 = .ok (.invokestatic 45, 3) := by decide +kernel
theorem dX1_worth_35 : decode cX1_worth 35 = .ok (.iaload, 1) := by decide +kernel
theorem dX1_worth_36 : decode cX1_worth 36 = .ok (.imul, 1) := by decide +kernel
theorem dX1_worth_37 : decode cX1_worth 37 = .ok (.iadd, 1) := by decide +kernel
theorem dX1_worth_38 : decode cX1_worth 38 = .ok (.istore_n 2, 1) := by decide +kernel
theorem dX1_worth_39 : decode cX1_worth 39 = .ok (.iinc 3 1, 3) := by decide +kernel
theorem dX1_worth_42 : decode cX1_worth 42 = .ok (.goto (-30), 3) := by decide +kernel
theorem dX1_worth_45 : decode cX1_worth 45 = .ok (.iload_n 2, 1) := by decide +kernel
theorem dX1_worth_46 : decode cX1_worth 46 = .ok (.ireturn, 1) := by decide +kernel
theorem dX1_worthOf_0 : decode cX1_worthOf 0 = .ok (.aload_n 0, 1) := by decide +kernel
theorem dX1_worthOf_1 : decode cX1_worthOf 1 = .ok (.iconst 0, 1) := by decide +kernel
theorem dX1_worthOf_2 : decode cX1_worthOf 2 = .ok (.putfield 25, 3) := by decide +kernel
theorem dX1_worthOf_5 : decode cX1_worthOf 5 = .ok (.aload_n 0, 1) := by decide +kernel
theorem dX1_worthOf_6 : decode cX1_worthOf 6 = .ok (.iload_n 1, 1) := by decide +kernel
theorem dX1_worthOf_7 : decode cX1_worthOf 7 = .ok (.invokevirtual 71, 3) := by decide +kernel
theorem dX1_worthOf_10 : decode cX1_worthOf 10 = .ok (.ifCond .eq 11, 3) := by decide +kernel
theorem dX1_worthOf_13 : decode cX1_worthOf 13 = .ok (.aload_n 0, 1) := by decide +kernel
theorem dX1_worthOf_14 : decode cX1_worthOf 14 = .ok (.iload_n 1, 1) := by decide +kernel
theorem dX1_worthOf_15 : decode cX1_worthOf 15 = .ok (.invokevirtual 103, 3) := by decide +kernel
theorem dX1_worthOf_18 : decode cX1_worthOf 18 = .ok (.goto 8, 3) := by decide +kernel
theorem dX1_worthOf_21 : decode cX1_worthOf 21 = .ok (.aload_n 0, 1) := by decide +kernel
theorem dX1_worthOf_22 : decode cX1_worthOf 22 = .ok (.iconst 1, 1) := by decide +kernel
theorem dX1_worthOf_23 : decode cX1_worthOf 23 = .ok (.invokevirtual 68, 3) := by decide +kernel
theorem dX1_worthOf_26 : decode cX1_worthOf 26 = .ok (.ireturn, 1) := by decide +kernel
theorem dX1_rich_0 : decode cX1_rich 0 = .ok (.iconst (-1), 1) := by decide +kernel
theorem dX1_rich_1 : decode cX1_rich 1 = .ok (.istore_n 1, 1) := by decide +kernel
theorem dX1_rich_2 : decode cX1_rich 2 = .ok (.iconst 0, 1) := by decide +kernel
theorem dX1_rich_3 : decode cX1_rich 3 = .ok (.istore_n 2, 1) := by decide +kernel
theorem dX1_rich_4 : decode cX1_rich 4 = .ok (.iload_n 2, 1) := by decide +kernel
theorem dX1_rich_5 : decode cX1_rich 5 = .ok (.aload_n 0, 1) := by decide +kernel
theorem dX1_rich_6 : decode cX1_rich 6 = .ok (.getfield 36, 3) := by decide +kernel
theorem dX1_rich_9 : decode cX1_rich 9 = .ok (.if_icmp .ge 29, 3) := by decide +kernel
theorem dX1_rich_12 : decode cX1_rich 12 = .ok (.iload_n 1, 1) := by decide +kernel
theorem dX1_rich_13 : decode cX1_rich 13 = .ok (.iconst (-1), 1) := by decide +kernel
theorem dX1_rich_14 : decode cX1_rich 14 = .ok (.if_icmp .eq 16, 3) := by decide +kernel
theorem dX1_rich_17 : decode cX1_rich 17 = .ok (.aload_n 0, 1) := by decide +kernel
theorem dX1_rich_18 : decode cX1_rich 18 = .ok (.iload_n 2, 1) := by decide +kernel
theorem dX1_rich_19 : decode cX1_rich 19 = .ok (.invokevirtual 103, 3) := by decide +kernel
theorem dX1_rich_22 : decode cX1_rich 22 = .ok (.aload_n 0, 1) := by decide +kernel
theorem dX1_rich_23 : decode cX1_rich 23 = .ok (.iload_n 1, 1) := by decide +kernel
theorem dX1_rich_24 : decode cX1_rich 24 = .ok (.invokevirtual 103, 3) := by decide +kernel
theorem dX1_rich_27 : decode cX1_rich 27 = .ok (.if_icmp .le 5, 3) := by decide +kernel
theorem dX1_rich_30 : decode cX1_rich 30 = .ok (.iload_n 2, 1) := by decide +kernel
theorem dX1_rich_31 : decode cX1_rich 31 = .ok (.istore_n 1, 1) := by decide +kernel
theorem dX1_rich_32 : decode cX1_rich 32 = .ok (.iinc 2 1, 3) := by decide +kernel
theorem dX1_rich_35 : decode cX1_rich 35 = .ok (.goto (-31), 3) := by decide +kernel
theorem dX1_rich_38 : decode cX1_rich 38 = .ok (.iload_n 1, 1) := by decide +kernel
theorem dX1_rich_39 : decode cX1_rich 39 = .ok (.ireturn, 1) := by decide +kernel
theorem dX1_richest_0 : decode cX1_richest 0 = .ok (.aload_n 0, 1) := by decide +kernel
theorem dX1_richest_1 : decode cX1_richest 1 = .ok (.aload_n 0, 1) := by decide +kernel
theorem dX1_richest_2 : decode cX1_richest 2 = .ok (.invokevirtual 106, 3) := by decide +kernel
theorem dX1_richest_5 : decode cX1_richest 5 = .ok (.invokevirtual 88, 3) := by decide +kernel
theorem dX1_richest_8 : decode cX1_richest 8 = .ok (.ireturn, 1) := by decide +kernel
theorem dX1_shorts_0 : decode cX1_shorts 0 = .ok (.iconst 0, 1) := by decide +kernel
theorem dX1_shorts_1 : decode cX1_shorts 1 = .ok (.istore_n 2, 1) := by decide +kernel
theorem dX1_shorts_2 : decode cX1_shorts 2 = .ok (.iconst 0, 1) := by decide +kernel
theorem dX1_shorts_3 : decode cX1_shorts 3 = .ok (.istore_n 3, 1) := by decide +kernel
theorem dX1_shorts_4 : decode cX1_shorts 4 = .ok (.iload_n 3, 1) := by decide +kernel
theorem dX1_shorts_5 : decode cX1_shorts 5 = .ok (.aload_n 0, 1) := by decide +kernel
theorem dX1_shorts_6 : decode cX1_shorts 6 = .ok (.getfield 29, 3) := by decide +kernel
theorem dX1_shorts_9 : decode cX1_shorts 9 = .ok (.if_icmp .ge 30, 3) := by decide +kernel
theorem dX1_shorts_12 : decode cX1_shorts 12 = .ok (.iload_n 2, 1) := by decide +kernel
theorem dX1_shorts_13 : decode cX1_shorts 13 = .ok (.aload_n 0, 1) := by decide +kernel
theorem dX1_shorts_14 : decode cX1_shorts 14 = .ok (.getfield 19, 3) := by decide +kernel
theorem dX1_shorts_17 : decode cX1_shorts 17 = .ok (.iload_n 1, 1) := by decide +kernel
theorem dX1_shorts_18 : decode cX1_shorts 18 = .ok (.iload_n 3, 1) := by decide +kernel
theorem dX1_shorts_19 : decode cX1_shorts 19 = .ok (.invokestatic 45, 3) := by decide +kernel
theorem dX1_shorts_22 : decode cX1_shorts 22 = .ok (.iaload, 1) := by decide +kernel
theorem dX1_shorts_23 : decode cX1_shorts 23 = .ok (.ifCond .ge 7, 3) := by decide +kernel
theorem dX1_shorts_26 : decode cX1_shorts 26 = .ok (.iconst 1, 1) := by decide +kernel
theorem dX1_shorts_27 : decode cX1_shorts 27 = .ok (.goto 4, 3) := by decide +kernel
theorem dX1_shorts_30 : decode cX1_shorts 30 = .ok (.iconst 0, 1) := by decide +kernel
theorem dX1_shorts_31 : decode cX1_shorts 31 = .ok (.iadd, 1) := by decide +kernel
theorem dX1_shorts_32 : decode cX1_shorts 32 = .ok (.istore_n 2, 1) := by decide +kernel
theorem dX1_shorts_33 : decode cX1_shorts 33 = .ok (.iinc 3 1, 3) := by decide +kernel
theorem dX1_shorts_36 : decode cX1_shorts 36 = .ok (.goto (-32), 3) := by decide +kernel
theorem dX1_shorts_39 : decode cX1_shorts 39 = .ok (.iload_n 2, 1) := by decide +kernel
theorem dX1_shorts_40 : decode cX1_shorts 40 = .ok (.ireturn, 1) := by decide +kernel
theorem dX1_shortsOf_0 : decode cX1_shortsOf 0 = .ok (.aload_n 0, 1) := by decide +kernel
theorem dX1_shortsOf_1 : decode cX1_shortsOf 1 = .ok (.iconst 0, 1) := by decide +kernel
theorem dX1_shortsOf_2 : decode cX1_shortsOf 2 = .ok (.putfield 25, 3) := by decide +kernel
theorem dX1_shortsOf_5 : decode cX1_shortsOf 5 = .ok (.aload_n 0, 1) := by decide +kernel
theorem dX1_shortsOf_6 : decode cX1_shortsOf 6 = .ok (.iload_n 1, 1) := by decide +kernel
theorem dX1_shortsOf_7 : decode cX1_shortsOf 7 = .ok (.invokevirtual 71, 3) := by decide +kernel
theorem dX1_shortsOf_10 : decode cX1_shortsOf 10 = .ok (.ifCond .eq 11, 3) := by decide +kernel
theorem dX1_shortsOf_13 : decode cX1_shortsOf 13 = .ok (.aload_n 0, 1) := by decide +kernel
theorem dX1_shortsOf_14 : decode cX1_shortsOf 14 = .ok (.iload_n 1, 1) := by decide +kernel
theorem dX1_shortsOf_15 : decode cX1_shortsOf 15 = .ok (.invokevirtual 109, 3) := by decide +kernel
theorem dX1_shortsOf_18 : decode cX1_shortsOf 18 = .ok (.goto 8, 3) := by decide +kernel
theorem dX1_shortsOf_21 : decode cX1_shortsOf 21 = .ok (.aload_n 0, 1) := by decide +kernel
theorem dX1_shortsOf_22 : decode cX1_shortsOf 22 = .ok (.iconst 1, 1) := by decide +kernel
theorem dX1_shortsOf_23 : decode cX1_shortsOf 23 = .ok (.invokevirtual 68, 3) := by decide +kernel
theorem dX1_shortsOf_26 : decode cX1_shortsOf 26 = .ok (.ireturn, 1) := by decide +kernel
theorem dX1_owing_0 : decode cX1_owing 0 = .ok (.iconst 0, 1) := by decide +kernel
theorem dX1_owing_1 : decode cX1_owing 1 = .ok (.istore_n 1, 1) := by decide +kernel
theorem dX1_owing_2 : decode cX1_owing 2 = .ok (.iconst 0, 1) := by decide +kernel
theorem dX1_owing_3 : decode cX1_owing 3 = .ok (.istore_n 2, 1) := by decide +kernel
theorem dX1_owing_4 : decode cX1_owing 4 = .ok (.iload_n 2, 1) := by decide +kernel
theorem dX1_owing_5 : decode cX1_owing 5 = .ok (.aload_n 0, 1) := by decide +kernel
theorem dX1_owing_6 : decode cX1_owing 6 = .ok (.getfield 36, 3) := by decide +kernel
theorem dX1_owing_9 : decode cX1_owing 9 = .ok (.if_icmp .ge 29, 3) := by decide +kernel
theorem dX1_owing_12 : decode cX1_owing 12 = .ok (.iload_n 1, 1) := by decide +kernel
theorem dX1_owing_13 : decode cX1_owing 13 = .ok (.aload_n 0, 1) := by decide +kernel
theorem dX1_owing_14 : decode cX1_owing 14 = .ok (.getfield 19, 3) := by decide +kernel
theorem dX1_owing_17 : decode cX1_owing 17 = .ok (.bipush 17, 2) := by decide +kernel
theorem dX1_owing_19 : decode cX1_owing 19 = .ok (.iload_n 2, 1) := by decide +kernel
theorem dX1_owing_20 : decode cX1_owing 20 = .ok (.iadd, 1) := by decide +kernel
theorem dX1_owing_21 : decode cX1_owing 21 = .ok (.iaload, 1) := by decide +kernel
theorem dX1_owing_22 : decode cX1_owing 22 = .ok (.ifCond .ge 7, 3) := by decide +kernel
theorem dX1_owing_25 : decode cX1_owing 25 = .ok (.iconst 1, 1) := by decide +kernel
theorem dX1_owing_26 : decode cX1_owing 26 = .ok (.goto 4, 3) := by decide +kernel
theorem dX1_owing_29 : decode cX1_owing 29 = .ok (.iconst 0, 1) := by decide +kernel
theorem dX1_owing_30 : decode cX1_owing 30 = .ok (.iadd, 1) := by decide +kernel
theorem dX1_owing_31 : decode cX1_owing 31 = .ok (.istore_n 1, 1) := by decide +kernel
theorem dX1_owing_32 : decode cX1_owing 32 = .ok (.iinc 2 1, 3) := by decide +kernel
theorem dX1_owing_35 : decode cX1_owing 35 = .ok (.goto (-31), 3) := by decide +kernel
theorem dX1_owing_38 : decode cX1_owing 38 = .ok (.iload_n 1, 1) := by decide +kernel
theorem dX1_owing_39 : decode cX1_owing 39 = .ok (.ireturn, 1) := by decide +kernel
theorem dX1_inDebt_0 : decode cX1_inDebt 0 = .ok (.aload_n 0, 1) := by decide +kernel
theorem dX1_inDebt_1 : decode cX1_inDebt 1 = .ok (.aload_n 0, 1) := by decide +kernel
theorem dX1_inDebt_2 : decode cX1_inDebt 2 = .ok (.invokevirtual 112, 3) := by decide +kernel
theorem dX1_inDebt_5 : decode cX1_inDebt 5 = .ok (.invokevirtual 88, 3) := by decide +kernel
theorem dX1_inDebt_8 : decode cX1_inDebt 8 = .ok (.ireturn, 1) := by decide +kernel
theorem dX1_closing_0 : decode cX1_closing 0 = .ok (.aload_n 0, 1) := by decide +kernel
theorem dX1_closing_1 : decode cX1_closing 1 = .ok (.iload_n 1, 1) := by decide +kernel
theorem dX1_closing_2 : decode cX1_closing 2 = .ok (.aload_n 0, 1) := by decide +kernel
theorem dX1_closing_3 : decode cX1_closing 3 = .ok (.iload_n 1, 1) := by decide +kernel
theorem dX1_closing_4 : decode cX1_closing 4 = .ok (.invokevirtual 91, 3) := by decide +kernel
theorem dX1_closing_7 : decode cX1_closing 7 = .ok (.iconst 1, 1) := by decide +kernel
theorem dX1_closing_8 : decode cX1_closing 8 = .ok (.isub, 1) := by decide +kernel
theorem dX1_closing_9 : decode cX1_closing 9 = .ok (.invokevirtual 58, 3) := by decide +kernel
theorem dX1_closing_12 : decode cX1_closing 12 = .ok (.ireturn, 1) := by decide +kernel
theorem dX1_closingPrice_0 : decode cX1_closingPrice 0 = .ok (.aload_n 0, 1) := by decide +kernel
theorem dX1_closingPrice_1 : decode cX1_closingPrice 1 = .ok (.iconst 0, 1) := by decide +kernel
theorem dX1_closingPrice_2 : decode cX1_closingPrice 2 = .ok (.putfield 25, 3) := by decide +kernel
theorem dX1_closingPrice_5 : decode cX1_closingPrice 5 = .ok (.aload_n 0, 1) := by decide +kernel
theorem dX1_closingPrice_6 : decode cX1_closingPrice 6 = .ok (.iload_n 1, 1) := by decide +kernel
theorem dX1_closingPrice_7 : decode cX1_closingPrice 7 = .ok (.invokevirtual 75, 3) := by decide +kernel
theorem dX1_closingPrice_10 : decode cX1_closingPrice 10 = .ok (.ifCond .eq 11, 3) := by decide +kernel
theorem dX1_closingPrice_13 : decode cX1_closingPrice 13 = .ok (.aload_n 0, 1) := by decide +kernel
theorem dX1_closingPrice_14 : decode cX1_closingPrice 14 = .ok (.iload_n 1, 1) := by decide +kernel
theorem dX1_closingPrice_15 : decode cX1_closingPrice 15 = .ok (.invokevirtual 115, 3) := by decide +kernel
theorem dX1_closingPrice_18 : decode cX1_closingPrice 18 = .ok (.goto 8, 3) := by decide +kernel
theorem dX1_closingPrice_21 : decode cX1_closingPrice 21 = .ok (.aload_n 0, 1) := by decide +kernel
theorem dX1_closingPrice_22 : decode cX1_closingPrice 22 = .ok (.iconst 1, 1) := by decide +kernel
theorem dX1_closingPrice_23 : decode cX1_closingPrice 23 = .ok (.invokevirtual 68, 3) := by decide +kernel
theorem dX1_closingPrice_26 : decode cX1_closingPrice 26 = .ok (.ireturn, 1) := by decide +kernel
theorem dX1_priceIn_0 : decode cX1_priceIn 0 = .ok (.aload_n 0, 1) := by decide +kernel
theorem dX1_priceIn_1 : decode cX1_priceIn 1 = .ok (.iconst 0, 1) := by decide +kernel
theorem dX1_priceIn_2 : decode cX1_priceIn 2 = .ok (.putfield 25, 3) := by decide +kernel
theorem dX1_priceIn_5 : decode cX1_priceIn 5 = .ok (.aload_n 0, 1) := by decide +kernel
theorem dX1_priceIn_6 : decode cX1_priceIn 6 = .ok (.iload_n 1, 1) := by decide +kernel
theorem dX1_priceIn_7 : decode cX1_priceIn 7 = .ok (.invokevirtual 75, 3) := by decide +kernel
theorem dX1_priceIn_10 : decode cX1_priceIn 10 = .ok (.ifCond .ne 9, 3) := by decide +kernel
theorem dX1_priceIn_13 : decode cX1_priceIn 13 = .ok (.aload_n 0, 1) := by decide +kernel
theorem dX1_priceIn_14 : decode cX1_priceIn 14 = .ok (.iconst 1, 1) := by decide +kernel
theorem dX1_priceIn_15 : decode cX1_priceIn 15 = .ok (.invokevirtual 68, 3) := by decide +kernel
theorem dX1_priceIn_18 : decode cX1_priceIn 18 = .ok (.ireturn, 1) := by decide +kernel
theorem dX1_priceIn_19 : decode cX1_priceIn 19 = .ok (.iload_n 2, 1) := by decide +kernel
theorem dX1_priceIn_20 : decode cX1_priceIn 20 = .ok (.iconst 1, 1) := by decide +kernel
theorem dX1_priceIn_21 : decode cX1_priceIn 21 = .ok (.bipush 60, 2) := by decide +kernel
theorem dX1_priceIn_23 : decode cX1_priceIn 23 = .ok (.invokestatic 32, 3) := by decide +kernel
theorem dX1_priceIn_26 : decode cX1_priceIn 26 = .ok (.ifCond .ne 9, 3) := by decide +kernel
theorem dX1_priceIn_29 : decode cX1_priceIn 29 = .ok (.aload_n 0, 1) := by decide +kernel
theorem dX1_priceIn_30 : decode cX1_priceIn 30 = .ok (.iconst 2, 1) := by decide +kernel
theorem dX1_priceIn_31 : decode cX1_priceIn 31 = .ok (.invokevirtual 68, 3) := by decide +kernel
theorem dX1_priceIn_34 : decode cX1_priceIn 34 = .ok (.ireturn, 1) := by decide +kernel
theorem dX1_priceIn_35 : decode cX1_priceIn 35 = .ok (.aload_n 0, 1) := by decide +kernel
theorem dX1_priceIn_36 : decode cX1_priceIn 36 = .ok (.invokevirtual 118, 3) := by decide +kernel
theorem dX1_priceIn_39 : decode cX1_priceIn 39 = .ok (.aload_n 0, 1) := by decide +kernel
theorem dX1_priceIn_40 : decode cX1_priceIn 40 = .ok (.iload_n 2, 1) := by decide +kernel
theorem dX1_priceIn_41 : decode cX1_priceIn 41 = .ok (.invokevirtual 85, 3) := by decide +kernel
theorem dX1_priceIn_44 : decode cX1_priceIn 44 = .ok (.pop, 1) := by decide +kernel
theorem dX1_priceIn_45 : decode cX1_priceIn 45 = .ok (.aload_n 0, 1) := by decide +kernel
theorem dX1_priceIn_46 : decode cX1_priceIn 46 = .ok (.iload_n 1, 1) := by decide +kernel
theorem dX1_priceIn_47 : decode cX1_priceIn 47 = .ok (.invokevirtual 61, 3) := by decide +kernel
theorem dX1_priceIn_50 : decode cX1_priceIn 50 = .ok (.istore_n 3, 1) := by decide +kernel
theorem dX1_priceIn_51 : decode cX1_priceIn 51 = .ok (.aload_n 0, 1) := by decide +kernel
theorem dX1_priceIn_52 : decode cX1_priceIn 52 = .ok (.invokevirtual 121, 3) := by decide +kernel
theorem dX1_priceIn_55 : decode cX1_priceIn 55 = .ok (.iload_n 3, 1) := by decide +kernel
theorem dX1_priceIn_56 : decode cX1_priceIn 56 = .ok (.ireturn, 1) := by decide +kernel
theorem dX1_worthIn_0 : decode cX1_worthIn 0 = .ok (.aload_n 0, 1) := by decide +kernel
theorem dX1_worthIn_1 : decode cX1_worthIn 1 = .ok (.iconst 0, 1) := by decide +kernel
theorem dX1_worthIn_2 : decode cX1_worthIn 2 = .ok (.putfield 25, 3) := by decide +kernel
theorem dX1_worthIn_5 : decode cX1_worthIn 5 = .ok (.aload_n 0, 1) := by decide +kernel
theorem dX1_worthIn_6 : decode cX1_worthIn 6 = .ok (.iload_n 1, 1) := by decide +kernel
theorem dX1_worthIn_7 : decode cX1_worthIn 7 = .ok (.invokevirtual 71, 3) := by decide +kernel
theorem dX1_worthIn_10 : decode cX1_worthIn 10 = .ok (.ifCond .ne 9, 3) := by decide +kernel
theorem dX1_worthIn_13 : decode cX1_worthIn 13 = .ok (.aload_n 0, 1) := by decide +kernel
theorem dX1_worthIn_14 : decode cX1_worthIn 14 = .ok (.iconst 1, 1) := by decide +kernel
theorem dX1_worthIn_15 : decode cX1_worthIn 15 = .ok (.invokevirtual 68, 3) := by decide +kernel
theorem dX1_worthIn_18 : decode cX1_worthIn 18 = .ok (.ireturn, 1) := by decide +kernel
theorem dX1_worthIn_19 : decode cX1_worthIn 19 = .ok (.iload_n 2, 1) := by decide +kernel
theorem dX1_worthIn_20 : decode cX1_worthIn 20 = .ok (.iconst 1, 1) := by decide +kernel
theorem dX1_worthIn_21 : decode cX1_worthIn 21 = .ok (.bipush 60, 2) := by decide +kernel
theorem dX1_worthIn_23 : decode cX1_worthIn 23 = .ok (.invokestatic 32, 3) := by decide +kernel
theorem dX1_worthIn_26 : decode cX1_worthIn 26 = .ok (.ifCond .ne 9, 3) := by decide +kernel
theorem dX1_worthIn_29 : decode cX1_worthIn 29 = .ok (.aload_n 0, 1) := by decide +kernel
theorem dX1_worthIn_30 : decode cX1_worthIn 30 = .ok (.iconst 2, 1) := by decide +kernel
theorem dX1_worthIn_31 : decode cX1_worthIn 31 = .ok (.invokevirtual 68, 3) := by decide +kernel
theorem dX1_worthIn_34 : decode cX1_worthIn 34 = .ok (.ireturn, 1) := by decide +kernel
theorem dX1_worthIn_35 : decode cX1_worthIn 35 = .ok (.aload_n 0, 1) := by decide +kernel
theorem dX1_worthIn_36 : decode cX1_worthIn 36 = .ok (.invokevirtual 118, 3) := by decide +kernel
theorem dX1_worthIn_39 : decode cX1_worthIn 39 = .ok (.aload_n 0, 1) := by decide +kernel
theorem dX1_worthIn_40 : decode cX1_worthIn 40 = .ok (.iload_n 2, 1) := by decide +kernel
theorem dX1_worthIn_41 : decode cX1_worthIn 41 = .ok (.invokevirtual 85, 3) := by decide +kernel
theorem dX1_worthIn_44 : decode cX1_worthIn 44 = .ok (.pop, 1) := by decide +kernel
theorem dX1_worthIn_45 : decode cX1_worthIn 45 = .ok (.aload_n 0, 1) := by decide +kernel
theorem dX1_worthIn_46 : decode cX1_worthIn 46 = .ok (.iload_n 1, 1) := by decide +kernel
theorem dX1_worthIn_47 : decode cX1_worthIn 47 = .ok (.invokevirtual 103, 3) := by decide +kernel
theorem dX1_worthIn_50 : decode cX1_worthIn 50 = .ok (.istore_n 3, 1) := by decide +kernel
theorem dX1_worthIn_51 : decode cX1_worthIn 51 = .ok (.aload_n 0, 1) := by decide +kernel
theorem dX1_worthIn_52 : decode cX1_worthIn 52 = .ok (.invokevirtual 121, 3) := by decide +kernel
theorem dX1_worthIn_55 : decode cX1_worthIn 55 = .ok (.iload_n 3, 1) := by decide +kernel
theorem dX1_worthIn_56 : decode cX1_worthIn 56 = .ok (.ireturn, 1) := by decide +kernel
theorem dX1_toBuy_0 : decode cX1_toBuy 0 = .ok (.iconst (-1), 1) := by decide +kernel
theorem dX1_toBuy_1 : decode cX1_toBuy 1 = .ok (.istore_n 1, 1) := by decide +kernel
theorem dX1_toBuy_2 : decode cX1_toBuy 2 = .ok (.iconst 0, 1) := by decide +kernel
theorem dX1_toBuy_3 : decode cX1_toBuy 3 = .ok (.istore_n 2, 1) := by decide +kernel
theorem dX1_toBuy_4 : decode cX1_toBuy 4 = .ok (.iconst 0, 1) := by decide +kernel
theorem dX1_toBuy_5 : decode cX1_toBuy 5 = .ok (.istore_n 3, 1) := by decide +kernel
theorem dX1_toBuy_6 : decode cX1_toBuy 6 = .ok (.iload_n 3, 1) := by decide +kernel
theorem dX1_toBuy_7 : decode cX1_toBuy 7 = .ok (.aload_n 0, 1) := by decide +kernel
theorem dX1_toBuy_8 : decode cX1_toBuy 8 = .ok (.getfield 29, 3) := by decide +kernel
theorem dX1_toBuy_11 : decode cX1_toBuy 11 = .ok (.if_icmp .ge 36, 3) := by decide +kernel
theorem dX1_toBuy_14 : decode cX1_toBuy 14 = .ok (.aload_n 0, 1) := by decide +kernel
theorem dX1_toBuy_15 : decode cX1_toBuy 15 = .ok (.iload_n 3, 1) := by decide +kernel
theorem dX1_toBuy_16 : decode cX1_toBuy 16 = .ok (.invokevirtual 115, 3) := by decide +kernel
theorem dX1_toBuy_19 : decode cX1_toBuy 19 = .ok (.aload_n 0, 1) := by decide +kernel
theorem dX1_toBuy_20 : decode cX1_toBuy 20 = .ok (.iload_n 3, 1) := by decide +kernel
theorem dX1_toBuy_21 : decode cX1_toBuy 21 = .ok (.invokevirtual 61, 3) := by decide +kernel
theorem dX1_toBuy_24 : decode cX1_toBuy 24 = .ok (.isub, 1) := by decide +kernel
theorem dX1_toBuy_25 : decode cX1_toBuy 25 = .ok (.istore 4, 2) := by decide +kernel
theorem dX1_toBuy_27 : decode cX1_toBuy 27 = .ok (.iload 4, 2) := by decide +kernel
theorem dX1_toBuy_29 : decode cX1_toBuy 29 = .ok (.iload_n 2, 1) := by decide +kernel
theorem dX1_toBuy_30 : decode cX1_toBuy 30 = .ok (.if_icmp .gt 6, 3) := by decide +kernel
theorem dX1_toBuy_33 : decode cX1_toBuy 33 = .ok (.goto 8, 3) := by decide +kernel
theorem dX1_toBuy_36 : decode cX1_toBuy 36 = .ok (.iload_n 3, 1) := by decide +kernel
theorem dX1_toBuy_37 : decode cX1_toBuy 37 = .ok (.istore_n 1, 1) := by decide +kernel
theorem dX1_toBuy_38 : decode cX1_toBuy 38 = .ok (.iload 4, 2) := by decide +kernel
theorem dX1_toBuy_40 : decode cX1_toBuy 40 = .ok (.istore_n 2, 1) := by decide +kernel
theorem dX1_toBuy_41 : decode cX1_toBuy 41 = .ok (.iinc 3 1, 3) := by decide +kernel
theorem dX1_toBuy_44 : decode cX1_toBuy 44 = .ok (.goto (-38), 3) := by decide +kernel
theorem dX1_toBuy_47 : decode cX1_toBuy 47 = .ok (.iload_n 1, 1) := by decide +kernel
theorem dX1_toBuy_48 : decode cX1_toBuy 48 = .ok (.ireturn, 1) := by decide +kernel
theorem dX1_bestToBuy_0 : decode cX1_bestToBuy 0 = .ok (.aload_n 0, 1) := by decide +kernel
theorem dX1_bestToBuy_1 : decode cX1_bestToBuy 1 = .ok (.aload_n 0, 1) := by decide +kernel
theorem dX1_bestToBuy_2 : decode cX1_bestToBuy 2 = .ok (.invokevirtual 124, 3) := by decide +kernel
theorem dX1_bestToBuy_5 : decode cX1_bestToBuy 5 = .ok (.invokevirtual 88, 3) := by decide +kernel
theorem dX1_bestToBuy_8 : decode cX1_bestToBuy 8 = .ok (.ireturn, 1) := by decide +kernel
theorem dX1_bestToSell_0 : decode cX1_bestToSell 0 = .ok (.aload_n 0, 1) := by decide +kernel
theorem dX1_bestToSell_1 : decode cX1_bestToSell 1 = .ok (.iconst 0, 1) := by decide +kernel
theorem dX1_bestToSell_2 : decode cX1_bestToSell 2 = .ok (.putfield 25, 3) := by decide +kernel
theorem dX1_bestToSell_5 : decode cX1_bestToSell 5 = .ok (.aload_n 0, 1) := by decide +kernel
theorem dX1_bestToSell_6 : decode cX1_bestToSell 6 = .ok (.iload_n 1, 1) := by decide +kernel
theorem dX1_bestToSell_7 : decode cX1_bestToSell 7 = .ok (.invokevirtual 71, 3) := by decide +kernel
theorem dX1_bestToSell_10 : decode cX1_bestToSell 10 = .ok (.ifCond .eq 11, 3) := by decide +kernel
theorem dX1_bestToSell_13 : decode cX1_bestToSell 13 = .ok (.aload_n 0, 1) := by decide +kernel
theorem dX1_bestToSell_14 : decode cX1_bestToSell 14 = .ok (.iload_n 2, 1) := by decide +kernel
theorem dX1_bestToSell_15 : decode cX1_bestToSell 15 = .ok (.invokevirtual 75, 3) := by decide +kernel
theorem dX1_bestToSell_18 : decode cX1_bestToSell 18 = .ok (.ifCond .ne 9, 3) := by decide +kernel
theorem dX1_bestToSell_21 : decode cX1_bestToSell 21 = .ok (.aload_n 0, 1) := by decide +kernel
theorem dX1_bestToSell_22 : decode cX1_bestToSell 22 = .ok (.iconst 1, 1) := by decide +kernel
theorem dX1_bestToSell_23 : decode cX1_bestToSell 23 = .ok (.invokevirtual 68, 3) := by decide +kernel
theorem dX1_bestToSell_26 : decode cX1_bestToSell 26 = .ok (.ireturn, 1) := by decide +kernel
theorem dX1_bestToSell_27 : decode cX1_bestToSell 27 = .ok (.aload_n 0, 1) := by decide +kernel
theorem dX1_bestToSell_28 : decode cX1_bestToSell 28 = .ok (.iload_n 2, 1) := by decide +kernel
theorem dX1_bestToSell_29 : decode cX1_bestToSell 29 = .ok (.invokevirtual 91, 3) := by decide +kernel
theorem dX1_bestToSell_32 : decode cX1_bestToSell 32 = .ok (.istore_n 3, 1) := by decide +kernel
theorem dX1_bestToSell_33 : decode cX1_bestToSell 33 = .ok (.bipush 9, 2) := by decide +kernel
theorem dX1_bestToSell_35 : decode cX1_bestToSell 35 = .ok (.aload_n 0, 1) := by decide +kernel
theorem dX1_bestToSell_36 : decode cX1_bestToSell 36 = .ok (.getfield 19, 3) := by decide +kernel
theorem dX1_bestToSell_39 : decode cX1_bestToSell 39 = .ok (.iload_n 1, 1) := by decide +kernel
theorem dX1_bestToSell_40 : decode cX1_bestToSell 40 = .ok (.iload_n 2, 1) := by decide +kernel
theorem dX1_bestToSell_41 : decode cX1_bestToSell 41 = .ok (.invokestatic 45, 3) := by decide +kernel
theorem dX1_bestToSell_44 : decode cX1_bestToSell 44 = .ok (.iaload, 1) := by decide +kernel
theorem dX1_bestToSell_45 : decode cX1_bestToSell 45 = .ok (.bipush 9, 2) := by decide +kernel
theorem dX1_bestToSell_47 : decode cX1_bestToSell 47 = .ok (.iadd, 1) := by decide +kernel
theorem dX1_bestToSell_48 : decode cX1_bestToSell 48 = .ok (.invokestatic 127, 3) := by decide +kernel
theorem dX1_bestToSell_51 : decode cX1_bestToSell 51 = .ok (.istore 4, 2) := by decide +kernel
theorem dX1_bestToSell_53 : decode cX1_bestToSell 53 = .ok (.iconst 0, 1) := by decide +kernel
theorem dX1_bestToSell_54 : decode cX1_bestToSell 54 = .ok (.istore 5, 2) := by decide +kernel
theorem dX1_bestToSell_56 : decode cX1_bestToSell 56 = .ok (.iconst 0, 1) := by decide +kernel
theorem dX1_bestToSell_57 : decode cX1_bestToSell 57 = .ok (.istore 6, 2) := by decide +kernel
theorem dX1_bestToSell_59 : decode cX1_bestToSell 59 = .ok (.aload_n 0, 1) := by decide +kernel
theorem dX1_bestToSell_60 : decode cX1_bestToSell 60 = .ok (.invokevirtual 118, 3) := by decide +kernel
theorem dX1_bestToSell_63 : decode cX1_bestToSell 63 = .ok (.iconst 0, 1) := by decide +kernel
theorem dX1_bestToSell_64 : decode cX1_bestToSell 64 = .ok (.istore 7, 2) := by decide +kernel
theorem dX1_bestToSell_66 : decode cX1_bestToSell 66 = .ok (.iload 7, 2) := by decide +kernel
theorem dX1_bestToSell_68 : decode cX1_bestToSell 68 = .ok (.iload 4, 2) := by decide +kernel
theorem dX1_bestToSell_70 : decode cX1_bestToSell 70 = .ok (.if_icmp .gt 58, 3) := by decide +kernel
theorem dX1_bestToSell_73 : decode cX1_bestToSell 73 = .ok (.aload_n 0, 1) := by decide +kernel
theorem dX1_bestToSell_74 : decode cX1_bestToSell 74 = .ok (.iload_n 1, 1) := by decide +kernel
theorem dX1_bestToSell_75 : decode cX1_bestToSell 75 = .ok (.iload_n 2, 1) := by decide +kernel
theorem dX1_bestToSell_76 : decode cX1_bestToSell 76 = .ok (.iload 7, 2) := by decide +kernel
theorem dX1_bestToSell_78 : decode cX1_bestToSell 78 = .ok (.invokevirtual 81, 3) := by decide +kernel
theorem dX1_bestToSell_81 : decode cX1_bestToSell 81 = .ok (.pop, 1) := by decide +kernel
theorem dX1_bestToSell_82 : decode cX1_bestToSell 82 = .ok (.aload_n 0, 1) := by decide +kernel
theorem dX1_bestToSell_83 : decode cX1_bestToSell 83 = .ok (.iload_n 3, 1) := by decide +kernel
theorem dX1_bestToSell_84 : decode cX1_bestToSell 84 = .ok (.invokevirtual 85, 3) := by decide +kernel
theorem dX1_bestToSell_87 : decode cX1_bestToSell 87 = .ok (.pop, 1) := by decide +kernel
theorem dX1_bestToSell_88 : decode cX1_bestToSell 88 = .ok (.aload_n 0, 1) := by decide +kernel
theorem dX1_bestToSell_89 : decode cX1_bestToSell 89 = .ok (.iload_n 1, 1) := by decide +kernel
theorem dX1_bestToSell_90 : decode cX1_bestToSell 90 = .ok (.invokevirtual 103, 3) := by decide +kernel
theorem dX1_bestToSell_93 : decode cX1_bestToSell 93 = .ok (.istore 8, 2) := by decide +kernel
theorem dX1_bestToSell_95 : decode cX1_bestToSell 95 = .ok (.aload_n 0, 1) := by decide +kernel
theorem dX1_bestToSell_96 : decode cX1_bestToSell 96 = .ok (.invokevirtual 121, 3) := by decide +kernel
theorem dX1_bestToSell_99 : decode cX1_bestToSell 99 = .ok (.iload 7, 2) := by decide +kernel
theorem dX1_bestToSell_101 : decode cX1_bestToSell 101 = .ok (.ifCond .le 13, 3) := by decide +kernel
theorem dX1_bestToSell_104 : decode cX1_bestToSell 104 = .ok (.iload 8, 2) := by decide +kernel
theorem dX1_bestToSell_106 : decode cX1_bestToSell 106 = .ok (.iload 6, 2) := by decide +kernel
theorem dX1_bestToSell_108 : decode cX1_bestToSell 108 = .ok (.if_icmp .gt 6, 3) := by decide +kernel
theorem dX1_bestToSell_111 : decode cX1_bestToSell 111 = .ok (.goto 11, 3) := by decide +kernel
theorem dX1_bestToSell_114 : decode cX1_bestToSell 114 = .ok (.iload 7, 2) := by decide +kernel
theorem dX1_bestToSell_116 : decode cX1_bestToSell 116 = .ok (.istore 5, 2) := by decide +kernel
theorem dX1_bestToSell_118 : decode cX1_bestToSell 118 = .ok (.iload 8, 2) := by decide +kernel
theorem dX1_bestToSell_120 : decode cX1_bestToSell 120 = .ok (.istore 6, 2) := by decide +kernel
theorem dX1_bestToSell_122 : decode cX1_bestToSell 122 = .ok (.iinc 7 1, 3) := by decide +kernel
theorem dX1_bestToSell_125 : decode cX1_bestToSell 125 = .ok (.goto (-59), 3) := by decide +kernel
theorem dX1_bestToSell_128 : decode cX1_bestToSell 128 = .ok (.iload 5, 2) := by decide +kernel
theorem dX1_bestToSell_130 : decode cX1_bestToSell 130 = .ok (.ireturn, 1) := by decide +kernel
theorem dX1_secondsUntilDebt_0 : decode cX1_secondsUntilDebt 0 = .ok (.aload_n 0, 1) := by decide +kernel
theorem dX1_secondsUntilDebt_1 : decode cX1_secondsUntilDebt 1 = .ok (.iconst 0, 1) := by decide +kernel
theorem dX1_secondsUntilDebt_2 : decode cX1_secondsUntilDebt 2 = .ok (.putfield 25, 3) := by decide +kernel
theorem dX1_secondsUntilDebt_5 : decode cX1_secondsUntilDebt 5 = .ok (.aload_n 0, 1) := by decide +kernel
theorem dX1_secondsUntilDebt_6 : decode cX1_secondsUntilDebt 6 = .ok (.iload_n 1, 1) := by decide +kernel
theorem dX1_secondsUntilDebt_7 : decode cX1_secondsUntilDebt 7 = .ok (.invokevirtual 71, 3) := by decide +kernel
theorem dX1_secondsUntilDebt_10 : decode cX1_secondsUntilDebt 10 = .ok (.ifCond .ne 9, 3) := by decide +kernel
theorem dX1_secondsUntilDebt_13 : decode cX1_secondsUntilDebt 13 = .ok (.aload_n 0, 1) := by decide +kernel
theorem dX1_secondsUntilDebt_14 : decode cX1_secondsUntilDebt 14 = .ok (.iconst 1, 1) := by decide +kernel
theorem dX1_secondsUntilDebt_15 : decode cX1_secondsUntilDebt 15 = .ok (.invokevirtual 68, 3) := by decide +kernel
theorem dX1_secondsUntilDebt_18 : decode cX1_secondsUntilDebt 18 = .ok (.ireturn, 1) := by decide +kernel
theorem dX1_secondsUntilDebt_19 : decode cX1_secondsUntilDebt 19 = .ok (.aload_n 0, 1) := by decide +kernel
theorem dX1_secondsUntilDebt_20 : decode cX1_secondsUntilDebt 20 = .ok (.invokevirtual 118, 3) := by decide +kernel
theorem dX1_secondsUntilDebt_23 : decode cX1_secondsUntilDebt 23 = .ok (.iconst 0, 1) := by decide +kernel
theorem dX1_secondsUntilDebt_24 : decode cX1_secondsUntilDebt 24 = .ok (.istore_n 2, 1) := by decide +kernel
theorem dX1_secondsUntilDebt_25 : decode cX1_secondsUntilDebt 25 = .ok (.iload_n 2, 1) := by decide +kernel
theorem dX1_secondsUntilDebt_26 : decode cX1_secondsUntilDebt 26 = .ok (.bipush 100, 2) := by decide +kernel
theorem dX1_secondsUntilDebt_28 : decode cX1_secondsUntilDebt 28 = .ok (.if_icmp .gt 26, 3) := by decide +kernel
theorem dX1_secondsUntilDebt_31 : decode cX1_secondsUntilDebt 31 = .ok (.aload_n 0, 1) := by decide +kernel
theorem dX1_secondsUntilDebt_32 : decode cX1_secondsUntilDebt 32 = .ok (.getfield 19, 3) := by decide +kernel
theorem dX1_secondsUntilDebt_35 : decode cX1_secondsUntilDebt 35 = .ok (.bipush 17, 2) := by decide +kernel
theorem dX1_secondsUntilDebt_37 : decode cX1_secondsUntilDebt 37 = .ok (.iload_n 1, 1) := by decide +kernel
theorem dX1_secondsUntilDebt_38 : decode cX1_secondsUntilDebt 38 = .ok (.iadd, 1) := by decide +kernel
theorem dX1_secondsUntilDebt_39 : decode cX1_secondsUntilDebt 39 = .ok (.iaload, 1) := by decide +kernel
theorem dX1_secondsUntilDebt_40 : decode cX1_secondsUntilDebt 40 = .ok (.ifCond .lt 14, 3) := by decide +kernel
theorem dX1_secondsUntilDebt_43 : decode cX1_secondsUntilDebt 43 = .ok (.aload_n 0, 1) := by decide +kernel
theorem dX1_secondsUntilDebt_44 : decode cX1_secondsUntilDebt 44 = .ok (.invokevirtual 64, 3) := by decide +kernel
theorem dX1_secondsUntilDebt_47 : decode cX1_secondsUntilDebt 47 = .ok (.pop, 1) := by decide +kernel
theorem dX1_secondsUntilDebt_48 : decode cX1_secondsUntilDebt 48 = .ok (.iinc 2 1, 3) := by decide +kernel
theorem dX1_secondsUntilDebt_51 : decode cX1_secondsUntilDebt 51 = .ok (.goto (-26), 3) := by decide +kernel
theorem dX1_secondsUntilDebt_54 : decode cX1_secondsUntilDebt 54 = .ok (.aload_n 0, 1) := by decide +kernel
theorem dX1_secondsUntilDebt_55 : decode cX1_secondsUntilDebt 55 = .ok (.invokevirtual 121, 3) := by decide +kernel
theorem dX1_secondsUntilDebt_58 : decode cX1_secondsUntilDebt 58 = .ok (.iload_n 2, 1) := by decide +kernel
theorem dX1_secondsUntilDebt_59 : decode cX1_secondsUntilDebt 59 = .ok (.bipush 100, 2) := by decide +kernel
theorem dX1_secondsUntilDebt_61 : decode cX1_secondsUntilDebt 61 = .ok (.if_icmp .le 7, 3) := by decide +kernel
theorem dX1_secondsUntilDebt_64 : decode cX1_secondsUntilDebt 64 = .ok (.iconst (-1), 1) := by decide +kernel
theorem dX1_secondsUntilDebt_65 : decode cX1_secondsUntilDebt 65 = .ok (.goto 4, 3) := by decide +kernel
theorem dX1_secondsUntilDebt_68 : decode cX1_secondsUntilDebt 68 = .ok (.iload_n 2, 1) := by decide +kernel
theorem dX1_secondsUntilDebt_69 : decode cX1_secondsUntilDebt 69 = .ok (.ireturn, 1) := by decide +kernel
theorem dX1_meanPrice_0 : decode cX1_meanPrice 0 = .ok (.aload_n 0, 1) := by decide +kernel
theorem dX1_meanPrice_1 : decode cX1_meanPrice 1 = .ok (.iconst 0, 1) := by decide +kernel
theorem dX1_meanPrice_2 : decode cX1_meanPrice 2 = .ok (.putfield 25, 3) := by decide +kernel
theorem dX1_meanPrice_5 : decode cX1_meanPrice 5 = .ok (.iconst 0, 1) := by decide +kernel
theorem dX1_meanPrice_6 : decode cX1_meanPrice 6 = .ok (.istore_n 1, 1) := by decide +kernel
theorem dX1_meanPrice_7 : decode cX1_meanPrice 7 = .ok (.iconst 0, 1) := by decide +kernel
theorem dX1_meanPrice_8 : decode cX1_meanPrice 8 = .ok (.istore_n 2, 1) := by decide +kernel
theorem dX1_meanPrice_9 : decode cX1_meanPrice 9 = .ok (.iload_n 2, 1) := by decide +kernel
theorem dX1_meanPrice_10 : decode cX1_meanPrice 10 = .ok (.aload_n 0, 1) := by decide +kernel
theorem dX1_meanPrice_11 : decode cX1_meanPrice 11 = .ok (.getfield 29, 3) := by decide +kernel
theorem dX1_meanPrice_14 : decode cX1_meanPrice 14 = .ok (.if_icmp .ge 17, 3) := by decide +kernel
theorem dX1_meanPrice_17 : decode cX1_meanPrice 17 = .ok (.iload_n 1, 1) := by decide +kernel
theorem dX1_meanPrice_18 : decode cX1_meanPrice 18 = .ok (.aload_n 0, 1) := by decide +kernel
theorem dX1_meanPrice_19 : decode cX1_meanPrice 19 = .ok (.iload_n 2, 1) := by decide +kernel
theorem dX1_meanPrice_20 : decode cX1_meanPrice 20 = .ok (.invokevirtual 61, 3) := by decide +kernel
theorem dX1_meanPrice_23 : decode cX1_meanPrice 23 = .ok (.iadd, 1) := by decide +kernel
theorem dX1_meanPrice_24 : decode cX1_meanPrice 24 = .ok (.istore_n 1, 1) := by decide +kernel
theorem dX1_meanPrice_25 : decode cX1_meanPrice 25 = .ok (.iinc 2 1, 3) := by decide +kernel
theorem dX1_meanPrice_28 : decode cX1_meanPrice 28 = .ok (.goto (-19), 3) := by decide +kernel
theorem dX1_meanPrice_31 : decode cX1_meanPrice 31 = .ok (.aload_n 0, 1) := by decide +kernel
theorem dX1_meanPrice_32 : decode cX1_meanPrice 32 = .ok (.getfield 29, 3) := by decide +kernel
theorem dX1_meanPrice_35 : decode cX1_meanPrice 35 = .ok (.ifCond .ne 7, 3) := by decide +kernel
theorem dX1_meanPrice_38 : decode cX1_meanPrice 38 = .ok (.dconst 0, 1) := by decide +kernel
theorem dX1_meanPrice_39 : decode cX1_meanPrice 39 = .ok (.goto 11, 3) := by decide +kernel
theorem dX1_meanPrice_42 : decode cX1_meanPrice 42 = .ok (.iload_n 1, 1) := by decide +kernel
theorem dX1_meanPrice_43 : decode cX1_meanPrice 43 = .ok (.i2d, 1) := by decide +kernel
theorem dX1_meanPrice_44 : decode cX1_meanPrice 44 = .ok (.aload_n 0, 1) := by decide +kernel
theorem dX1_meanPrice_45 : decode cX1_meanPrice 45 = .ok (.getfield 29, 3) := by decide +kernel
theorem dX1_meanPrice_48 : decode cX1_meanPrice 48 = .ok (.i2d, 1) := by decide +kernel
theorem dX1_meanPrice_49 : decode cX1_meanPrice 49 = .ok (.ddiv, 1) := by decide +kernel
theorem dX1_meanPrice_50 : decode cX1_meanPrice 50 = .ok (.dreturn, 1) := by decide +kernel
theorem dX1_digest_0 : decode cX1_digest 0 = .ok (.aload_n 0, 1) := by decide +kernel
theorem dX1_digest_1 : decode cX1_digest 1 = .ok (.iconst 0, 1) := by decide +kernel
theorem dX1_digest_2 : decode cX1_digest 2 = .ok (.putfield 25, 3) := by decide +kernel
theorem dX1_digest_5 : decode cX1_digest 5 = .ok (.bipush 8, 2) := by decide +kernel
theorem dX1_digest_7 : decode cX1_digest 7 = .ok (.newarray .int, 2) := by decide +kernel
theorem dX1_digest_9 : decode cX1_digest 9 = .ok (.dup, 1) := by decide +kernel
theorem dX1_digest_10 : decode cX1_digest 10 = .ok (.iconst 0, 1) := by decide +kernel
theorem dX1_digest_11 : decode cX1_digest 11 = .ok (.aload_n 0, 1) := by decide +kernel
theorem dX1_digest_12 : decode cX1_digest 12 = .ok (.getfield 19, 3) := by decide +kernel
theorem dX1_digest_15 : decode cX1_digest 15 = .ok (.iconst 0, 1) := by decide +kernel
theorem dX1_digest_16 : decode cX1_digest 16 = .ok (.iaload, 1) := by decide +kernel
theorem dX1_digest_17 : decode cX1_digest 17 = .ok (.iastore, 1) := by decide +kernel
theorem dX1_digest_18 : decode cX1_digest 18 = .ok (.dup, 1) := by decide +kernel
theorem dX1_digest_19 : decode cX1_digest 19 = .ok (.iconst 1, 1) := by decide +kernel
theorem dX1_digest_20 : decode cX1_digest 20 = .ok (.aload_n 0, 1) := by decide +kernel
theorem dX1_digest_21 : decode cX1_digest 21 = .ok (.getfield 29, 3) := by decide +kernel
theorem dX1_digest_24 : decode cX1_digest 24 = .ok (.iastore, 1) := by decide +kernel
theorem dX1_digest_25 : decode cX1_digest 25 = .ok (.dup, 1) := by decide +kernel
theorem dX1_digest_26 : decode cX1_digest 26 = .ok (.iconst 2, 1) := by decide +kernel
theorem dX1_digest_27 : decode cX1_digest 27 = .ok (.aload_n 0, 1) := by decide +kernel
theorem dX1_digest_28 : decode cX1_digest 28 = .ok (.getfield 36, 3) := by decide +kernel
theorem dX1_digest_31 : decode cX1_digest 31 = .ok (.iastore, 1) := by decide +kernel
theorem dX1_digest_32 : decode cX1_digest 32 = .ok (.dup, 1) := by decide +kernel
theorem dX1_digest_33 : decode cX1_digest 33 = .ok (.iconst 3, 1) := by decide +kernel
theorem dX1_digest_34 : decode cX1_digest 34 = .ok (.aload_n 0, 1) := by decide +kernel
theorem dX1_digest_35 : decode cX1_digest 35 = .ok (.invokevirtual 97, 3) := by decide +kernel
theorem dX1_digest_38 : decode cX1_digest 38 = .ok (.iastore, 1) := by decide +kernel
theorem dX1_digest_39 : decode cX1_digest 39 = .ok (.dup, 1) := by decide +kernel
theorem dX1_digest_40 : decode cX1_digest 40 = .ok (.iconst 4, 1) := by decide +kernel
theorem dX1_digest_41 : decode cX1_digest 41 = .ok (.aload_n 0, 1) := by decide +kernel
theorem dX1_digest_42 : decode cX1_digest 42 = .ok (.invokevirtual 100, 3) := by decide +kernel
theorem dX1_digest_45 : decode cX1_digest 45 = .ok (.iastore, 1) := by decide +kernel
theorem dX1_digest_46 : decode cX1_digest 46 = .ok (.dup, 1) := by decide +kernel
theorem dX1_digest_47 : decode cX1_digest 47 = .ok (.iconst 5, 1) := by decide +kernel
theorem dX1_digest_48 : decode cX1_digest 48 = .ok (.aload_n 0, 1) := by decide +kernel
theorem dX1_digest_49 : decode cX1_digest 49 = .ok (.invokevirtual 106, 3) := by decide +kernel
theorem dX1_digest_52 : decode cX1_digest 52 = .ok (.iastore, 1) := by decide +kernel
theorem dX1_digest_53 : decode cX1_digest 53 = .ok (.dup, 1) := by decide +kernel
theorem dX1_digest_54 : decode cX1_digest 54 = .ok (.bipush 6, 2) := by decide +kernel
theorem dX1_digest_56 : decode cX1_digest 56 = .ok (.aload_n 0, 1) := by decide +kernel
theorem dX1_digest_57 : decode cX1_digest 57 = .ok (.invokevirtual 112, 3) := by decide +kernel
theorem dX1_digest_60 : decode cX1_digest 60 = .ok (.iastore, 1) := by decide +kernel
theorem dX1_digest_61 : decode cX1_digest 61 = .ok (.dup, 1) := by decide +kernel
theorem dX1_digest_62 : decode cX1_digest 62 = .ok (.bipush 7, 2) := by decide +kernel
theorem dX1_digest_64 : decode cX1_digest 64 = .ok (.aload_n 0, 1) := by decide +kernel
theorem dX1_digest_65 : decode cX1_digest 65 = .ok (.invokevirtual 124, 3) := by decide +kernel
theorem dX1_digest_68 : decode cX1_digest 68 = .ok (.iastore, 1) := by decide +kernel
theorem dX1_digest_69 : decode cX1_digest 69 = .ok (.astore_n 1, 1) := by decide +kernel
theorem dX1_digest_70 : decode cX1_digest 70 = .ok (.ldc2_w 130, 3) := by decide +kernel
theorem dX1_digest_73 : decode cX1_digest 73 = .ok (.lstore_n 2, 1) := by decide +kernel
theorem dX1_digest_74 : decode cX1_digest 74 = .ok (.aload_n 1, 1) := by decide +kernel
theorem dX1_digest_75 : decode cX1_digest 75 = .ok (.astore 4, 2) := by decide +kernel
theorem dX1_digest_77 : decode cX1_digest 77 = .ok (.aload 4, 2) := by decide +kernel
theorem dX1_digest_79 : decode cX1_digest 79 = .ok (.arraylength, 1) := by decide +kernel
theorem dX1_digest_80 : decode cX1_digest 80 = .ok (.istore 5, 2) := by decide +kernel
theorem dX1_digest_82 : decode cX1_digest 82 = .ok (.iconst 0, 1) := by decide +kernel
theorem dX1_digest_83 : decode cX1_digest 83 = .ok (.istore 6, 2) := by decide +kernel
theorem dX1_digest_85 : decode cX1_digest 85 = .ok (.iload 6, 2) := by decide +kernel
theorem dX1_digest_87 : decode cX1_digest 87 = .ok (.iload 5, 2) := by decide +kernel
theorem dX1_digest_89 : decode cX1_digest 89 = .ok (.if_icmp .ge 26, 3) := by decide +kernel
theorem dX1_digest_92 : decode cX1_digest 92 = .ok (.aload 4, 2) := by decide +kernel
theorem dX1_digest_94 : decode cX1_digest 94 = .ok (.iload 6, 2) := by decide +kernel
theorem dX1_digest_96 : decode cX1_digest 96 = .ok (.iaload, 1) := by decide +kernel
theorem dX1_digest_97 : decode cX1_digest 97 = .ok (.istore 7, 2) := by decide +kernel
theorem dX1_digest_99 : decode cX1_digest 99 = .ok (.lload_n 2, 1) := by decide +kernel
theorem dX1_digest_100 : decode cX1_digest 100 = .ok (.ldc2_w 132, 3) := by decide +kernel
theorem dX1_digest_103 : decode cX1_digest 103 = .ok (.lmul, 1) := by decide +kernel
theorem dX1_digest_104 : decode cX1_digest 104 = .ok (.iload 7, 2) := by decide +kernel
theorem dX1_digest_106 : decode cX1_digest 106 = .ok (.i2l, 1) := by decide +kernel
theorem dX1_digest_107 : decode cX1_digest 107 = .ok (.ladd, 1) := by decide +kernel
theorem dX1_digest_108 : decode cX1_digest 108 = .ok (.lstore_n 2, 1) := by decide +kernel
theorem dX1_digest_109 : decode cX1_digest 109 = .ok (.iinc 6 1, 3) := by decide +kernel
theorem dX1_digest_112 : decode cX1_digest 112 = .ok (.goto (-27), 3) := by decide +kernel
theorem dX1_digest_115 : decode cX1_digest 115 = .ok (.iconst 0, 1) := by decide +kernel
theorem dX1_digest_116 : decode cX1_digest 116 = .ok (.istore 4, 2) := by decide +kernel
theorem dX1_digest_118 : decode cX1_digest 118 = .ok (.iload 4, 2) := by decide +kernel
theorem dX1_digest_120 : decode cX1_digest 120 = .ok (.aload_n 0, 1) := by decide +kernel
theorem dX1_digest_121 : decode cX1_digest 121 = .ok (.getfield 29, 3) := by decide +kernel
theorem dX1_digest_124 : decode cX1_digest 124 = .ok (.if_icmp .ge 128, 3) := by decide +kernel
theorem dX1_digest_127 : decode cX1_digest 127 = .ok (.bipush 7, 2) := by decide +kernel
theorem dX1_digest_129 : decode cX1_digest 129 = .ok (.newarray .int, 2) := by decide +kernel
theorem dX1_digest_131 : decode cX1_digest 131 = .ok (.dup, 1) := by decide +kernel
theorem dX1_digest_132 : decode cX1_digest 132 = .ok (.iconst 0, 1) := by decide +kernel
theorem dX1_digest_133 : decode cX1_digest 133 = .ok (.aload_n 0, 1) := by decide +kernel
theorem dX1_digest_134 : decode cX1_digest 134 = .ok (.getfield 19, 3) := by decide +kernel
theorem dX1_digest_137 : decode cX1_digest 137 = .ok (.iconst 1, 1) := by decide +kernel
theorem dX1_digest_138 : decode cX1_digest 138 = .ok (.iload 4, 2) := by decide +kernel
theorem dX1_digest_140 : decode cX1_digest 140 = .ok (.iadd, 1) := by decide +kernel
theorem dX1_digest_141 : decode cX1_digest 141 = .ok (.iaload, 1) := by decide +kernel
theorem dX1_digest_142 : decode cX1_digest 142 = .ok (.iastore, 1) := by decide +kernel
theorem dX1_digest_143 : decode cX1_digest 143 = .ok (.dup, 1) := by decide +kernel
theorem dX1_digest_144 : decode cX1_digest 144 = .ok (.iconst 1, 1) := by decide +kernel
theorem dX1_digest_145 : decode cX1_digest 145 = .ok (.aload_n 0, 1) := by decide +kernel
theorem dX1_digest_146 : decode cX1_digest 146 = .ok (.iload 4, 2) := by decide +kernel
theorem dX1_digest_148 : decode cX1_digest 148 = .ok (.invokevirtual 54, 3) := by decide +kernel
theorem dX1_digest_151 : decode cX1_digest 151 = .ok (.iastore, 1) := by decide +kernel
theorem dX1_digest_152 : decode cX1_digest 152 = .ok (.dup, 1) := by decide +kernel
theorem dX1_digest_153 : decode cX1_digest 153 = .ok (.iconst 2, 1) := by decide +kernel
theorem dX1_digest_154 : decode cX1_digest 154 = .ok (.aload_n 0, 1) := by decide +kernel
theorem dX1_digest_155 : decode cX1_digest 155 = .ok (.iload 4, 2) := by decide +kernel
theorem dX1_digest_157 : decode cX1_digest 157 = .ok (.invokevirtual 61, 3) := by decide +kernel
theorem dX1_digest_160 : decode cX1_digest 160 = .ok (.iastore, 1) := by decide +kernel
theorem dX1_digest_161 : decode cX1_digest 161 = .ok (.dup, 1) := by decide +kernel
theorem dX1_digest_162 : decode cX1_digest 162 = .ok (.iconst 3, 1) := by decide +kernel
theorem dX1_digest_163 : decode cX1_digest 163 = .ok (.aload_n 0, 1) := by decide +kernel
theorem dX1_digest_164 : decode cX1_digest 164 = .ok (.iload 4, 2) := by decide +kernel
theorem dX1_digest_166 : decode cX1_digest 166 = .ok (.invokevirtual 91, 3) := by decide +kernel
theorem dX1_digest_169 : decode cX1_digest 169 = .ok (.iastore, 1) := by decide +kernel
theorem dX1_digest_170 : decode cX1_digest 170 = .ok (.dup, 1) := by decide +kernel
theorem dX1_digest_171 : decode cX1_digest 171 = .ok (.iconst 4, 1) := by decide +kernel
theorem dX1_digest_172 : decode cX1_digest 172 = .ok (.aload_n 0, 1) := by decide +kernel
theorem dX1_digest_173 : decode cX1_digest 173 = .ok (.getfield 19, 3) := by decide +kernel
theorem dX1_digest_176 : decode cX1_digest 176 = .ok (.bipush 9, 2) := by decide +kernel
theorem dX1_digest_178 : decode cX1_digest 178 = .ok (.iload 4, 2) := by decide +kernel
theorem dX1_digest_180 : decode cX1_digest 180 = .ok (.iadd, 1) := by decide +kernel
theorem dX1_digest_181 : decode cX1_digest 181 = .ok (.iaload, 1) := by decide +kernel
theorem dX1_digest_182 : decode cX1_digest 182 = .ok (.iastore, 1) := by decide +kernel
theorem dX1_digest_183 : decode cX1_digest 183 = .ok (.dup, 1) := by decide +kernel
theorem dX1_digest_184 : decode cX1_digest 184 = .ok (.iconst 5, 1) := by decide +kernel
theorem dX1_digest_185 : decode cX1_digest 185 = .ok (.aload_n 0, 1) := by decide +kernel
theorem dX1_digest_186 : decode cX1_digest 186 = .ok (.iload 4, 2) := by decide +kernel
theorem dX1_digest_188 : decode cX1_digest 188 = .ok (.invokevirtual 94, 3) := by decide +kernel
theorem dX1_digest_191 : decode cX1_digest 191 = .ok (.iastore, 1) := by decide +kernel
theorem dX1_digest_192 : decode cX1_digest 192 = .ok (.dup, 1) := by decide +kernel
theorem dX1_digest_193 : decode cX1_digest 193 = .ok (.bipush 6, 2) := by decide +kernel
theorem dX1_digest_195 : decode cX1_digest 195 = .ok (.aload_n 0, 1) := by decide +kernel
theorem dX1_digest_196 : decode cX1_digest 196 = .ok (.iload 4, 2) := by decide +kernel
theorem dX1_digest_198 : decode cX1_digest 198 = .ok (.invokevirtual 115, 3) := by decide +kernel
theorem dX1_digest_201 : decode cX1_digest 201 = .ok (.iastore, 1) := by decide +kernel
theorem dX1_digest_202 : decode cX1_digest 202 = .ok (.astore 5, 2) := by decide +kernel
theorem dX1_digest_204 : decode cX1_digest 204 = .ok (.aload 5, 2) := by decide +kernel
theorem dX1_digest_206 : decode cX1_digest 206 = .ok (.astore 6, 2) := by decide +kernel
theorem dX1_digest_208 : decode cX1_digest 208 = .ok (.aload 6, 2) := by decide +kernel
theorem dX1_digest_210 : decode cX1_digest 210 = .ok (.arraylength, 1) := by decide +kernel
theorem dX1_digest_211 : decode cX1_digest 211 = .ok (.istore 7, 2) := by decide +kernel
theorem dX1_digest_213 : decode cX1_digest 213 = .ok (.iconst 0, 1) := by decide +kernel
theorem dX1_digest_214 : decode cX1_digest 214 = .ok (.istore 8, 2) := by decide +kernel
theorem dX1_digest_216 : decode cX1_digest 216 = .ok (.iload 8, 2) := by decide +kernel
theorem dX1_digest_218 : decode cX1_digest 218 = .ok (.iload 7, 2) := by decide +kernel
theorem dX1_digest_220 : decode cX1_digest 220 = .ok (.if_icmp .ge 26, 3) := by decide +kernel
theorem dX1_digest_223 : decode cX1_digest 223 = .ok (.aload 6, 2) := by decide +kernel
theorem dX1_digest_225 : decode cX1_digest 225 = .ok (.iload 8, 2) := by decide +kernel
theorem dX1_digest_227 : decode cX1_digest 227 = .ok (.iaload, 1) := by decide +kernel
theorem dX1_digest_228 : decode cX1_digest 228 = .ok (.istore 9, 2) := by decide +kernel
theorem dX1_digest_230 : decode cX1_digest 230 = .ok (.lload_n 2, 1) := by decide +kernel
theorem dX1_digest_231 : decode cX1_digest 231 = .ok (.ldc2_w 132, 3) := by decide +kernel
theorem dX1_digest_234 : decode cX1_digest 234 = .ok (.lmul, 1) := by decide +kernel
theorem dX1_digest_235 : decode cX1_digest 235 = .ok (.iload 9, 2) := by decide +kernel
theorem dX1_digest_237 : decode cX1_digest 237 = .ok (.i2l, 1) := by decide +kernel
theorem dX1_digest_238 : decode cX1_digest 238 = .ok (.ladd, 1) := by decide +kernel
theorem dX1_digest_239 : decode cX1_digest 239 = .ok (.lstore_n 2, 1) := by decide +kernel
theorem dX1_digest_240 : decode cX1_digest 240 = .ok (.iinc 8 1, 3) := by decide +kernel
theorem dX1_digest_243 : decode cX1_digest 243 = .ok (.goto (-27), 3) := by decide +kernel
theorem dX1_digest_246 : decode cX1_digest 246 = .ok (.iinc 4 1, 3) := by decide +kernel
theorem dX1_digest_249 : decode cX1_digest 249 = .ok (.goto (-131), 3) := by decide +kernel
theorem dX1_digest_252 : decode cX1_digest 252 = .ok (.iconst 0, 1) := by decide +kernel
theorem dX1_digest_253 : decode cX1_digest 253 = .ok (.istore 4, 2) := by decide +kernel
theorem dX1_digest_255 : decode cX1_digest 255 = .ok (.iload 4, 2) := by decide +kernel
theorem dX1_digest_257 : decode cX1_digest 257 = .ok (.aload_n 0, 1) := by decide +kernel
theorem dX1_digest_258 : decode cX1_digest 258 = .ok (.getfield 36, 3) := by decide +kernel
theorem dX1_digest_261 : decode cX1_digest 261 = .ok (.if_icmp .ge 93, 3) := by decide +kernel
theorem dX1_digest_264 : decode cX1_digest 264 = .ok (.lload_n 2, 1) := by decide +kernel
theorem dX1_digest_265 : decode cX1_digest 265 = .ok (.ldc2_w 132, 3) := by decide +kernel
theorem dX1_digest_268 : decode cX1_digest 268 = .ok (.lmul, 1) := by decide +kernel
theorem dX1_digest_269 : decode cX1_digest 269 = .ok (.aload_n 0, 1) := by decide +kernel
theorem dX1_digest_270 : decode cX1_digest 270 = .ok (.getfield 19, 3) := by decide +kernel
theorem dX1_digest_273 : decode cX1_digest 273 = .ok (.bipush 17, 2) := by decide +kernel
theorem dX1_digest_275 : decode cX1_digest 275 = .ok (.iload 4, 2) := by decide +kernel
theorem dX1_digest_277 : decode cX1_digest 277 = .ok (.iadd, 1) := by decide +kernel
theorem dX1_digest_278 : decode cX1_digest 278 = .ok (.iaload, 1) := by decide +kernel
theorem dX1_digest_279 : decode cX1_digest 279 = .ok (.i2l, 1) := by decide +kernel
theorem dX1_digest_280 : decode cX1_digest 280 = .ok (.ladd, 1) := by decide +kernel
theorem dX1_digest_281 : decode cX1_digest 281 = .ok (.lstore_n 2, 1) := by decide +kernel
theorem dX1_digest_282 : decode cX1_digest 282 = .ok (.lload_n 2, 1) := by decide +kernel
theorem dX1_digest_283 : decode cX1_digest 283 = .ok (.ldc2_w 132, 3) := by decide +kernel
theorem dX1_digest_286 : decode cX1_digest 286 = .ok (.lmul, 1) := by decide +kernel
theorem dX1_digest_287 : decode cX1_digest 287 = .ok (.aload_n 0, 1) := by decide +kernel
theorem dX1_digest_288 : decode cX1_digest 288 = .ok (.iload 4, 2) := by decide +kernel
theorem dX1_digest_290 : decode cX1_digest 290 = .ok (.invokevirtual 103, 3) := by decide +kernel
theorem dX1_digest_293 : decode cX1_digest 293 = .ok (.i2l, 1) := by decide +kernel
theorem dX1_digest_294 : decode cX1_digest 294 = .ok (.ladd, 1) := by decide +kernel
theorem dX1_digest_295 : decode cX1_digest 295 = .ok (.lstore_n 2, 1) := by decide +kernel
theorem dX1_digest_296 : decode cX1_digest 296 = .ok (.lload_n 2, 1) := by decide +kernel
theorem dX1_digest_297 : decode cX1_digest 297 = .ok (.ldc2_w 132, 3) := by decide +kernel
theorem dX1_digest_300 : decode cX1_digest 300 = .ok (.lmul, 1) := by decide +kernel
theorem dX1_digest_301 : decode cX1_digest 301 = .ok (.aload_n 0, 1) := by decide +kernel
theorem dX1_digest_302 : decode cX1_digest 302 = .ok (.iload 4, 2) := by decide +kernel
theorem dX1_digest_304 : decode cX1_digest 304 = .ok (.invokevirtual 109, 3) := by decide +kernel
theorem dX1_digest_307 : decode cX1_digest 307 = .ok (.i2l, 1) := by decide +kernel
theorem dX1_digest_308 : decode cX1_digest 308 = .ok (.ladd, 1) := by decide +kernel
theorem dX1_digest_309 : decode cX1_digest 309 = .ok (.lstore_n 2, 1) := by decide +kernel
theorem dX1_digest_310 : decode cX1_digest 310 = .ok (.iconst 0, 1) := by decide +kernel
theorem dX1_digest_311 : decode cX1_digest 311 = .ok (.istore 5, 2) := by decide +kernel
theorem dX1_digest_313 : decode cX1_digest 313 = .ok (.iload 5, 2) := by decide +kernel
theorem dX1_digest_315 : decode cX1_digest 315 = .ok (.aload_n 0, 1) := by decide +kernel
theorem dX1_digest_316 : decode cX1_digest 316 = .ok (.getfield 29, 3) := by decide +kernel
theorem dX1_digest_319 : decode cX1_digest 319 = .ok (.if_icmp .ge 29, 3) := by decide +kernel
theorem dX1_digest_322 : decode cX1_digest 322 = .ok (.lload_n 2, 1) := by decide +kernel
theorem dX1_digest_323 : decode cX1_digest 323 = .ok (.ldc2_w 132, 3) := by decide +kernel
theorem dX1_digest_326 : decode cX1_digest 326 = .ok (.lmul, 1) := by decide +kernel
theorem dX1_digest_327 : decode cX1_digest 327 = .ok (.aload_n 0, 1) := by decide +kernel
theorem dX1_digest_328 : decode cX1_digest 328 = .ok (.getfield 19, 3) := by decide +kernel
theorem dX1_digest_331 : decode cX1_digest 331 = .ok (.iload 4, 2) := by decide +kernel
theorem dX1_digest_333 : decode cX1_digest 333 = .ok (.iload 5, 2) := by decide +kernel
theorem dX1_digest_335 : decode cX1_digest 335 = .ok (.invokestatic 45, 3) := by decide +kernel
theorem dX1_digest_338 : decode cX1_digest 338 = .ok (.iaload, 1) := by decide +kernel
theorem dX1_digest_339 : decode cX1_digest 339 = .ok (.i2l, 1) := by decide +kernel
theorem dX1_digest_340 : decode cX1_digest 340 = .ok (.ladd, 1) := by decide +kernel
theorem dX1_digest_341 : decode cX1_digest 341 = .ok (.lstore_n 2, 1) := by decide +kernel
theorem dX1_digest_342 : decode cX1_digest 342 = .ok (.iinc 5 1, 3) := by decide +kernel
theorem dX1_digest_345 : decode cX1_digest 345 = .ok (.goto (-32), 3) := by decide +kernel
theorem dX1_digest_348 : decode cX1_digest 348 = .ok (.iinc 4 1, 3) := by decide +kernel
theorem dX1_digest_351 : decode cX1_digest 351 = .ok (.goto (-96), 3) := by decide +kernel
theorem dX1_digest_354 : decode cX1_digest 354 = .ok (.lload_n 2, 1) := by decide +kernel
theorem dX1_digest_355 : decode cX1_digest 355 = .ok (.lreturn, 1) := by decide +kernel
theorem dJ9_floorMod_7cf53_0 : decode cJ9_floorMod_7cf53 0 = .ok (.iload_n 0, 1) := by decide +kernel
theorem dJ9_floorMod_7cf53_1 : decode cJ9_floorMod_7cf53 1 = .ok (.iload_n 1, 1) := by decide +kernel
theorem dJ9_floorMod_7cf53_2 : decode cJ9_floorMod_7cf53 2 = .ok (.irem, 1) := by decide +kernel
theorem dJ9_floorMod_7cf53_3 : decode cJ9_floorMod_7cf53 3 = .ok (.istore_n 2, 1) := by decide +kernel
theorem dJ9_floorMod_7cf53_4 : decode cJ9_floorMod_7cf53 4 = .ok (.iload_n 0, 1) := by decide +kernel
theorem dJ9_floorMod_7cf53_5 : decode cJ9_floorMod_7cf53 5 = .ok (.iload_n 1, 1) := by decide +kernel
theorem dJ9_floorMod_7cf53_6 : decode cJ9_floorMod_7cf53 6 = .ok (.ixor, 1) := by decide +kernel
theorem dJ9_floorMod_7cf53_7 : decode cJ9_floorMod_7cf53 7 = .ok (.ifCond .ge 11, 3) := by decide +kernel
theorem dJ9_floorMod_7cf53_10 : decode cJ9_floorMod_7cf53 10 = .ok (.iload_n 2, 1) := by decide +kernel
theorem dJ9_floorMod_7cf53_11 : decode cJ9_floorMod_7cf53 11 = .ok (.ifCond .eq 7, 3) := by decide +kernel
theorem dJ9_floorMod_7cf53_14 : decode cJ9_floorMod_7cf53 14 = .ok (.iload_n 2, 1) := by decide +kernel
theorem dJ9_floorMod_7cf53_15 : decode cJ9_floorMod_7cf53 15 = .ok (.iload_n 1, 1) := by decide +kernel
theorem dJ9_floorMod_7cf53_16 : decode cJ9_floorMod_7cf53 16 = .ok (.iadd, 1) := by decide +kernel
theorem dJ9_floorMod_7cf53_17 : decode cJ9_floorMod_7cf53 17 = .ok (.ireturn, 1) := by decide +kernel
theorem dJ9_floorMod_7cf53_18 : decode cJ9_floorMod_7cf53 18 = .ok (.iload_n 2, 1) := by decide +kernel
theorem dJ9_floorMod_7cf53_19 : decode cJ9_floorMod_7cf53 19 = .ok (.ireturn, 1) := by decide +kernel
theorem dJ9_max_7cf53_0 : decode cJ9_max_7cf53 0 = .ok (.iload_n 0, 1) := by decide +kernel
theorem dJ9_max_7cf53_1 : decode cJ9_max_7cf53 1 = .ok (.iload_n 1, 1) := by decide +kernel
theorem dJ9_max_7cf53_2 : decode cJ9_max_7cf53 2 = .ok (.if_icmp .lt 7, 3) := by decide +kernel
theorem dJ9_max_7cf53_5 : decode cJ9_max_7cf53 5 = .ok (.iload_n 0, 1) := by decide +kernel
theorem dJ9_max_7cf53_6 : decode cJ9_max_7cf53 6 = .ok (.goto 4, 3) := by decide +kernel
theorem dJ9_max_7cf53_9 : decode cJ9_max_7cf53 9 = .ok (.iload_n 1, 1) := by decide +kernel
theorem dJ9_max_7cf53_10 : decode cJ9_max_7cf53 10 = .ok (.ireturn, 1) := by decide +kernel
theorem dJ9_min_7cf53_0 : decode cJ9_min_7cf53 0 = .ok (.iload_n 0, 1) := by decide +kernel
theorem dJ9_min_7cf53_1 : decode cJ9_min_7cf53 1 = .ok (.iload_n 1, 1) := by decide +kernel
theorem dJ9_min_7cf53_2 : decode cJ9_min_7cf53 2 = .ok (.if_icmp .gt 7, 3) := by decide +kernel
theorem dJ9_min_7cf53_5 : decode cJ9_min_7cf53 5 = .ok (.iload_n 0, 1) := by decide +kernel
theorem dJ9_min_7cf53_6 : decode cJ9_min_7cf53 6 = .ok (.goto 4, 3) := by decide +kernel
theorem dJ9_min_7cf53_9 : decode cJ9_min_7cf53 9 = .ok (.iload_n 1, 1) := by decide +kernel
theorem dJ9_min_7cf53_10 : decode cJ9_min_7cf53 10 = .ok (.ireturn, 1) := by decide +kernel
