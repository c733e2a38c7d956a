theorem dX1_init_0 : decode cX1_init 0 = .ok (.aload_n 0, 1) := by decide +kernel
theorem dX1_init_1 : decode cX1_init 1 = .ok (.invokespecial 1, 3) := by decide +kernel
theorem dX1_init_4 : decode cX1_init 4 = .ok (.aload_n 0, 1) := by decide +kernel
theorem dX1_init_5 : decode cX1_init 5 = .ok (.iconst 0, 1) := by decide +kernel
theorem dX1_init_6 : decode cX1_init 6 = .ok (.anewarray 7, 3) := by decide +kernel
theorem dX1_init_9 : decode cX1_init 9 = .ok (.putfield 9, 3) := by decide +kernel
theorem dX1_init_12 : decode cX1_init 12 = .ok (.aload_n 0, 1) := by decide +kernel
theorem dX1_init_13 : decode cX1_init 13 = .ok (.iconst 0, 1) := by decide +kernel
theorem dX1_init_14 : decode cX1_init 14 = .ok (.newarray .int, 2) := by decide +kernel
theorem dX1_init_16 : decode cX1_init 16 = .ok (.putfield 15, 3) := by decide +kernel
theorem dX1_init_19 : decode cX1_init 19 = .ok (.aload_n 0, 1) := by decide +kernel
theorem dX1_init_20 : decode cX1_init 20 = .ok (.bipush 6, 2) := by decide +kernel
theorem dX1_init_22 : decode cX1_init 22 = .ok (.bipush 8, 2) := by decide +kernel
theorem dX1_init_24 : decode cX1_init 24 = .ok (.multianewarray 18 2, 4) := by decide +kernel
theorem dX1_init_28 : decode cX1_init 28 = .ok (.putfield 19, 3) := by decide +kernel
theorem dX1_init_31 : decode cX1_init 31 = .ok (.return_, 1) := by decide +kernel
theorem dX1_with_0 : decode cX1_with 0 = .ok (.aload_n 0, 1) := by decide +kernel
theorem dX1_with_1 : decode cX1_with 1 = .ok (.arraylength, 1) := by decide +kernel
theorem dX1_with_2 : decode cX1_with 2 = .ok (.iconst 1, 1) := by decide +kernel
theorem dX1_with_3 : decode cX1_with 3 = .ok (.iadd, 1) := by decide +kernel
theorem dX1_with_4 : decode cX1_with 4 = .ok (.anewarray 7, 3) := by decide +kernel
theorem dX1_with_7 : decode cX1_with 7 = .ok (.astore_n 2, 1) := by decide +kernel
theorem dX1_with_8 : decode cX1_with 8 = .ok (.iconst 0, 1) := by decide +kernel
theorem dX1_with_9 : decode cX1_with 9 = .ok (.istore_n 3, 1) := by decide +kernel
theorem dX1_with_10 : decode cX1_with 10 = .ok (.iload_n 3, 1) := by decide +kernel
theorem dX1_with_11 : decode cX1_with 11 = .ok (.aload_n 0, 1) := by decide +kernel
theorem dX1_with_12 : decode cX1_with 12 = .ok (.arraylength, 1) := by decide +kernel
theorem dX1_with_13 : decode cX1_with 13 = .ok (.if_icmp .ge 15, 3) := by decide +kernel
theorem dX1_with_16 : decode cX1_with 16 = .ok (.aload_n 2, 1) := by decide +kernel
theorem dX1_with_17 : decode cX1_with 17 = .ok (.iload_n 3, 1) := by decide +kernel
theorem dX1_with_18 : decode cX1_with 18 = .ok (.aload_n 0, 1) := by decide +kernel
theorem dX1_with_19 : decode cX1_with 19 = .ok (.iload_n 3, 1) := by decide +kernel
theorem dX1_with_20 : decode cX1_with 20 = .ok (.aaload, 1) := by decide +kernel
theorem dX1_with_21 : decode cX1_with 21 = .ok (.aastore, 1) := by decide +kernel
theorem dX1_with_22 : decode cX1_with 22 = .ok (.iinc 3 1, 3) := by decide +kernel
theorem dX1_with_25 : decode cX1_with 25 = .ok (.goto (-15), 3) := by decide +kernel
theorem dX1_with_28 : decode cX1_with 28 = .ok (.aload_n 2, 1) := by decide +kernel
theorem dX1_with_29 : decode cX1_with 29 = .ok (.aload_n 0, 1) := by decide +kernel
theorem dX1_with_30 : decode cX1_with 30 = .ok (.arraylength, 1) := by decide +kernel
theorem dX1_with_31 : decode cX1_with 31 = .ok (.aload_n 1, 1) := by decide +kernel
theorem dX1_with_32 : decode cX1_with 32 = .ok (.aastore, 1) := by decide +kernel
theorem dX1_with_33 : decode cX1_with 33 = .ok (.aload_n 2, 1) := by decide +kernel
theorem dX1_with_34 : decode cX1_with 34 = .ok (.areturn, 1) := by decide +kernel
theorem dX1_addTrader_0 : decode cX1_addTrader 0 = .ok (.aload_n 0, 1) := by decide +kernel
theorem dX1_addTrader_1 : decode cX1_addTrader 1 = .ok (.getfield 15, 3) := by decide +kernel
theorem dX1_addTrader_4 : decode cX1_addTrader 4 = .ok (.arraylength, 1) := by decide +kernel
theorem dX1_addTrader_5 : decode cX1_addTrader 5 = .ok (.iconst 1, 1) := by decide +kernel
theorem dX1_addTrader_6 : decode cX1_addTrader 6 = .ok (.iadd, 1) := by decide +kernel
theorem dX1_addTrader_7 : decode cX1_addTrader 7 = .ok (.newarray .int, 2) := by decide +kernel
theorem dX1_addTrader_9 : decode cX1_addTrader 9 = .ok (.astore_n 1, 1) := by decide +kernel
theorem dX1_addTrader_10 : decode cX1_addTrader 10 = .ok (.iconst 0, 1) := by decide +kernel
theorem dX1_addTrader_11 : decode cX1_addTrader 11 = .ok (.istore_n 2, 1) := by decide +kernel
theorem dX1_addTrader_12 : decode cX1_addTrader 12 = .ok (.iload_n 2, 1) := by decide +kernel
theorem dX1_addTrader_13 : decode cX1_addTrader 13 = .ok (.aload_n 0, 1) := by decide +kernel
theorem dX1_addTrader_14 : decode cX1_addTrader 14 = .ok (.getfield 15, 3) := by decide +kernel
theorem dX1_addTrader_17 : decode cX1_addTrader 17 = .ok (.arraylength, 1) := by decide +kernel
theorem dX1_addTrader_18 : decode cX1_addTrader 18 = .ok (.if_icmp .ge 18, 3) := by decide +kernel
theorem dX1_addTrader_21 : decode cX1_addTrader 21 = .ok (.aload_n 1, 1) := by decide +kernel
theorem dX1_addTrader_22 : decode cX1_addTrader 22 = .ok (.iload_n 2, 1) := by decide +kernel
theorem dX1_addTrader_23 : decode cX1_addTrader 23 = .ok (.aload_n 0, 1) := by decide +kernel
theorem dX1_addTrader_24 : decode cX1_addTrader 24 = .ok (.getfield 15, 3) := by decide +kernel
theorem dX1_addTrader_27 : decode cX1_addTrader 27 = .ok (.iload_n 2, 1) := by decide +kernel
theorem dX1_addTrader_28 : decode cX1_addTrader 28 = .ok (.iaload, 1) := by decide +kernel
theorem dX1_addTrader_29 : decode cX1_addTrader 29 = .ok (.iastore, 1) := by decide +kernel
theorem dX1_addTrader_30 : decode cX1_addTrader 30 = .ok (.iinc 2 1, 3) := by decide +kernel
theorem dX1_addTrader_33 : decode cX1_addTrader 33 = .ok (.goto (-21), 3) := by decide +kernel
theorem dX1_addTrader_36 : decode cX1_addTrader 36 = .ok (.aload_n 1, 1) := by decide +kernel
theorem dX1_addTrader_37 : decode cX1_addTrader 37 = .ok (.aload_n 0, 1) := by decide +kernel
theorem dX1_addTrader_38 : decode cX1_addTrader 38 = .ok (.getfield 15, 3) := by decide +kernel
theorem dX1_addTrader_41 : decode cX1_addTrader 41 = .ok (.arraylength, 1) := by decide +kernel
theorem dX1_addTrader_42 : decode cX1_addTrader 42 = .ok (.bipush 100, 2) := by decide +kernel
theorem dX1_addTrader_44 : decode cX1_addTrader 44 = .ok (.iastore, 1) := by decide +kernel
theorem dX1_addTrader_45 : decode cX1_addTrader 45 = .ok (.aload_n 0, 1) := by decide +kernel
theorem dX1_addTrader_46 : decode cX1_addTrader 46 = .ok (.aload_n 1, 1) := by decide +kernel
theorem dX1_addTrader_47 : decode cX1_addTrader 47 = .ok (.putfield 15, 3) := by decide +kernel
theorem dX1_addTrader_50 : decode cX1_addTrader 50 = .ok (.return_, 1) := by decide +kernel
theorem dX1_doves_0 : decode cX1_doves 0 = .ok (.iconst 0, 1) := by decide +kernel
theorem dX1_doves_1 : decode cX1_doves 1 = .ok (.istore_n 2, 1) := by decide +kernel
theorem dX1_doves_2 : decode cX1_doves 2 = .ok (.aload_n 0, 1) := by decide +kernel
theorem dX1_doves_3 : decode cX1_doves 3 = .ok (.getfield 19, 3) := by decide +kernel
theorem dX1_doves_6 : decode cX1_doves 6 = .ok (.astore_n 3, 1) := by decide +kernel
theorem dX1_doves_7 : decode cX1_doves 7 = .ok (.aload_n 3, 1) := by decide +kernel
theorem dX1_doves_8 : decode cX1_doves 8 = .ok (.arraylength, 1) := by decide +kernel
theorem dX1_doves_9 : decode cX1_doves 9 = .ok (.istore 4, 2) := by decide +kernel
theorem dX1_doves_11 : decode cX1_doves 11 = .ok (.iconst 0, 1) := by decide +kernel
theorem dX1_doves_12 : decode cX1_doves 12 = .ok (.istore 5, 2) := by decide +kernel
theorem dX1_doves_14 : decode cX1_doves 14 = .ok (.iload 5, 2) := by decide +kernel
theorem dX1_doves_16 : decode cX1_doves 16 = .ok (.iload 4, 2) := by decide +kernel
theorem dX1_doves_18 : decode cX1_doves 18 = .ok (.if_icmp .ge 34, 3) := by decide +kernel
theorem dX1_doves_21 : decode cX1_doves 21 = .ok (.aload_n 3, 1) := by decide +kernel
theorem dX1_doves_22 : decode cX1_doves 22 = .ok (.iload 5, 2) := by decide +kernel
theorem dX1_doves_24 : decode cX1_doves 24 = .ok (.aaload, 1) := by decide +kernel
theorem dX1_doves_25 : decode cX1_doves 25 = .ok (.astore 6, 2) := by decide +kernel
theorem dX1_doves_27 : decode cX1_doves 27 = .ok (.iload_n 2, 1) := by decide +kernel
theorem dX1_doves_28 : decode cX1_doves 28 = .ok (.aload 6, 2) := by decide +kernel
theorem dX1_doves_30 : decode cX1_doves 30 = .ok (.iload_n 1, 1) := by decide +kernel
theorem dX1_doves_31 : decode cX1_doves 31 = .ok (.iaload, 1) := by decide +kernel
theorem dX1_doves_32 : decode cX1_doves 32 = .ok (.ifCond .ge 11, 3) := by decide +kernel
theorem dX1_doves_35 : decode cX1_doves 35 = .ok (.aload 6, 2) := by decide +kernel
theorem dX1_doves_37 : decode cX1_doves 37 = .ok (.iload_n 1, 1) := by decide +kernel
theorem dX1_doves_38 : decode cX1_doves 38 = .ok (.iaload, 1) := by decide +kernel
theorem dX1_doves_39 : decode cX1_doves 39 = .ok (.ineg, 1) := by decide +kernel
theorem dX1_doves_40 : decode cX1_doves 40 = .ok (.goto 4, 3) := by decide +kernel
theorem dX1_doves_43 : decode cX1_doves 43 = .ok (.iconst 0, 1) := by decide +kernel
theorem dX1_doves_44 : decode cX1_doves 44 = .ok (.iadd, 1) := by decide +kernel
theorem dX1_doves_45 : decode cX1_doves 45 = .ok (.istore_n 2, 1) := by decide +kernel
theorem dX1_doves_46 : decode cX1_doves 46 = .ok (.iinc 5 1, 3) := by decide +kernel
theorem dX1_doves_49 : decode cX1_doves 49 = .ok (.goto (-35), 3) := by decide +kernel
theorem dX1_doves_52 : decode cX1_doves 52 = .ok (.iload_n 2, 1) := by decide +kernel
theorem dX1_doves_53 : decode cX1_doves 53 = .ok (.ireturn, 1) := by decide +kernel
theorem dX1_price_0 : decode cX1_price 0 = .ok (.aload_n 0, 1) := by decide +kernel
theorem dX1_price_1 : decode cX1_price 1 = .ok (.getfield 9, 3) := by decide +kernel
theorem dX1_price_4 : decode cX1_price 4 = .ok (.iload_n 1, 1) := by decide +kernel
theorem dX1_price_5 : decode cX1_price 5 = .ok (.aaload, 1) := by decide +kernel
theorem dX1_price_6 : decode cX1_price 6 = .ok (.iconst 3, 1) := by decide +kernel
theorem dX1_price_7 : decode cX1_price 7 = .ok (.iaload, 1) := by decide +kernel
theorem dX1_price_8 : decode cX1_price 8 = .ok (.aload_n 0, 1) := by decide +kernel
theorem dX1_price_9 : decode cX1_price 9 = .ok (.getfield 9, 3) := by decide +kernel
theorem dX1_price_12 : decode cX1_price 12 = .ok (.iload_n 1, 1) := by decide +kernel
theorem dX1_price_13 : decode cX1_price 13 = .ok (.aaload, 1) := by decide +kernel
theorem dX1_price_14 : decode cX1_price 14 = .ok (.iconst 0, 1) := by decide +kernel
theorem dX1_price_15 : decode cX1_price 15 = .ok (.iaload, 1) := by decide +kernel
theorem dX1_price_16 : decode cX1_price 16 = .ok (.imul, 1) := by decide +kernel
theorem dX1_price_17 : decode cX1_price 17 = .ok (.aload_n 0, 1) := by decide +kernel
theorem dX1_price_18 : decode cX1_price 18 = .ok (.iload_n 1, 1) := by decide +kernel
theorem dX1_price_19 : decode cX1_price 19 = .ok (.invokevirtual 22, 3) := by decide +kernel
theorem dX1_price_22 : decode cX1_price 22 = .ok (.isub, 1) := by decide +kernel
theorem dX1_price_23 : decode cX1_price 23 = .ok (.aload_n 0, 1) := by decide +kernel
theorem dX1_price_24 : decode cX1_price 24 = .ok (.iload_n 1, 1) := by decide +kernel
theorem dX1_price_25 : decode cX1_price 25 = .ok (.invokevirtual 22, 3) := by decide +kernel
theorem dX1_price_28 : decode cX1_price 28 = .ok (.isub, 1) := by decide +kernel
theorem dX1_price_29 : decode cX1_price 29 = .ok (.istore_n 2, 1) := by decide +kernel
theorem dX1_price_30 : decode cX1_price 30 = .ok (.iload_n 2, 1) := by decide +kernel
theorem dX1_price_31 : decode cX1_price 31 = .ok (.ifCond .ge 7, 3) := by decide +kernel
theorem dX1_price_34 : decode cX1_price 34 = .ok (.iconst 0, 1) := by decide +kernel
theorem dX1_price_35 : decode cX1_price 35 = .ok (.goto 4, 3) := by decide +kernel
theorem dX1_price_38 : decode cX1_price 38 = .ok (.iload_n 2, 1) := by decide +kernel
theorem dX1_price_39 : decode cX1_price 39 = .ok (.ireturn, 1) := by decide +kernel
theorem dX1_until_0 : decode cX1_until 0 = .ok (.aload_n 0, 1) := by decide +kernel
theorem dX1_until_1 : decode cX1_until 1 = .ok (.getfield 9, 3) := by decide +kernel
theorem dX1_until_4 : decode cX1_until 4 = .ok (.iload_n 1, 1) := by decide +kernel
theorem dX1_until_5 : decode cX1_until 5 = .ok (.aaload, 1) := by decide +kernel
theorem dX1_until_6 : decode cX1_until 6 = .ok (.iconst 2, 1) := by decide +kernel
theorem dX1_until_7 : decode cX1_until 7 = .ok (.iaload, 1) := by decide +kernel
theorem dX1_until_8 : decode cX1_until 8 = .ok (.aload_n 0, 1) := by decide +kernel
theorem dX1_until_9 : decode cX1_until 9 = .ok (.getfield 26, 3) := by decide +kernel
theorem dX1_until_12 : decode cX1_until 12 = .ok (.isub, 1) := by decide +kernel
theorem dX1_until_13 : decode cX1_until 13 = .ok (.aload_n 0, 1) := by decide +kernel
theorem dX1_until_14 : decode cX1_until 14 = .ok (.getfield 9, 3) := by decide +kernel
theorem dX1_until_17 : decode cX1_until 17 = .ok (.iload_n 1, 1) := by decide +kernel
theorem dX1_until_18 : decode cX1_until 18 = .ok (.aaload, 1) := by decide +kernel
theorem dX1_until_19 : decode cX1_until 19 = .ok (.iconst 1, 1) := by decide +kernel
theorem dX1_until_20 : decode cX1_until 20 = .ok (.iaload, 1) := by decide +kernel
theorem dX1_until_21 : decode cX1_until 21 = .ok (.irem, 1) := by decide +kernel
theorem dX1_until_22 : decode cX1_until 22 = .ok (.istore_n 2, 1) := by decide +kernel
theorem dX1_until_23 : decode cX1_until 23 = .ok (.iload_n 2, 1) := by decide +kernel
theorem dX1_until_24 : decode cX1_until 24 = .ok (.ifCond .le 7, 3) := by decide +kernel
theorem dX1_until_27 : decode cX1_until 27 = .ok (.iload_n 2, 1) := by decide +kernel
theorem dX1_until_28 : decode cX1_until 28 = .ok (.goto 13, 3) := by decide +kernel
theorem dX1_until_31 : decode cX1_until 31 = .ok (.iload_n 2, 1) := by decide +kernel
theorem dX1_until_32 : decode cX1_until 32 = .ok (.aload_n 0, 1) := by decide +kernel
theorem dX1_until_33 : decode cX1_until 33 = .ok (.getfield 9, 3) := by decide +kernel
theorem dX1_until_36 : decode cX1_until 36 = .ok (.iload_n 1, 1) := by decide +kernel
theorem dX1_until_37 : decode cX1_until 37 = .ok (.aaload, 1) := by decide +kernel
theorem dX1_until_38 : decode cX1_until 38 = .ok (.iconst 1, 1) := by decide +kernel
theorem dX1_until_39 : decode cX1_until 39 = .ok (.iaload, 1) := by decide +kernel
theorem dX1_until_40 : decode cX1_until 40 = .ok (.iadd, 1) := by decide +kernel
theorem dX1_until_41 : decode cX1_until 41 = .ok (.ireturn, 1) := by decide +kernel
theorem dX1_pass_0 : decode cX1_pass 0 = .ok (.iconst 0, 1) := by decide +kernel
theorem dX1_pass_1 : decode cX1_pass 1 = .ok (.istore_n 1, 1) := by decide +kernel
theorem dX1_pass_2 : decode cX1_pass 2 = .ok (.aload_n 0, 1) := by decide +kernel
theorem dX1_pass_3 : decode cX1_pass 3 = .ok (.getfield 9, 3) := by decide +kernel
theorem dX1_pass_6 : decode cX1_pass 6 = .ok (.arraylength, 1) := by decide +kernel
theorem dX1_pass_7 : decode cX1_pass 7 = .ok (.newarray .int, 2) := by decide +kernel
theorem dX1_pass_9 : decode cX1_pass 9 = .ok (.astore_n 2, 1) := by decide +kernel
theorem dX1_pass_10 : decode cX1_pass 10 = .ok (.iconst 0, 1) := by decide +kernel
theorem dX1_pass_11 : decode cX1_pass 11 = .ok (.istore_n 3, 1) := by decide +kernel
theorem dX1_pass_12 : decode cX1_pass 12 = .ok (.iload_n 3, 1) := by decide +kernel
theorem dX1_pass_13 : decode cX1_pass 13 = .ok (.aload_n 0, 1) := by decide +kernel
theorem dX1_pass_14 : decode cX1_pass 14 = .ok (.getfield 9, 3) := by decide +kernel
theorem dX1_pass_17 : decode cX1_pass 17 = .ok (.arraylength, 1) := by decide +kernel
theorem dX1_pass_18 : decode cX1_pass 18 = .ok (.if_icmp .ge 17, 3) := by decide +kernel
theorem dX1_pass_21 : decode cX1_pass 21 = .ok (.aload_n 2, 1) := by decide +kernel
theorem dX1_pass_22 : decode cX1_pass 22 = .ok (.iload_n 3, 1) := by decide +kernel
theorem dX1_pass_23 : decode cX1_pass 23 = .ok (.aload_n 0, 1) := by decide +kernel
theorem dX1_pass_24 : decode cX1_pass 24 = .ok (.iload_n 3, 1) := by decide +kernel
theorem dX1_pass_25 : decode cX1_pass 25 = .ok (.invokevirtual 30, 3) := by decide +kernel
theorem dX1_pass_28 : decode cX1_pass 28 = .ok (.iastore, 1) := by decide +kernel
theorem dX1_pass_29 : decode cX1_pass 29 = .ok (.iinc 3 1, 3) := by decide +kernel
theorem dX1_pass_32 : decode cX1_pass 32 = .ok (.goto (-20), 3) := by decide +kernel
theorem dX1_pass_35 : decode cX1_pass 35 = .ok (.aload_n 0, 1) := by decide +kernel
theorem dX1_pass_36 : decode cX1_pass 36 = .ok (.dup, 1) := by decide +kernel
theorem dX1_pass_37 : decode cX1_pass 37 = .ok (.getfield 26, 3) := by decide +kernel
theorem dX1_pass_40 : decode cX1_pass 40 = .ok (.iconst 1, 1) := by decide +kernel
theorem dX1_pass_41 : decode cX1_pass 41 = .ok (.iadd, 1) := by decide +kernel
theorem dX1_pass_42 : decode cX1_pass 42 = .ok (.putfield 26, 3) := by decide +kernel
theorem dX1_pass_45 : decode cX1_pass 45 = .ok (.iconst 0, 1) := by decide +kernel
theorem dX1_pass_46 : decode cX1_pass 46 = .ok (.istore_n 3, 1) := by decide +kernel
theorem dX1_pass_47 : decode cX1_pass 47 = .ok (.iload_n 3, 1) := by decide +kernel
theorem dX1_pass_48 : decode cX1_pass 48 = .ok (.aload_n 0, 1) := by decide +kernel
theorem dX1_pass_49 : decode cX1_pass 49 = .ok (.getfield 9, 3) := by decide +kernel
theorem dX1_pass_52 : decode cX1_pass 52 = .ok (.arraylength, 1) := by decide +kernel
theorem dX1_pass_53 : decode cX1_pass 53 = .ok (.if_icmp .ge 113, 3) := by decide +kernel
theorem dX1_pass_56 : decode cX1_pass 56 = .ok (.aload_n 0, 1) := by decide +kernel
theorem dX1_pass_57 : decode cX1_pass 57 = .ok (.getfield 9, 3) := by decide +kernel
theorem dX1_pass_60 : decode cX1_pass 60 = .ok (.iload_n 3, 1) := by decide +kernel
theorem dX1_pass_61 : decode cX1_pass 61 = .ok (.aaload, 1) := by decide +kernel
theorem dX1_pass_62 : decode cX1_pass 62 = .ok (.astore 4, 2) := by decide +kernel
theorem dX1_pass_64 : decode cX1_pass 64 = .ok (.aload 4, 2) := by decide +kernel
theorem dX1_pass_66 : decode cX1_pass 66 = .ok (.iconst 3, 1) := by decide +kernel
theorem dX1_pass_67 : decode cX1_pass 67 = .ok (.dup2, 1) := by decide +kernel
theorem dX1_pass_68 : decode cX1_pass 68 = .ok (.iaload, 1) := by decide +kernel
theorem dX1_pass_69 : decode cX1_pass 69 = .ok (.iconst 1, 1) := by decide +kernel
theorem dX1_pass_70 : decode cX1_pass 70 = .ok (.iadd, 1) := by decide +kernel
theorem dX1_pass_71 : decode cX1_pass 71 = .ok (.iastore, 1) := by decide +kernel
theorem dX1_pass_72 : decode cX1_pass 72 = .ok (.aload_n 0, 1) := by decide +kernel
theorem dX1_pass_73 : decode cX1_pass 73 = .ok (.getfield 26, 3) := by decide +kernel
theorem dX1_pass_76 : decode cX1_pass 76 = .ok (.aload 4, 2) := by decide +kernel
theorem dX1_pass_78 : decode cX1_pass 78 = .ok (.iconst 2, 1) := by decide +kernel
theorem dX1_pass_79 : decode cX1_pass 79 = .ok (.iaload, 1) := by decide +kernel
theorem dX1_pass_80 : decode cX1_pass 80 = .ok (.isub, 1) := by decide +kernel
theorem dX1_pass_81 : decode cX1_pass 81 = .ok (.aload 4, 2) := by decide +kernel
theorem dX1_pass_83 : decode cX1_pass 83 = .ok (.iconst 1, 1) := by decide +kernel
theorem dX1_pass_84 : decode cX1_pass 84 = .ok (.iaload, 1) := by decide +kernel
theorem dX1_pass_85 : decode cX1_pass 85 = .ok (.irem, 1) := by decide +kernel
theorem dX1_pass_86 : decode cX1_pass 86 = .ok (.ifCond .eq 6, 3) := by decide +kernel
theorem dX1_pass_89 : decode cX1_pass 89 = .ok (.goto 71, 3) := by decide +kernel
theorem dX1_pass_92 : decode cX1_pass 92 = .ok (.aload 4, 2) := by decide +kernel
theorem dX1_pass_94 : decode cX1_pass 94 = .ok (.iconst 3, 1) := by decide +kernel
theorem dX1_pass_95 : decode cX1_pass 95 = .ok (.iconst 0, 1) := by decide +kernel
theorem dX1_pass_96 : decode cX1_pass 96 = .ok (.iastore, 1) := by decide +kernel
theorem dX1_pass_97 : decode cX1_pass 97 = .ok (.aload 4, 2) := by decide +kernel
theorem dX1_pass_99 : decode cX1_pass 99 = .ok (.iconst 4, 1) := by decide +kernel
theorem dX1_pass_100 : decode cX1_pass 100 = .ok (.dup2, 1) := by decide +kernel
theorem dX1_pass_101 : decode cX1_pass 101 = .ok (.iaload, 1) := by decide +kernel
theorem dX1_pass_102 : decode cX1_pass 102 = .ok (.iconst 1, 1) := by decide +kernel
theorem dX1_pass_103 : decode cX1_pass 103 = .ok (.iadd, 1) := by decide +kernel
theorem dX1_pass_104 : decode cX1_pass 104 = .ok (.iastore, 1) := by decide +kernel
theorem dX1_pass_105 : decode cX1_pass 105 = .ok (.iinc 1 1, 3) := by decide +kernel
theorem dX1_pass_108 : decode cX1_pass 108 = .ok (.iconst 0, 1) := by decide +kernel
theorem dX1_pass_109 : decode cX1_pass 109 = .ok (.istore 5, 2) := by decide +kernel
theorem dX1_pass_111 : decode cX1_pass 111 = .ok (.iload 5, 2) := by decide +kernel
theorem dX1_pass_113 : decode cX1_pass 113 = .ok (.aload_n 0, 1) := by decide +kernel
theorem dX1_pass_114 : decode cX1_pass 114 = .ok (.getfield 15, 3) := by decide +kernel
theorem dX1_pass_117 : decode cX1_pass 117 = .ok (.arraylength, 1) := by decide +kernel
theorem dX1_pass_118 : decode cX1_pass 118 = .ok (.if_icmp .ge 42, 3) := by decide +kernel
theorem dX1_pass_121 : decode cX1_pass 121 = .ok (.aload_n 0, 1) := by decide +kernel
theorem dX1_pass_122 : decode cX1_pass 122 = .ok (.getfield 15, 3) := by decide +kernel
theorem dX1_pass_125 : decode cX1_pass 125 = .ok (.iload 5, 2) := by decide +kernel
theorem dX1_pass_127 : decode cX1_pass 127 = .ok (.dup2, 1) := by decide +kernel
theorem dX1_pass_128 : decode cX1_pass 128 = .ok (.iaload, 1) := by decide +kernel
theorem dX1_pass_129 : decode cX1_pass 129 = .ok (.aload_n 2, 1) := by decide +kernel
theorem dX1_pass_130 : decode cX1_pass 130 = .ok (.iload_n 3, 1) := by decide +kernel
theorem dX1_pass_131 : decode cX1_pass 131 = .ok (.iaload, 1) := by decide +kernel
theorem dX1_pass_132 : decode cX1_pass 132 = .ok (.aload_n 0, 1) := by decide +kernel
theorem dX1_pass_133 : decode cX1_pass 133 = .ok (.getfield 19, 3) := by decide +kernel
theorem dX1_pass_136 : decode cX1_pass 136 = .ok (.iload 5, 2) := by decide +kernel
theorem dX1_pass_138 : decode cX1_pass 138 = .ok (.aaload, 1) := by decide +kernel
theorem dX1_pass_139 : decode cX1_pass 139 = .ok (.iload_n 3, 1) := by decide +kernel
theorem dX1_pass_140 : decode cX1_pass 140 = .ok (.iaload, 1) := by decide +kernel
theorem dX1_pass_141 : decode cX1_pass 141 = .ok (.imul, 1) := by decide +kernel
theorem dX1_pass_142 : decode cX1_pass 142 = .ok (.iadd, 1) := by decide +kernel
theorem dX1_pass_143 : decode cX1_pass 143 = .ok (.iastore, 1) := by decide +kernel
theorem dX1_pass_144 : decode cX1_pass 144 = .ok (.aload_n 0, 1) := by decide +kernel
theorem dX1_pass_145 : decode cX1_pass 145 = .ok (.getfield 19, 3) := by decide +kernel
theorem dX1_pass_148 : decode cX1_pass 148 = .ok (.iload 5, 2) := by decide +kernel
theorem dX1_pass_150 : decode cX1_pass 150 = .ok (.aaload, 1) := by decide +kernel
theorem dX1_pass_151 : decode cX1_pass 151 = .ok (.iload_n 3, 1) := by decide +kernel
theorem dX1_pass_152 : decode cX1_pass 152 = .ok (.iconst 0, 1) := by decide +kernel
theorem dX1_pass_153 : decode cX1_pass 153 = .ok (.iastore, 1) := by decide +kernel
theorem dX1_pass_154 : decode cX1_pass 154 = .ok (.iinc 5 1, 3) := by decide +kernel
theorem dX1_pass_157 : decode cX1_pass 157 = .ok (.goto (-46), 3) := by decide +kernel
theorem dX1_pass_160 : decode cX1_pass 160 = .ok (.iinc 3 1, 3) := by decide +kernel
theorem dX1_pass_163 : decode cX1_pass 163 = .ok (.goto (-116), 3) := by decide +kernel
theorem dX1_pass_166 : decode cX1_pass 166 = .ok (.iload_n 1, 1) := by decide +kernel
theorem dX1_pass_167 : decode cX1_pass 167 = .ok (.ireturn, 1) := by decide +kernel
theorem dX1_behind_0 : decode cX1_behind 0 = .ok (.iconst 0, 1) := by decide +kernel
theorem dX1_behind_1 : decode cX1_behind 1 = .ok (.istore_n 2, 1) := by decide +kernel
theorem dX1_behind_2 : decode cX1_behind 2 = .ok (.iconst 0, 1) := by decide +kernel
theorem dX1_behind_3 : decode cX1_behind 3 = .ok (.istore_n 3, 1) := by decide +kernel
theorem dX1_behind_4 : decode cX1_behind 4 = .ok (.iload_n 3, 1) := by decide +kernel
theorem dX1_behind_5 : decode cX1_behind 5 = .ok (.iload_n 1, 1) := by decide +kernel
theorem dX1_behind_6 : decode cX1_behind 6 = .ok (.if_icmp .ge 16, 3) := by decide +kernel
theorem dX1_behind_9 : decode cX1_behind 9 = .ok (.iload_n 2, 1) := by decide +kernel
theorem dX1_behind_10 : decode cX1_behind 10 = .ok (.aload_n 0, 1) := by decide +kernel
theorem dX1_behind_11 : decode cX1_behind 11 = .ok (.invokevirtual 33, 3) := by decide +kernel
theorem dX1_behind_14 : decode cX1_behind 14 = .ok (.iadd, 1) := by decide +kernel
theorem dX1_behind_15 : decode cX1_behind 15 = .ok (.istore_n 2, 1) := by decide +kernel
theorem dX1_behind_16 : decode cX1_behind 16 = .ok (.iinc 3 1, 3) := by decide +kernel
theorem dX1_behind_19 : decode cX1_behind 19 = .ok (.goto (-15), 3) := by decide +kernel
theorem dX1_behind_22 : decode cX1_behind 22 = .ok (.iload_n 2, 1) := by decide +kernel
theorem dX1_behind_23 : decode cX1_behind 23 = .ok (.ireturn, 1) := by decide +kernel
theorem dX1_sell_0 : decode cX1_sell 0 = .ok (.aload_n 0, 1) := by decide +kernel
theorem dX1_sell_1 : decode cX1_sell 1 = .ok (.getfield 15, 3) := by decide +kernel
theorem dX1_sell_4 : decode cX1_sell 4 = .ok (.iload_n 1, 1) := by decide +kernel
theorem dX1_sell_5 : decode cX1_sell 5 = .ok (.dup2, 1) := by decide +kernel
theorem dX1_sell_6 : decode cX1_sell 6 = .ok (.iaload, 1) := by decide +kernel
theorem dX1_sell_7 : decode cX1_sell 7 = .ok (.iload_n 3, 1) := by decide +kernel
theorem dX1_sell_8 : decode cX1_sell 8 = .ok (.aload_n 0, 1) := by decide +kernel
theorem dX1_sell_9 : decode cX1_sell 9 = .ok (.iload_n 2, 1) := by decide +kernel
theorem dX1_sell_10 : decode cX1_sell 10 = .ok (.invokevirtual 30, 3) := by decide +kernel
theorem dX1_sell_13 : decode cX1_sell 13 = .ok (.imul, 1) := by decide +kernel
theorem dX1_sell_14 : decode cX1_sell 14 = .ok (.iadd, 1) := by decide +kernel
theorem dX1_sell_15 : decode cX1_sell 15 = .ok (.iastore, 1) := by decide +kernel
theorem dX1_sell_16 : decode cX1_sell 16 = .ok (.aload_n 0, 1) := by decide +kernel
theorem dX1_sell_17 : decode cX1_sell 17 = .ok (.getfield 19, 3) := by decide +kernel
theorem dX1_sell_20 : decode cX1_sell 20 = .ok (.iload_n 1, 1) := by decide +kernel
theorem dX1_sell_21 : decode cX1_sell 21 = .ok (.aaload, 1) := by decide +kernel
theorem dX1_sell_22 : decode cX1_sell 22 = .ok (.iload_n 2, 1) := by decide +kernel
theorem dX1_sell_23 : decode cX1_sell 23 = .ok (.dup2, 1) := by decide +kernel
theorem dX1_sell_24 : decode cX1_sell 24 = .ok (.iaload, 1) := by decide +kernel
theorem dX1_sell_25 : decode cX1_sell 25 = .ok (.iload_n 3, 1) := by decide +kernel
theorem dX1_sell_26 : decode cX1_sell 26 = .ok (.isub, 1) := by decide +kernel
theorem dX1_sell_27 : decode cX1_sell 27 = .ok (.iastore, 1) := by decide +kernel
theorem dX1_sell_28 : decode cX1_sell 28 = .ok (.return_, 1) := by decide +kernel
theorem dX1_worth_0 : decode cX1_worth 0 = .ok (.aload_n 0, 1) := by decide +kernel
theorem dX1_worth_1 : decode cX1_worth 1 = .ok (.getfield 15, 3) := by decide +kernel
theorem dX1_worth_4 : decode cX1_worth 4 = .ok (.iload_n 1, 1) := by decide +kernel
theorem dX1_worth_5 : decode cX1_worth 5 = .ok (.iaload, 1) := by decide +kernel
theorem dX1_worth_6 : decode cX1_worth 6 = .ok (.istore_n 2, 1) := by decide +kernel
theorem dX1_worth_7 : decode cX1_worth 7 = .ok (.iconst 0, 1) := by decide +kernel
theorem dX1_worth_8 : decode cX1_worth 8 = .ok (.istore_n 3, 1) := by decide +kernel
theorem dX1_worth_9 : decode cX1_worth 9 = .ok (.iload_n 3, 1) := by decide +kernel
theorem dX1_worth_10 : decode cX1_worth 10 = .ok (.aload_n 0, 1) := by decide +kernel
theorem dX1_worth_11 : decode cX1_worth 11 = .ok (.getfield 9, 3) := by decide +kernel
theorem dX1_worth_14 : decode cX1_worth 14 = .ok (.arraylength, 1) := by decide +kernel
theorem dX1_worth_15 : decode cX1_worth 15 = .ok (.if_icmp .ge 26, 3) := by decide +kernel
theorem dX1_worth_18 : decode cX1_worth 18 = .ok (.iload_n 2, 1) := by decide +kernel
theorem dX1_worth_19 : decode cX1_worth 19 = .ok (.aload_n 0, 1) := by decide +kernel
theorem dX1_worth_20 : decode cX1_worth 20 = .ok (.getfield 19, 3) := by decide +kernel
theorem dX1_worth_23 : decode cX1_worth 23 = .ok (.iload_n 1, 1) := by decide +kernel
theorem dX1_worth_24 : decode cX1_worth 24 = .ok (.aaload, 1) := by decide +kernel
theorem dX1_worth_25 : decode cX1_worth 25 = .ok (.iload_n 3, 1) := by decide +kernel
theorem dX1_worth_26 : decode cX1_worth 26 = .ok (.iaload, 1) := by decide +kernel
theorem dX1_worth_27 : decode cX1_worth 27 = .ok (.aload_n 0, 1) := by decide +kernel
theorem dX1_worth_28 : decode cX1_worth 28 = .ok (.iload_n 3, 1) := by decide +kernel
theorem dX1_worth_29 : decode cX1_worth 29 = .ok (.invokevirtual 30, 3) := by decide +kernel
theorem dX1_worth_32 : decode cX1_worth 32 = .ok (.imul, 1) := by decide +kernel
theorem dX1_worth_33 : decode cX1_worth 33 = .ok (.iadd, 1) := by decide +kernel
theorem dX1_worth_34 : decode cX1_worth 34 = .ok (.istore_n 2, 1) := by decide +kernel
theorem dX1_worth_35 : decode cX1_worth 35 = .ok (.iinc 3 1, 3) := by decide +kernel
theorem dX1_worth_38 : decode cX1_worth 38 = .ok (.goto (-29), 3) := by decide +kernel
theorem dX1_worth_41 : decode cX1_worth 41 = .ok (.iload_n 2, 1) := by decide +kernel
theorem dX1_worth_42 : decode cX1_worth 42 = .ok (.ireturn, 1) := by decide +kernel
theorem dX1_isSame_0 : decode cX1_isSame 0 = .ok (.aload_n 0, 1) := by decide +kernel
theorem dX1_isSame_1 : decode cX1_isSame 1 = .ok (.getfield 9, 3) := by decide +kernel
theorem dX1_isSame_4 : decode cX1_isSame 4 = .ok (.arraylength, 1) := by decide +kernel
theorem dX1_isSame_5 : decode cX1_isSame 5 = .ok (.istore_n 2, 1) := by decide +kernel
theorem dX1_isSame_6 : decode cX1_isSame 6 = .ok (.aload_n 0, 1) := by decide +kernel
theorem dX1_isSame_7 : decode cX1_isSame 7 = .ok (.getfield 15, 3) := by decide +kernel
theorem dX1_isSame_10 : decode cX1_isSame 10 = .ok (.arraylength, 1) := by decide +kernel
theorem dX1_isSame_11 : decode cX1_isSame 11 = .ok (.istore_n 3, 1) := by decide +kernel
theorem dX1_isSame_12 : decode cX1_isSame 12 = .ok (.aload_n 1, 1) := by decide +kernel
theorem dX1_isSame_13 : decode cX1_isSame 13 = .ok (.invokevirtual 42, 3) := by decide +kernel
theorem dX1_isSame_16 : decode cX1_isSame 16 = .ok (.aload_n 0, 1) := by decide +kernel
theorem dX1_isSame_17 : decode cX1_isSame 17 = .ok (.getfield 26, 3) := by decide +kernel
theorem dX1_isSame_20 : decode cX1_isSame 20 = .ok (.if_icmp .ne 19, 3) := by decide +kernel
theorem dX1_isSame_23 : decode cX1_isSame 23 = .ok (.aload_n 1, 1) := by decide +kernel
theorem dX1_isSame_24 : decode cX1_isSame 24 = .ok (.invokevirtual 46, 3) := by decide +kernel
theorem dX1_isSame_27 : decode cX1_isSame 27 = .ok (.iload_n 2, 1) := by decide +kernel
theorem dX1_isSame_28 : decode cX1_isSame 28 = .ok (.if_icmp .ne 11, 3) := by decide +kernel
theorem dX1_isSame_31 : decode cX1_isSame 31 = .ok (.aload_n 1, 1) := by decide +kernel
theorem dX1_isSame_32 : decode cX1_isSame 32 = .ok (.invokevirtual 48, 3) := by decide +kernel
theorem dX1_isSame_35 : decode cX1_isSame 35 = .ok (.iload_n 3, 1) := by decide +kernel
theorem dX1_isSame_36 : decode cX1_isSame 36 = .ok (.if_icmp .eq 5, 3) := by decide +kernel
theorem dX1_isSame_39 : decode cX1_isSame 39 = .ok (.iconst 0, 1) := by decide +kernel
theorem dX1_isSame_40 : decode cX1_isSame 40 = .ok (.ireturn, 1) := by decide +kernel
theorem dX1_isSame_41 : decode cX1_isSame 41 = .ok (.iconst (-1), 1) := by decide +kernel
theorem dX1_isSame_42 : decode cX1_isSame 42 = .ok (.istore 4, 2) := by decide +kernel
theorem dX1_isSame_44 : decode cX1_isSame 44 = .ok (.iconst (-1), 1) := by decide +kernel
theorem dX1_isSame_45 : decode cX1_isSame 45 = .ok (.istore 5, 2) := by decide +kernel
theorem dX1_isSame_47 : decode cX1_isSame 47 = .ok (.iconst 0, 1) := by decide +kernel
theorem dX1_isSame_48 : decode cX1_isSame 48 = .ok (.istore 6, 2) := by decide +kernel
theorem dX1_isSame_50 : decode cX1_isSame 50 = .ok (.iconst 0, 1) := by decide +kernel
theorem dX1_isSame_51 : decode cX1_isSame 51 = .ok (.istore 7, 2) := by decide +kernel
theorem dX1_isSame_53 : decode cX1_isSame 53 = .ok (.iload 7, 2) := by decide +kernel
theorem dX1_isSame_55 : decode cX1_isSame 55 = .ok (.iload_n 2, 1) := by decide +kernel
theorem dX1_isSame_56 : decode cX1_isSame 56 = .ok (.if_icmp .ge 209, 3) := by decide +kernel
theorem dX1_isSame_59 : decode cX1_isSame 59 = .ok (.iconst 0, 1) := by decide +kernel
theorem dX1_isSame_60 : decode cX1_isSame 60 = .ok (.istore 8, 2) := by decide +kernel
theorem dX1_isSame_62 : decode cX1_isSame 62 = .ok (.aload_n 0, 1) := by decide +kernel
theorem dX1_isSame_63 : decode cX1_isSame 63 = .ok (.getfield 19, 3) := by decide +kernel
theorem dX1_isSame_66 : decode cX1_isSame 66 = .ok (.astore 9, 2) := by decide +kernel
theorem dX1_isSame_68 : decode cX1_isSame 68 = .ok (.aload 9, 2) := by decide +kernel
theorem dX1_isSame_70 : decode cX1_isSame 70 = .ok (.arraylength, 1) := by decide +kernel
theorem dX1_isSame_71 : decode cX1_isSame 71 = .ok (.istore 10, 2) := by decide +kernel
theorem dX1_isSame_73 : decode cX1_isSame 73 = .ok (.iconst 0, 1) := by decide +kernel
theorem dX1_isSame_74 : decode cX1_isSame 74 = .ok (.istore 11, 2) := by decide +kernel
theorem dX1_isSame_76 : decode cX1_isSame 76 = .ok (.iload 11, 2) := by decide +kernel
theorem dX1_isSame_78 : decode cX1_isSame 78 = .ok (.iload 10, 2) := by decide +kernel
theorem dX1_isSame_80 : decode cX1_isSame 80 = .ok (.if_icmp .ge 26, 3) := by decide +kernel
theorem dX1_isSame_83 : decode cX1_isSame 83 = .ok (.aload 9, 2) := by decide +kernel
theorem dX1_isSame_85 : decode cX1_isSame 85 = .ok (.iload 11, 2) := by decide +kernel
theorem dX1_isSame_87 : decode cX1_isSame 87 = .ok (.aaload, 1) := by decide +kernel
theorem dX1_isSame_88 : decode cX1_isSame 88 = .ok (.astore 12, 2) := by decide +kernel
theorem dX1_isSame_90 : decode cX1_isSame 90 = .ok (.iload 8, 2) := by decide +kernel
theorem dX1_isSame_92 : decode cX1_isSame 92 = .ok (.aload 12, 2) := by decide +kernel
theorem dX1_isSame_94 : decode cX1_isSame 94 = .ok (.iload 7, 2) := by decide +kernel
theorem dX1_isSame_96 : decode cX1_isSame 96 = .ok (.iaload, 1) := by decide +kernel
theorem dX1_isSame_97 : decode cX1_isSame 97 = .ok (.iadd, 1) := by decide +kernel
theorem dX1_isSame_98 : decode cX1_isSame 98 = .ok (.istore 8, 2) := by decide +kernel
theorem dX1_isSame_100 : decode cX1_isSame 100 = .ok (.iinc 11 1, 3) := by decide +kernel
theorem dX1_isSame_103 : decode cX1_isSame 103 = .ok (.goto (-27), 3) := by decide +kernel
theorem dX1_isSame_106 : decode cX1_isSame 106 = .ok (.aload_n 1, 1) := by decide +kernel
theorem dX1_isSame_107 : decode cX1_isSame 107 = .ok (.iload 7, 2) := by decide +kernel
theorem dX1_isSame_109 : decode cX1_isSame 109 = .ok (.invokevirtual 51, 3) := by decide +kernel
theorem dX1_isSame_112 : decode cX1_isSame 112 = .ok (.aload_n 0, 1) := by decide +kernel
theorem dX1_isSame_113 : decode cX1_isSame 113 = .ok (.getfield 9, 3) := by decide +kernel
theorem dX1_isSame_116 : decode cX1_isSame 116 = .ok (.iload 7, 2) := by decide +kernel
theorem dX1_isSame_118 : decode cX1_isSame 118 = .ok (.aaload, 1) := by decide +kernel
theorem dX1_isSame_119 : decode cX1_isSame 119 = .ok (.iconst 3, 1) := by decide +kernel
theorem dX1_isSame_120 : decode cX1_isSame 120 = .ok (.iaload, 1) := by decide +kernel
theorem dX1_isSame_121 : decode cX1_isSame 121 = .ok (.if_icmp .ne 77, 3) := by decide +kernel
theorem dX1_isSame_124 : decode cX1_isSame 124 = .ok (.aload_n 1, 1) := by decide +kernel
theorem dX1_isSame_125 : decode cX1_isSame 125 = .ok (.iload 7, 2) := by decide +kernel
theorem dX1_isSame_127 : decode cX1_isSame 127 = .ok (.invokevirtual 54, 3) := by decide +kernel
theorem dX1_isSame_130 : decode cX1_isSame 130 = .ok (.aload_n 0, 1) := by decide +kernel
theorem dX1_isSame_131 : decode cX1_isSame 131 = .ok (.iload 7, 2) := by decide +kernel
theorem dX1_isSame_133 : decode cX1_isSame 133 = .ok (.invokevirtual 22, 3) := by decide +kernel
theorem dX1_isSame_136 : decode cX1_isSame 136 = .ok (.if_icmp .ne 62, 3) := by decide +kernel
theorem dX1_isSame_139 : decode cX1_isSame 139 = .ok (.aload_n 1, 1) := by decide +kernel
theorem dX1_isSame_140 : decode cX1_isSame 140 = .ok (.iload 7, 2) := by decide +kernel
theorem dX1_isSame_142 : decode cX1_isSame 142 = .ok (.invokevirtual 57, 3) := by decide +kernel
theorem dX1_isSame_145 : decode cX1_isSame 145 = .ok (.aload_n 0, 1) := by decide +kernel
theorem dX1_isSame_146 : decode cX1_isSame 146 = .ok (.iload 7, 2) := by decide +kernel
theorem dX1_isSame_148 : decode cX1_isSame 148 = .ok (.invokevirtual 30, 3) := by decide +kernel
theorem dX1_isSame_151 : decode cX1_isSame 151 = .ok (.if_icmp .ne 47, 3) := by decide +kernel
theorem dX1_isSame_154 : decode cX1_isSame 154 = .ok (.aload_n 1, 1) := by decide +kernel
theorem dX1_isSame_155 : decode cX1_isSame 155 = .ok (.iload 7, 2) := by decide +kernel
theorem dX1_isSame_157 : decode cX1_isSame 157 = .ok (.invokevirtual 60, 3) := by decide +kernel
theorem dX1_isSame_160 : decode cX1_isSame 160 = .ok (.aload_n 0, 1) := by decide +kernel
theorem dX1_isSame_161 : decode cX1_isSame 161 = .ok (.iload 7, 2) := by decide +kernel
theorem dX1_isSame_163 : decode cX1_isSame 163 = .ok (.invokevirtual 63, 3) := by decide +kernel
theorem dX1_isSame_166 : decode cX1_isSame 166 = .ok (.if_icmp .ne 32, 3) := by decide +kernel
theorem dX1_isSame_169 : decode cX1_isSame 169 = .ok (.aload_n 1, 1) := by decide +kernel
theorem dX1_isSame_170 : decode cX1_isSame 170 = .ok (.iload 7, 2) := by decide +kernel
theorem dX1_isSame_172 : decode cX1_isSame 172 = .ok (.invokevirtual 66, 3) := by decide +kernel
theorem dX1_isSame_175 : decode cX1_isSame 175 = .ok (.aload_n 0, 1) := by decide +kernel
theorem dX1_isSame_176 : decode cX1_isSame 176 = .ok (.getfield 9, 3) := by decide +kernel
theorem dX1_isSame_179 : decode cX1_isSame 179 = .ok (.iload 7, 2) := by decide +kernel
theorem dX1_isSame_181 : decode cX1_isSame 181 = .ok (.aaload, 1) := by decide +kernel
theorem dX1_isSame_182 : decode cX1_isSame 182 = .ok (.iconst 4, 1) := by decide +kernel
theorem dX1_isSame_183 : decode cX1_isSame 183 = .ok (.iaload, 1) := by decide +kernel
theorem dX1_isSame_184 : decode cX1_isSame 184 = .ok (.if_icmp .ne 14, 3) := by decide +kernel
theorem dX1_isSame_187 : decode cX1_isSame 187 = .ok (.aload_n 1, 1) := by decide +kernel
theorem dX1_isSame_188 : decode cX1_isSame 188 = .ok (.iload 7, 2) := by decide +kernel
theorem dX1_isSame_190 : decode cX1_isSame 190 = .ok (.invokevirtual 69, 3) := by decide +kernel
theorem dX1_isSame_193 : decode cX1_isSame 193 = .ok (.iload 8, 2) := by decide +kernel
theorem dX1_isSame_195 : decode cX1_isSame 195 = .ok (.if_icmp .eq 5, 3) := by decide +kernel
theorem dX1_isSame_198 : decode cX1_isSame 198 = .ok (.iconst 0, 1) := by decide +kernel
theorem dX1_isSame_199 : decode cX1_isSame 199 = .ok (.ireturn, 1) := by decide +kernel
theorem dX1_isSame_200 : decode cX1_isSame 200 = .ok (.iload 4, 2) := by decide +kernel
theorem dX1_isSame_202 : decode cX1_isSame 202 = .ok (.ifCond .lt 18, 3) := by decide +kernel
theorem dX1_isSame_205 : decode cX1_isSame 205 = .ok (.aload_n 0, 1) := by decide +kernel
theorem dX1_isSame_206 : decode cX1_isSame 206 = .ok (.iload 7, 2) := by decide +kernel
theorem dX1_isSame_208 : decode cX1_isSame 208 = .ok (.invokevirtual 30, 3) := by decide +kernel
theorem dX1_isSame_211 : decode cX1_isSame 211 = .ok (.aload_n 0, 1) := by decide +kernel
theorem dX1_isSame_212 : decode cX1_isSame 212 = .ok (.iload 4, 2) := by decide +kernel
theorem dX1_isSame_214 : decode cX1_isSame 214 = .ok (.invokevirtual 30, 3) := by decide +kernel
theorem dX1_isSame_217 : decode cX1_isSame 217 = .ok (.if_icmp .le 7, 3) := by decide +kernel
theorem dX1_isSame_220 : decode cX1_isSame 220 = .ok (.iload 7, 2) := by decide +kernel
theorem dX1_isSame_222 : decode cX1_isSame 222 = .ok (.istore 4, 2) := by decide +kernel
theorem dX1_isSame_224 : decode cX1_isSame 224 = .ok (.iload 5, 2) := by decide +kernel
theorem dX1_isSame_226 : decode cX1_isSame 226 = .ok (.ifCond .lt 18, 3) := by decide +kernel
theorem dX1_isSame_229 : decode cX1_isSame 229 = .ok (.aload_n 0, 1) := by decide +kernel
theorem dX1_isSame_230 : decode cX1_isSame 230 = .ok (.iload 7, 2) := by decide +kernel
theorem dX1_isSame_232 : decode cX1_isSame 232 = .ok (.invokevirtual 63, 3) := by decide +kernel
theorem dX1_isSame_235 : decode cX1_isSame 235 = .ok (.aload_n 0, 1) := by decide +kernel
theorem dX1_isSame_236 : decode cX1_isSame 236 = .ok (.iload 5, 2) := by decide +kernel
theorem dX1_isSame_238 : decode cX1_isSame 238 = .ok (.invokevirtual 63, 3) := by decide +kernel
theorem dX1_isSame_241 : decode cX1_isSame 241 = .ok (.if_icmp .ge 7, 3) := by decide +kernel
theorem dX1_isSame_244 : decode cX1_isSame 244 = .ok (.iload 7, 2) := by decide +kernel
theorem dX1_isSame_246 : decode cX1_isSame 246 = .ok (.istore 5, 2) := by decide +kernel
theorem dX1_isSame_248 : decode cX1_isSame 248 = .ok (.iload 6, 2) := by decide +kernel
theorem dX1_isSame_250 : decode cX1_isSame 250 = .ok (.aload_n 0, 1) := by decide +kernel
theorem dX1_isSame_251 : decode cX1_isSame 251 = .ok (.iload 7, 2) := by decide +kernel
theorem dX1_isSame_253 : decode cX1_isSame 253 = .ok (.invokevirtual 30, 3) := by decide +kernel
theorem dX1_isSame_256 : decode cX1_isSame 256 = .ok (.iadd, 1) := by decide +kernel
theorem dX1_isSame_257 : decode cX1_isSame 257 = .ok (.istore 6, 2) := by decide +kernel
theorem dX1_isSame_259 : decode cX1_isSame 259 = .ok (.iinc 7 1, 3) := by decide +kernel
theorem dX1_isSame_262 : decode cX1_isSame 262 = .ok (.goto (-209), 3) := by decide +kernel
theorem dX1_isSame_265 : decode cX1_isSame 265 = .ok (.iconst (-1), 1) := by decide +kernel
theorem dX1_isSame_266 : decode cX1_isSame 266 = .ok (.istore 7, 2) := by decide +kernel
theorem dX1_isSame_268 : decode cX1_isSame 268 = .ok (.iconst 0, 1) := by decide +kernel
theorem dX1_isSame_269 : decode cX1_isSame 269 = .ok (.istore 8, 2) := by decide +kernel
theorem dX1_isSame_271 : decode cX1_isSame 271 = .ok (.iconst 0, 1) := by decide +kernel
theorem dX1_isSame_272 : decode cX1_isSame 272 = .ok (.istore 9, 2) := by decide +kernel
theorem dX1_isSame_274 : decode cX1_isSame 274 = .ok (.iload 9, 2) := by decide +kernel
theorem dX1_isSame_276 : decode cX1_isSame 276 = .ok (.iload_n 3, 1) := by decide +kernel
theorem dX1_isSame_277 : decode cX1_isSame 277 = .ok (.if_icmp .ge 161, 3) := by decide +kernel
theorem dX1_isSame_280 : decode cX1_isSame 280 = .ok (.iconst 0, 1) := by decide +kernel
theorem dX1_isSame_281 : decode cX1_isSame 281 = .ok (.istore 10, 2) := by decide +kernel
theorem dX1_isSame_283 : decode cX1_isSame 283 = .ok (.iconst 0, 1) := by decide +kernel
theorem dX1_isSame_284 : decode cX1_isSame 284 = .ok (.istore 11, 2) := by decide +kernel
theorem dX1_isSame_286 : decode cX1_isSame 286 = .ok (.iload 11, 2) := by decide +kernel
theorem dX1_isSame_288 : decode cX1_isSame 288 = .ok (.iload_n 2, 1) := by decide +kernel
theorem dX1_isSame_289 : decode cX1_isSame 289 = .ok (.if_icmp .ge 55, 3) := by decide +kernel
theorem dX1_isSame_292 : decode cX1_isSame 292 = .ok (.iload 10, 2) := by decide +kernel
theorem dX1_isSame_294 : decode cX1_isSame 294 = .ok (.aload_n 0, 1) := by decide +kernel
theorem dX1_isSame_295 : decode cX1_isSame 295 = .ok (.getfield 19, 3) := by decide +kernel
theorem dX1_isSame_298 : decode cX1_isSame 298 = .ok (.iload 9, 2) := by decide +kernel
theorem dX1_isSame_300 : decode cX1_isSame 300 = .ok (.aaload, 1) := by decide +kernel
theorem dX1_isSame_301 : decode cX1_isSame 301 = .ok (.iload 11, 2) := by decide +kernel
theorem dX1_isSame_303 : decode cX1_isSame 303 = .ok (.iaload, 1) := by decide +kernel
theorem dX1_isSame_304 : decode cX1_isSame 304 = .ok (.ifCond .ge 7, 3) := by decide +kernel
theorem dX1_isSame_307 : decode cX1_isSame 307 = .ok (.iconst 1, 1) := by decide +kernel
theorem dX1_isSame_308 : decode cX1_isSame 308 = .ok (.goto 4, 3) := by decide +kernel
theorem dX1_isSame_311 : decode cX1_isSame 311 = .ok (.iconst 0, 1) := by decide +kernel
theorem dX1_isSame_312 : decode cX1_isSame 312 = .ok (.iadd, 1) := by decide +kernel
theorem dX1_isSame_313 : decode cX1_isSame 313 = .ok (.istore 10, 2) := by decide +kernel
theorem dX1_isSame_315 : decode cX1_isSame 315 = .ok (.aload_n 1, 1) := by decide +kernel
theorem dX1_isSame_316 : decode cX1_isSame 316 = .ok (.iload 9, 2) := by decide +kernel
theorem dX1_isSame_318 : decode cX1_isSame 318 = .ok (.iload 11, 2) := by decide +kernel
theorem dX1_isSame_320 : decode cX1_isSame 320 = .ok (.invokevirtual 72, 3) := by decide +kernel
theorem dX1_isSame_323 : decode cX1_isSame 323 = .ok (.aload_n 0, 1) := by decide +kernel
theorem dX1_isSame_324 : decode cX1_isSame 324 = .ok (.getfield 19, 3) := by decide +kernel
theorem dX1_isSame_327 : decode cX1_isSame 327 = .ok (.iload 9, 2) := by decide +kernel
theorem dX1_isSame_329 : decode cX1_isSame 329 = .ok (.aaload, 1) := by decide +kernel
theorem dX1_isSame_330 : decode cX1_isSame 330 = .ok (.iload 11, 2) := by decide +kernel
theorem dX1_isSame_332 : decode cX1_isSame 332 = .ok (.iaload, 1) := by decide +kernel
theorem dX1_isSame_333 : decode cX1_isSame 333 = .ok (.if_icmp .eq 5, 3) := by decide +kernel
theorem dX1_isSame_336 : decode cX1_isSame 336 = .ok (.iconst 0, 1) := by decide +kernel
theorem dX1_isSame_337 : decode cX1_isSame 337 = .ok (.ireturn, 1) := by decide +kernel
theorem dX1_isSame_338 : decode cX1_isSame 338 = .ok (.iinc 11 1, 3) := by decide +kernel
theorem dX1_isSame_341 : decode cX1_isSame 341 = .ok (.goto (-55), 3) := by decide +kernel
theorem dX1_isSame_344 : decode cX1_isSame 344 = .ok (.iload 8, 2) := by decide +kernel
theorem dX1_isSame_346 : decode cX1_isSame 346 = .ok (.aload_n 0, 1) := by decide +kernel
theorem dX1_isSame_347 : decode cX1_isSame 347 = .ok (.getfield 15, 3) := by decide +kernel
theorem dX1_isSame_350 : decode cX1_isSame 350 = .ok (.iload 9, 2) := by decide +kernel
theorem dX1_isSame_352 : decode cX1_isSame 352 = .ok (.iaload, 1) := by decide +kernel
theorem dX1_isSame_353 : decode cX1_isSame 353 = .ok (.ifCond .ge 7, 3) := by decide +kernel
theorem dX1_isSame_356 : decode cX1_isSame 356 = .ok (.iconst 1, 1) := by decide +kernel
theorem dX1_isSame_357 : decode cX1_isSame 357 = .ok (.goto 4, 3) := by decide +kernel
theorem dX1_isSame_360 : decode cX1_isSame 360 = .ok (.iconst 0, 1) := by decide +kernel
theorem dX1_isSame_361 : decode cX1_isSame 361 = .ok (.iadd, 1) := by decide +kernel
theorem dX1_isSame_362 : decode cX1_isSame 362 = .ok (.istore 8, 2) := by decide +kernel
theorem dX1_isSame_364 : decode cX1_isSame 364 = .ok (.iload 7, 2) := by decide +kernel
theorem dX1_isSame_366 : decode cX1_isSame 366 = .ok (.ifCond .lt 18, 3) := by decide +kernel
theorem dX1_isSame_369 : decode cX1_isSame 369 = .ok (.aload_n 0, 1) := by decide +kernel
theorem dX1_isSame_370 : decode cX1_isSame 370 = .ok (.iload 9, 2) := by decide +kernel
theorem dX1_isSame_372 : decode cX1_isSame 372 = .ok (.invokevirtual 76, 3) := by decide +kernel
theorem dX1_isSame_375 : decode cX1_isSame 375 = .ok (.aload_n 0, 1) := by decide +kernel
theorem dX1_isSame_376 : decode cX1_isSame 376 = .ok (.iload 7, 2) := by decide +kernel
theorem dX1_isSame_378 : decode cX1_isSame 378 = .ok (.invokevirtual 76, 3) := by decide +kernel
theorem dX1_isSame_381 : decode cX1_isSame 381 = .ok (.if_icmp .le 7, 3) := by decide +kernel
theorem dX1_isSame_384 : decode cX1_isSame 384 = .ok (.iload 9, 2) := by decide +kernel
theorem dX1_isSame_386 : decode cX1_isSame 386 = .ok (.istore 7, 2) := by decide +kernel
theorem dX1_isSame_388 : decode cX1_isSame 388 = .ok (.aload_n 1, 1) := by decide +kernel
theorem dX1_isSame_389 : decode cX1_isSame 389 = .ok (.iload 9, 2) := by decide +kernel
theorem dX1_isSame_391 : decode cX1_isSame 391 = .ok (.invokevirtual 79, 3) := by decide +kernel
theorem dX1_isSame_394 : decode cX1_isSame 394 = .ok (.aload_n 0, 1) := by decide +kernel
theorem dX1_isSame_395 : decode cX1_isSame 395 = .ok (.getfield 15, 3) := by decide +kernel
theorem dX1_isSame_398 : decode cX1_isSame 398 = .ok (.iload 9, 2) := by decide +kernel
theorem dX1_isSame_400 : decode cX1_isSame 400 = .ok (.iaload, 1) := by decide +kernel
theorem dX1_isSame_401 : decode cX1_isSame 401 = .ok (.if_icmp .ne 29, 3) := by decide +kernel
theorem dX1_isSame_404 : decode cX1_isSame 404 = .ok (.aload_n 1, 1) := by decide +kernel
theorem dX1_isSame_405 : decode cX1_isSame 405 = .ok (.iload 9, 2) := by decide +kernel
theorem dX1_isSame_407 : decode cX1_isSame 407 = .ok (.invokevirtual 82, 3) := by decide +kernel
theorem dX1_isSame_410 : decode cX1_isSame 410 = .ok (.aload_n 0, 1) := by decide +kernel
theorem dX1_isSame_411 : decode cX1_isSame 411 = .ok (.iload 9, 2) := by decide +kernel
theorem dX1_isSame_413 : decode cX1_isSame 413 = .ok (.invokevirtual 76, 3) := by decide +kernel
theorem dX1_isSame_416 : decode cX1_isSame 416 = .ok (.if_icmp .ne 14, 3) := by decide +kernel
theorem dX1_isSame_419 : decode cX1_isSame 419 = .ok (.aload_n 1, 1) := by decide +kernel
theorem dX1_isSame_420 : decode cX1_isSame 420 = .ok (.iload 9, 2) := by decide +kernel
theorem dX1_isSame_422 : decode cX1_isSame 422 = .ok (.invokevirtual 85, 3) := by decide +kernel
theorem dX1_isSame_425 : decode cX1_isSame 425 = .ok (.iload 10, 2) := by decide +kernel
theorem dX1_isSame_427 : decode cX1_isSame 427 = .ok (.if_icmp .eq 5, 3) := by decide +kernel
theorem dX1_isSame_430 : decode cX1_isSame 430 = .ok (.iconst 0, 1) := by decide +kernel
theorem dX1_isSame_431 : decode cX1_isSame 431 = .ok (.ireturn, 1) := by decide +kernel
theorem dX1_isSame_432 : decode cX1_isSame 432 = .ok (.iinc 9 1, 3) := by decide +kernel
theorem dX1_isSame_435 : decode cX1_isSame 435 = .ok (.goto (-161), 3) := by decide +kernel
theorem dX1_isSame_438 : decode cX1_isSame 438 = .ok (.aload_n 1, 1) := by decide +kernel
theorem dX1_isSame_439 : decode cX1_isSame 439 = .ok (.invokevirtual 88, 3) := by decide +kernel
theorem dX1_isSame_442 : decode cX1_isSame 442 = .ok (.iload 4, 2) := by decide +kernel
theorem dX1_isSame_444 : decode cX1_isSame 444 = .ok (.if_icmp .ne 56, 3) := by decide +kernel
theorem dX1_isSame_447 : decode cX1_isSame 447 = .ok (.aload_n 1, 1) := by decide +kernel
theorem dX1_isSame_448 : decode cX1_isSame 448 = .ok (.invokevirtual 91, 3) := by decide +kernel
theorem dX1_isSame_451 : decode cX1_isSame 451 = .ok (.iload 5, 2) := by decide +kernel
theorem dX1_isSame_453 : decode cX1_isSame 453 = .ok (.if_icmp .ne 47, 3) := by decide +kernel
theorem dX1_isSame_456 : decode cX1_isSame 456 = .ok (.aload_n 1, 1) := by decide +kernel
theorem dX1_isSame_457 : decode cX1_isSame 457 = .ok (.invokevirtual 94, 3) := by decide +kernel
theorem dX1_isSame_460 : decode cX1_isSame 460 = .ok (.iload 7, 2) := by decide +kernel
theorem dX1_isSame_462 : decode cX1_isSame 462 = .ok (.if_icmp .ne 38, 3) := by decide +kernel
theorem dX1_isSame_465 : decode cX1_isSame 465 = .ok (.aload_n 1, 1) := by decide +kernel
theorem dX1_isSame_466 : decode cX1_isSame 466 = .ok (.invokevirtual 97, 3) := by decide +kernel
theorem dX1_isSame_469 : decode cX1_isSame 469 = .ok (.iload 8, 2) := by decide +kernel
theorem dX1_isSame_471 : decode cX1_isSame 471 = .ok (.if_icmp .ne 29, 3) := by decide +kernel
theorem dX1_isSame_474 : decode cX1_isSame 474 = .ok (.aload_n 1, 1) := by decide +kernel
theorem dX1_isSame_475 : decode cX1_isSame 475 = .ok (.invokevirtual 100, 3) := by decide +kernel
theorem dX1_isSame_478 : decode cX1_isSame 478 = .ok (.iload_n 2, 1) := by decide +kernel
theorem dX1_isSame_479 : decode cX1_isSame 479 = .ok (.ifCond .ne 7, 3) := by decide +kernel
theorem dX1_isSame_482 : decode cX1_isSame 482 = .ok (.dconst 0, 1) := by decide +kernel
theorem dX1_isSame_483 : decode cX1_isSame 483 = .ok (.goto 9, 3) := by decide +kernel
theorem dX1_isSame_486 : decode cX1_isSame 486 = .ok (.iload 6, 2) := by decide +kernel
theorem dX1_isSame_488 : decode cX1_isSame 488 = .ok (.i2d, 1) := by decide +kernel
theorem dX1_isSame_489 : decode cX1_isSame 489 = .ok (.iload_n 2, 1) := by decide +kernel
theorem dX1_isSame_490 : decode cX1_isSame 490 = .ok (.i2d, 1) := by decide +kernel
theorem dX1_isSame_491 : decode cX1_isSame 491 = .ok (.ddiv, 1) := by decide +kernel
theorem dX1_isSame_492 : decode cX1_isSame 492 = .ok (.dcmp .l, 1) := by decide +kernel
theorem dX1_isSame_493 : decode cX1_isSame 493 = .ok (.ifCond .ne 7, 3) := by decide +kernel
theorem dX1_isSame_496 : decode cX1_isSame 496 = .ok (.iconst 1, 1) := by decide +kernel
theorem dX1_isSame_497 : decode cX1_isSame 497 = .ok (.goto 4, 3) := by decide +kernel
theorem dX1_isSame_500 : decode cX1_isSame 500 = .ok (.iconst 0, 1) := by decide +kernel
theorem dX1_isSame_501 : decode cX1_isSame 501 = .ok (.ireturn, 1) := by decide +kernel
theorem dJ9_floorMod_7cf53_0 : decode cJ9_floorMod_7cf53 0 = .ok (.iload_n 0, 1) := by decide +kernel
theorem dJ9_floorMod_7cf53_1 : decode cJ9_floorMod_7cf53 1 = .ok (.iload_n 1, 1) := by decide +kernel
theorem dJ9_floorMod_7cf53_2 : decode cJ9_floorMod_7cf53 2 = .ok (.irem, 1) := by decide +kernel
theorem dJ9_floorMod_7cf53_3 : decode cJ9_floorMod_7cf53 3 = .ok (.istore_n 2, 1) := by decide +kernel
theorem dJ9_floorMod_7cf53_4 : decode cJ9_floorMod_7cf53 4 = .ok (.iload_n 0, 1) := by decide +kernel
theorem dJ9_floorMod_7cf53_5 : decode cJ9_floorMod_7cf53 5 = .ok (.iload_n 1, 1) := by decide +kernel
theorem dJ9_floorMod_7cf53_6 : decode cJ9_floorMod_7cf53 6 = .ok (.ixor, 1) := by decide +kernel
theorem dJ9_floorMod_7cf53_7 : decode cJ9_floorMod_7cf53 7 = .ok (.ifCond .ge 11, 3) := by decide +kernel
theorem dJ9_floorMod_7cf53_10 : decode cJ9_floorMod_7cf53 10 = .ok (.iload_n 2, 1) := by decide +kernel
theorem dJ9_floorMod_7cf53_11 : decode cJ9_floorMod_7cf53 11 = .ok (.ifCond .eq 7, 3) := by decide +kernel
theorem dJ9_floorMod_7cf53_14 : decode cJ9_floorMod_7cf53 14 = .ok (.iload_n 2, 1) := by decide +kernel
theorem dJ9_floorMod_7cf53_15 : decode cJ9_floorMod_7cf53 15 = .ok (.iload_n 1, 1) := by decide +kernel
theorem dJ9_floorMod_7cf53_16 : decode cJ9_floorMod_7cf53 16 = .ok (.iadd, 1) := by decide +kernel
theorem dJ9_floorMod_7cf53_17 : decode cJ9_floorMod_7cf53 17 = .ok (.ireturn, 1) := by decide +kernel
theorem dJ9_floorMod_7cf53_18 : decode cJ9_floorMod_7cf53 18 = .ok (.iload_n 2, 1) := by decide +kernel
theorem dJ9_floorMod_7cf53_19 : decode cJ9_floorMod_7cf53 19 = .ok (.ireturn, 1) := by decide +kernel
theorem dJ9_max_7cf53_0 : decode cJ9_max_7cf53 0 = .ok (.iload_n 0, 1) := by decide +kernel
theorem dJ9_max_7cf53_1 : decode cJ9_max_7cf53 1 = .ok (.iload_n 1, 1) := by decide +kernel
theorem dJ9_max_7cf53_2 : decode cJ9_max_7cf53 2 = .ok (.if_icmp .lt 7, 3) := by decide +kernel
theorem dJ9_max_7cf53_5 : decode cJ9_max_7cf53 5 = .ok (.iload_n 0, 1) := by decide +kernel
theorem dJ9_max_7cf53_6 : decode cJ9_max_7cf53 6 = .ok (.goto 4, 3) := by decide +kernel
theorem dJ9_max_7cf53_9 : decode cJ9_max_7cf53 9 = .ok (.iload_n 1, 1) := by decide +kernel
theorem dJ9_max_7cf53_10 : decode cJ9_max_7cf53 10 = .ok (.ireturn, 1) := by decide +kernel
theorem dJ9_min_7cf53_0 : decode cJ9_min_7cf53 0 = .ok (.iload_n 0, 1) := by decide +kernel
theorem dJ9_min_7cf53_1 : decode cJ9_min_7cf53 1 = .ok (.iload_n 1, 1) := by decide +kernel
theorem dJ9_min_7cf53_2 : decode cJ9_min_7cf53 2 = .ok (.if_icmp .gt 7, 3) := by decide +kernel
theorem dJ9_min_7cf53_5 : decode cJ9_min_7cf53 5 = .ok (.iload_n 0, 1) := by decide +kernel
theorem dJ9_min_7cf53_6 : decode cJ9_min_7cf53 6 = .ok (.goto 4, 3) := by decide +kernel
theorem dJ9_min_7cf53_9 : decode cJ9_min_7cf53 9 = .ok (.iload_n 1, 1) := by decide +kernel
theorem dJ9_min_7cf53_10 : decode cJ9_min_7cf53 10 = .ok (.ireturn, 1) := by decide +kernel
