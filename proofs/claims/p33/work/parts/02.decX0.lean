theorem dX0_init_0 : decode cX0_init 0 = .ok (.aload_n 0, 1) := by decide +kernel
theorem dX0_init_1 : decode cX0_init 1 = .ok (.invokespecial 1, 3) := by decide +kernel
theorem dX0_init_4 : decode cX0_init 4 = .ok (.aload_n 0, 1) := by decide +kernel
theorem dX0_init_5 : decode cX0_init 5 = .ok (.bipush 8, 2) := by decide +kernel
theorem dX0_init_7 : decode cX0_init 7 = .ok (.newarray .int, 2) := by decide +kernel
theorem dX0_init_9 : decode cX0_init 9 = .ok (.putfield 9, 3) := by decide +kernel
theorem dX0_init_12 : decode cX0_init 12 = .ok (.aload_n 0, 1) := by decide +kernel
theorem dX0_init_13 : decode cX0_init 13 = .ok (.bipush 8, 2) := by decide +kernel
theorem dX0_init_15 : decode cX0_init 15 = .ok (.newarray .int, 2) := by decide +kernel
theorem dX0_init_17 : decode cX0_init 17 = .ok (.putfield 13, 3) := by decide +kernel
theorem dX0_init_20 : decode cX0_init 20 = .ok (.aload_n 0, 1) := by decide +kernel
theorem dX0_init_21 : decode cX0_init 21 = .ok (.bipush 8, 2) := by decide +kernel
theorem dX0_init_23 : decode cX0_init 23 = .ok (.newarray .int, 2) := by decide +kernel
theorem dX0_init_25 : decode cX0_init 25 = .ok (.putfield 16, 3) := by decide +kernel
theorem dX0_init_28 : decode cX0_init 28 = .ok (.aload_n 0, 1) := by decide +kernel
theorem dX0_init_29 : decode cX0_init 29 = .ok (.bipush 8, 2) := by decide +kernel
theorem dX0_init_31 : decode cX0_init 31 = .ok (.newarray .int, 2) := by decide +kernel
theorem dX0_init_33 : decode cX0_init 33 = .ok (.putfield 19, 3) := by decide +kernel
theorem dX0_init_36 : decode cX0_init 36 = .ok (.aload_n 0, 1) := by decide +kernel
theorem dX0_init_37 : decode cX0_init 37 = .ok (.bipush 8, 2) := by decide +kernel
theorem dX0_init_39 : decode cX0_init 39 = .ok (.newarray .int, 2) := by decide +kernel
theorem dX0_init_41 : decode cX0_init 41 = .ok (.putfield 22, 3) := by decide +kernel
theorem dX0_init_44 : decode cX0_init 44 = .ok (.aload_n 0, 1) := by decide +kernel
theorem dX0_init_45 : decode cX0_init 45 = .ok (.bipush 6, 2) := by decide +kernel
theorem dX0_init_47 : decode cX0_init 47 = .ok (.newarray .int, 2) := by decide +kernel
theorem dX0_init_49 : decode cX0_init 49 = .ok (.putfield 25, 3) := by decide +kernel
theorem dX0_init_52 : decode cX0_init 52 = .ok (.aload_n 0, 1) := by decide +kernel
theorem dX0_init_53 : decode cX0_init 53 = .ok (.bipush 6, 2) := by decide +kernel
theorem dX0_init_55 : decode cX0_init 55 = .ok (.bipush 8, 2) := by decide +kernel
theorem dX0_init_57 : decode cX0_init 57 = .ok (.multianewarray 28 2, 4) := by decide +kernel
theorem dX0_init_61 : decode cX0_init 61 = .ok (.putfield 30, 3) := by decide +kernel
theorem dX0_init_64 : decode cX0_init 64 = .ok (.return_, 1) := by decide +kernel
theorem dX0_list_0 : decode cX0_list 0 = .ok (.iload_n 1, 1) := by decide +kernel
theorem dX0_list_1 : decode cX0_list 1 = .ok (.iconst 1, 1) := by decide +kernel
theorem dX0_list_2 : decode cX0_list 2 = .ok (.if_icmp .lt 9, 3) := by decide +kernel
theorem dX0_list_5 : decode cX0_list 5 = .ok (.iload_n 1, 1) := by decide +kernel
theorem dX0_list_6 : decode cX0_list 6 = .ok (.bipush 9, 2) := by decide +kernel
theorem dX0_list_8 : decode cX0_list 8 = .ok (.if_icmp .le 13, 3) := by decide +kernel
theorem dX0_list_11 : decode cX0_list 11 = .ok (.new 33, 3) := by decide +kernel
theorem dX0_list_14 : decode cX0_list 14 = .ok (.dup, 1) := by decide +kernel
theorem dX0_list_15 : decode cX0_list 15 = .ok (.ldc 35, 2) := by decide +kernel
theorem dX0_list_17 : decode cX0_list 17 = .ok (.invokespecial 37, 3) := by decide +kernel
theorem dX0_list_20 : decode cX0_list 20 = .ok (.athrow, 1) := by decide +kernel
theorem dX0_list_21 : decode cX0_list 21 = .ok (.iload_n 2, 1) := by decide +kernel
theorem dX0_list_22 : decode cX0_list 22 = .ok (.iconst 2, 1) := by decide +kernel
theorem dX0_list_23 : decode cX0_list 23 = .ok (.if_icmp .lt 9, 3) := by decide +kernel
theorem dX0_list_26 : decode cX0_list 26 = .ok (.iload_n 2, 1) := by decide +kernel
theorem dX0_list_27 : decode cX0_list 27 = .ok (.bipush 20, 2) := by decide +kernel
theorem dX0_list_29 : decode cX0_list 29 = .ok (.if_icmp .le 13, 3) := by decide +kernel
theorem dX0_list_32 : decode cX0_list 32 = .ok (.new 33, 3) := by decide +kernel
theorem dX0_list_35 : decode cX0_list 35 = .ok (.dup, 1) := by decide +kernel
theorem dX0_list_36 : decode cX0_list 36 = .ok (.ldc 40, 2) := by decide +kernel
theorem dX0_list_38 : decode cX0_list 38 = .ok (.invokespecial 37, 3) := by decide +kernel
theorem dX0_list_41 : decode cX0_list 41 = .ok (.athrow, 1) := by decide +kernel
theorem dX0_list_42 : decode cX0_list 42 = .ok (.iload_n 3, 1) := by decide +kernel
theorem dX0_list_43 : decode cX0_list 43 = .ok (.ifCond .lt 8, 3) := by decide +kernel
theorem dX0_list_46 : decode cX0_list 46 = .ok (.iload_n 3, 1) := by decide +kernel
theorem dX0_list_47 : decode cX0_list 47 = .ok (.iload_n 2, 1) := by decide +kernel
theorem dX0_list_48 : decode cX0_list 48 = .ok (.if_icmp .lt 13, 3) := by decide +kernel
theorem dX0_list_51 : decode cX0_list 51 = .ok (.new 33, 3) := by decide +kernel
theorem dX0_list_54 : decode cX0_list 54 = .ok (.dup, 1) := by decide +kernel
theorem dX0_list_55 : decode cX0_list 55 = .ok (.ldc 42, 2) := by decide +kernel
theorem dX0_list_57 : decode cX0_list 57 = .ok (.invokespecial 37, 3) := by decide +kernel
theorem dX0_list_60 : decode cX0_list 60 = .ok (.athrow, 1) := by decide +kernel
theorem dX0_list_61 : decode cX0_list 61 = .ok (.aload_n 0, 1) := by decide +kernel
theorem dX0_list_62 : decode cX0_list 62 = .ok (.getfield 44, 3) := by decide +kernel
theorem dX0_list_65 : decode cX0_list 65 = .ok (.bipush 8, 2) := by decide +kernel
theorem dX0_list_67 : decode cX0_list 67 = .ok (.if_icmp .lt 13, 3) := by decide +kernel
theorem dX0_list_70 : decode cX0_list 70 = .ok (.new 48, 3) := by decide +kernel
theorem dX0_list_73 : decode cX0_list 73 = .ok (.dup, 1) := by decide +kernel
theorem dX0_list_74 : decode cX0_list 74 = .ok (.ldc 50, 2) := by decide +kernel
theorem dX0_list_76 : decode cX0_list 76 = .ok (.invokespecial 52, 3) := by decide +kernel
theorem dX0_list_79 : decode cX0_list 79 = .ok (.athrow, 1) := by decide +kernel
theorem dX0_list_80 : decode cX0_list 80 = .ok (.aload_n 0, 1) := by decide +kernel
theorem dX0_list_81 : decode cX0_list 81 = .ok (.getfield 44, 3) := by decide +kernel
theorem dX0_list_84 : decode cX0_list 84 = .ok (.istore 4, 2) := by decide +kernel
theorem dX0_list_86 : decode cX0_list 86 = .ok (.iload_n 3, 1) := by decide +kernel
theorem dX0_list_87 : decode cX0_list 87 = .ok (.aload_n 0, 1) := by decide +kernel
theorem dX0_list_88 : decode cX0_list 88 = .ok (.getfield 53, 3) := by decide +kernel
theorem dX0_list_91 : decode cX0_list 91 = .ok (.isub, 1) := by decide +kernel
theorem dX0_list_92 : decode cX0_list 92 = .ok (.iload_n 2, 1) := by decide +kernel
theorem dX0_list_93 : decode cX0_list 93 = .ok (.invokestatic 56, 3) := by decide +kernel
theorem dX0_list_96 : decode cX0_list 96 = .ok (.istore 5, 2) := by decide +kernel
theorem dX0_list_98 : decode cX0_list 98 = .ok (.aload_n 0, 1) := by decide +kernel
theorem dX0_list_99 : decode cX0_list 99 = .ok (.getfield 9, 3) := by decide +kernel
theorem dX0_list_102 : decode cX0_list 102 = .ok (.iload 4, 2) := by decide +kernel
theorem dX0_list_104 : decode cX0_list 104 = .ok (.iload_n 1, 1) := by decide +kernel
theorem dX0_list_105 : decode cX0_list 105 = .ok (.iastore, 1) := by decide +kernel
theorem dX0_list_106 : decode cX0_list 106 = .ok (.aload_n 0, 1) := by decide +kernel
theorem dX0_list_107 : decode cX0_list 107 = .ok (.getfield 13, 3) := by decide +kernel
theorem dX0_list_110 : decode cX0_list 110 = .ok (.iload 4, 2) := by decide +kernel
theorem dX0_list_112 : decode cX0_list 112 = .ok (.iload_n 2, 1) := by decide +kernel
theorem dX0_list_113 : decode cX0_list 113 = .ok (.iastore, 1) := by decide +kernel
theorem dX0_list_114 : decode cX0_list 114 = .ok (.aload_n 0, 1) := by decide +kernel
theorem dX0_list_115 : decode cX0_list 115 = .ok (.getfield 19, 3) := by decide +kernel
theorem dX0_list_118 : decode cX0_list 118 = .ok (.iload 4, 2) := by decide +kernel
theorem dX0_list_120 : decode cX0_list 120 = .ok (.iload 5, 2) := by decide +kernel
theorem dX0_list_122 : decode cX0_list 122 = .ok (.ifCond .ne 7, 3) := by decide +kernel
theorem dX0_list_125 : decode cX0_list 125 = .ok (.iload_n 2, 1) := by decide +kernel
theorem dX0_list_126 : decode cX0_list 126 = .ok (.goto 5, 3) := by decide +kernel
theorem dX0_list_129 : decode cX0_list 129 = .ok (.iload 5, 2) := by decide +kernel
theorem dX0_list_131 : decode cX0_list 131 = .ok (.iastore, 1) := by decide +kernel
theorem dX0_list_132 : decode cX0_list 132 = .ok (.aload_n 0, 1) := by decide +kernel
theorem dX0_list_133 : decode cX0_list 133 = .ok (.iload 4, 2) := by decide +kernel
theorem dX0_list_135 : decode cX0_list 135 = .ok (.iconst 1, 1) := by decide +kernel
theorem dX0_list_136 : decode cX0_list 136 = .ok (.iadd, 1) := by decide +kernel
theorem dX0_list_137 : decode cX0_list 137 = .ok (.putfield 44, 3) := by decide +kernel
theorem dX0_list_140 : decode cX0_list 140 = .ok (.iload 4, 2) := by decide +kernel
theorem dX0_list_142 : decode cX0_list 142 = .ok (.ireturn, 1) := by decide +kernel
theorem dX0_addTrader_0 : decode cX0_addTrader 0 = .ok (.aload_n 0, 1) := by decide +kernel
theorem dX0_addTrader_1 : decode cX0_addTrader 1 = .ok (.getfield 62, 3) := by decide +kernel
theorem dX0_addTrader_4 : decode cX0_addTrader 4 = .ok (.bipush 6, 2) := by decide +kernel
theorem dX0_addTrader_6 : decode cX0_addTrader 6 = .ok (.if_icmp .lt 13, 3) := by decide +kernel
theorem dX0_addTrader_9 : decode cX0_addTrader 9 = .ok (.new 48, 3) := by decide +kernel
theorem dX0_addTrader_12 : decode cX0_addTrader 12 = .ok (.dup, 1) := by decide +kernel
theorem dX0_addTrader_13 : decode cX0_addTrader 13 = .ok (.ldc 65, 2) := by decide +kernel
theorem dX0_addTrader_15 : decode cX0_addTrader 15 = .ok (.invokespecial 52, 3) := by decide +kernel
theorem dX0_addTrader_18 : decode cX0_addTrader 18 = .ok (.athrow, 1) := by decide +kernel
theorem dX0_addTrader_19 : decode cX0_addTrader 19 = .ok (.aload_n 0, 1) := by decide +kernel
theorem dX0_addTrader_20 : decode cX0_addTrader 20 = .ok (.getfield 62, 3) := by decide +kernel
theorem dX0_addTrader_23 : decode cX0_addTrader 23 = .ok (.istore_n 1, 1) := by decide +kernel
theorem dX0_addTrader_24 : decode cX0_addTrader 24 = .ok (.aload_n 0, 1) := by decide +kernel
theorem dX0_addTrader_25 : decode cX0_addTrader 25 = .ok (.getfield 25, 3) := by decide +kernel
theorem dX0_addTrader_28 : decode cX0_addTrader 28 = .ok (.iload_n 1, 1) := by decide +kernel
theorem dX0_addTrader_29 : decode cX0_addTrader 29 = .ok (.bipush 100, 2) := by decide +kernel
theorem dX0_addTrader_31 : decode cX0_addTrader 31 = .ok (.iastore, 1) := by decide +kernel
theorem dX0_addTrader_32 : decode cX0_addTrader 32 = .ok (.aload_n 0, 1) := by decide +kernel
theorem dX0_addTrader_33 : decode cX0_addTrader 33 = .ok (.iload_n 1, 1) := by decide +kernel
theorem dX0_addTrader_34 : decode cX0_addTrader 34 = .ok (.iconst 1, 1) := by decide +kernel
theorem dX0_addTrader_35 : decode cX0_addTrader 35 = .ok (.iadd, 1) := by decide +kernel
theorem dX0_addTrader_36 : decode cX0_addTrader 36 = .ok (.putfield 62, 3) := by decide +kernel
theorem dX0_addTrader_39 : decode cX0_addTrader 39 = .ok (.iload_n 1, 1) := by decide +kernel
theorem dX0_addTrader_40 : decode cX0_addTrader 40 = .ok (.ireturn, 1) := by decide +kernel
theorem dX0_buy_0 : decode cX0_buy 0 = .ok (.aload_n 0, 1) := by decide +kernel
theorem dX0_buy_1 : decode cX0_buy 1 = .ok (.iload_n 1, 1) := by decide +kernel
theorem dX0_buy_2 : decode cX0_buy 2 = .ok (.invokevirtual 67, 3) := by decide +kernel
theorem dX0_buy_5 : decode cX0_buy 5 = .ok (.aload_n 0, 1) := by decide +kernel
theorem dX0_buy_6 : decode cX0_buy 6 = .ok (.iload_n 2, 1) := by decide +kernel
theorem dX0_buy_7 : decode cX0_buy 7 = .ok (.invokevirtual 71, 3) := by decide +kernel
theorem dX0_buy_10 : decode cX0_buy 10 = .ok (.iload_n 3, 1) := by decide +kernel
theorem dX0_buy_11 : decode cX0_buy 11 = .ok (.invokestatic 74, 3) := by decide +kernel
theorem dX0_buy_14 : decode cX0_buy 14 = .ok (.aload_n 0, 1) := by decide +kernel
theorem dX0_buy_15 : decode cX0_buy 15 = .ok (.iload_n 2, 1) := by decide +kernel
theorem dX0_buy_16 : decode cX0_buy 16 = .ok (.invokevirtual 77, 3) := by decide +kernel
theorem dX0_buy_19 : decode cX0_buy 19 = .ok (.iload_n 3, 1) := by decide +kernel
theorem dX0_buy_20 : decode cX0_buy 20 = .ok (.imul, 1) := by decide +kernel
theorem dX0_buy_21 : decode cX0_buy 21 = .ok (.istore 4, 2) := by decide +kernel
theorem dX0_buy_23 : decode cX0_buy 23 = .ok (.aload_n 0, 1) := by decide +kernel
theorem dX0_buy_24 : decode cX0_buy 24 = .ok (.getfield 30, 3) := by decide +kernel
theorem dX0_buy_27 : decode cX0_buy 27 = .ok (.iload_n 1, 1) := by decide +kernel
theorem dX0_buy_28 : decode cX0_buy 28 = .ok (.aaload, 1) := by decide +kernel
theorem dX0_buy_29 : decode cX0_buy 29 = .ok (.iload_n 2, 1) := by decide +kernel
theorem dX0_buy_30 : decode cX0_buy 30 = .ok (.iaload, 1) := by decide +kernel
theorem dX0_buy_31 : decode cX0_buy 31 = .ok (.iload_n 3, 1) := by decide +kernel
theorem dX0_buy_32 : decode cX0_buy 32 = .ok (.iadd, 1) := by decide +kernel
theorem dX0_buy_33 : decode cX0_buy 33 = .ok (.bipush 9, 2) := by decide +kernel
theorem dX0_buy_35 : decode cX0_buy 35 = .ok (.if_icmp .le 13, 3) := by decide +kernel
theorem dX0_buy_38 : decode cX0_buy 38 = .ok (.new 48, 3) := by decide +kernel
theorem dX0_buy_41 : decode cX0_buy 41 = .ok (.dup, 1) := by decide +kernel
theorem dX0_buy_42 : decode cX0_buy 42 = .ok (.ldc 81, 2) := by decide +kernel
theorem dX0_buy_44 : decode cX0_buy 44 = .ok (.invokespecial 52, 3) := by decide +kernel
theorem dX0_buy_47 : decode cX0_buy 47 = .ok (.athrow, 1) := by decide +kernel
theorem dX0_buy_48 : decode cX0_buy 48 = .ok (.aload_n 0, 1) := by decide +kernel
theorem dX0_buy_49 : decode cX0_buy 49 = .ok (.getfield 25, 3) := by decide +kernel
theorem dX0_buy_52 : decode cX0_buy 52 = .ok (.iload_n 1, 1) := by decide +kernel
theorem dX0_buy_53 : decode cX0_buy 53 = .ok (.iaload, 1) := by decide +kernel
theorem dX0_buy_54 : decode cX0_buy 54 = .ok (.iload 4, 2) := by decide +kernel
theorem dX0_buy_56 : decode cX0_buy 56 = .ok (.if_icmp .ge 13, 3) := by decide +kernel
theorem dX0_buy_59 : decode cX0_buy 59 = .ok (.new 48, 3) := by decide +kernel
theorem dX0_buy_62 : decode cX0_buy 62 = .ok (.dup, 1) := by decide +kernel
theorem dX0_buy_63 : decode cX0_buy 63 = .ok (.ldc 83, 2) := by decide +kernel
theorem dX0_buy_65 : decode cX0_buy 65 = .ok (.invokespecial 52, 3) := by decide +kernel
theorem dX0_buy_68 : decode cX0_buy 68 = .ok (.athrow, 1) := by decide +kernel
theorem dX0_buy_69 : decode cX0_buy 69 = .ok (.aload_n 0, 1) := by decide +kernel
theorem dX0_buy_70 : decode cX0_buy 70 = .ok (.getfield 25, 3) := by decide +kernel
theorem dX0_buy_73 : decode cX0_buy 73 = .ok (.iload_n 1, 1) := by decide +kernel
theorem dX0_buy_74 : decode cX0_buy 74 = .ok (.dup2, 1) := by decide +kernel
theorem dX0_buy_75 : decode cX0_buy 75 = .ok (.iaload, 1) := by decide +kernel
theorem dX0_buy_76 : decode cX0_buy 76 = .ok (.iload 4, 2) := by decide +kernel
theorem dX0_buy_78 : decode cX0_buy 78 = .ok (.isub, 1) := by decide +kernel
theorem dX0_buy_79 : decode cX0_buy 79 = .ok (.iastore, 1) := by decide +kernel
theorem dX0_buy_80 : decode cX0_buy 80 = .ok (.aload_n 0, 1) := by decide +kernel
theorem dX0_buy_81 : decode cX0_buy 81 = .ok (.getfield 30, 3) := by decide +kernel
theorem dX0_buy_84 : decode cX0_buy 84 = .ok (.iload_n 1, 1) := by decide +kernel
theorem dX0_buy_85 : decode cX0_buy 85 = .ok (.aaload, 1) := by decide +kernel
theorem dX0_buy_86 : decode cX0_buy 86 = .ok (.iload_n 2, 1) := by decide +kernel
theorem dX0_buy_87 : decode cX0_buy 87 = .ok (.dup2, 1) := by decide +kernel
theorem dX0_buy_88 : decode cX0_buy 88 = .ok (.iaload, 1) := by decide +kernel
theorem dX0_buy_89 : decode cX0_buy 89 = .ok (.iload_n 3, 1) := by decide +kernel
theorem dX0_buy_90 : decode cX0_buy 90 = .ok (.iadd, 1) := by decide +kernel
theorem dX0_buy_91 : decode cX0_buy 91 = .ok (.iastore, 1) := by decide +kernel
theorem dX0_buy_92 : decode cX0_buy 92 = .ok (.iload 4, 2) := by decide +kernel
theorem dX0_buy_94 : decode cX0_buy 94 = .ok (.ireturn, 1) := by decide +kernel
theorem dX0_sell_0 : decode cX0_sell 0 = .ok (.aload_n 0, 1) := by decide +kernel
theorem dX0_sell_1 : decode cX0_sell 1 = .ok (.iload_n 1, 1) := by decide +kernel
theorem dX0_sell_2 : decode cX0_sell 2 = .ok (.invokevirtual 67, 3) := by decide +kernel
theorem dX0_sell_5 : decode cX0_sell 5 = .ok (.aload_n 0, 1) := by decide +kernel
theorem dX0_sell_6 : decode cX0_sell 6 = .ok (.iload_n 2, 1) := by decide +kernel
theorem dX0_sell_7 : decode cX0_sell 7 = .ok (.invokevirtual 71, 3) := by decide +kernel
theorem dX0_sell_10 : decode cX0_sell 10 = .ok (.iload_n 3, 1) := by decide +kernel
theorem dX0_sell_11 : decode cX0_sell 11 = .ok (.invokestatic 74, 3) := by decide +kernel
theorem dX0_sell_14 : decode cX0_sell 14 = .ok (.aload_n 0, 1) := by decide +kernel
theorem dX0_sell_15 : decode cX0_sell 15 = .ok (.getfield 30, 3) := by decide +kernel
theorem dX0_sell_18 : decode cX0_sell 18 = .ok (.iload_n 1, 1) := by decide +kernel
theorem dX0_sell_19 : decode cX0_sell 19 = .ok (.aaload, 1) := by decide +kernel
theorem dX0_sell_20 : decode cX0_sell 20 = .ok (.iload_n 2, 1) := by decide +kernel
theorem dX0_sell_21 : decode cX0_sell 21 = .ok (.iaload, 1) := by decide +kernel
theorem dX0_sell_22 : decode cX0_sell 22 = .ok (.iload_n 3, 1) := by decide +kernel
theorem dX0_sell_23 : decode cX0_sell 23 = .ok (.isub, 1) := by decide +kernel
theorem dX0_sell_24 : decode cX0_sell 24 = .ok (.bipush (-9), 2) := by decide +kernel
theorem dX0_sell_26 : decode cX0_sell 26 = .ok (.if_icmp .ge 13, 3) := by decide +kernel
theorem dX0_sell_29 : decode cX0_sell 29 = .ok (.new 48, 3) := by decide +kernel
theorem dX0_sell_32 : decode cX0_sell 32 = .ok (.dup, 1) := by decide +kernel
theorem dX0_sell_33 : decode cX0_sell 33 = .ok (.ldc 85, 2) := by decide +kernel
theorem dX0_sell_35 : decode cX0_sell 35 = .ok (.invokespecial 52, 3) := by decide +kernel
theorem dX0_sell_38 : decode cX0_sell 38 = .ok (.athrow, 1) := by decide +kernel
theorem dX0_sell_39 : decode cX0_sell 39 = .ok (.aload_n 0, 1) := by decide +kernel
theorem dX0_sell_40 : decode cX0_sell 40 = .ok (.iload_n 2, 1) := by decide +kernel
theorem dX0_sell_41 : decode cX0_sell 41 = .ok (.invokevirtual 77, 3) := by decide +kernel
theorem dX0_sell_44 : decode cX0_sell 44 = .ok (.iload_n 3, 1) := by decide +kernel
theorem dX0_sell_45 : decode cX0_sell 45 = .ok (.imul, 1) := by decide +kernel
theorem dX0_sell_46 : decode cX0_sell 46 = .ok (.istore 4, 2) := by decide +kernel
theorem dX0_sell_48 : decode cX0_sell 48 = .ok (.aload_n 0, 1) := by decide +kernel
theorem dX0_sell_49 : decode cX0_sell 49 = .ok (.getfield 25, 3) := by decide +kernel
theorem dX0_sell_52 : decode cX0_sell 52 = .ok (.iload_n 1, 1) := by decide +kernel
theorem dX0_sell_53 : decode cX0_sell 53 = .ok (.dup2, 1) := by decide +kernel
theorem dX0_sell_54 : decode cX0_sell 54 = .ok (.iaload, 1) := by decide +kernel
theorem dX0_sell_55 : decode cX0_sell 55 = .ok (.iload 4, 2) := by decide +kernel
theorem dX0_sell_57 : decode cX0_sell 57 = .ok (.iadd, 1) := by decide +kernel
theorem dX0_sell_58 : decode cX0_sell 58 = .ok (.iastore, 1) := by decide +kernel
theorem dX0_sell_59 : decode cX0_sell 59 = .ok (.aload_n 0, 1) := by decide +kernel
theorem dX0_sell_60 : decode cX0_sell 60 = .ok (.getfield 30, 3) := by decide +kernel
theorem dX0_sell_63 : decode cX0_sell 63 = .ok (.iload_n 1, 1) := by decide +kernel
theorem dX0_sell_64 : decode cX0_sell 64 = .ok (.aaload, 1) := by decide +kernel
theorem dX0_sell_65 : decode cX0_sell 65 = .ok (.iload_n 2, 1) := by decide +kernel
theorem dX0_sell_66 : decode cX0_sell 66 = .ok (.dup2, 1) := by decide +kernel
theorem dX0_sell_67 : decode cX0_sell 67 = .ok (.iaload, 1) := by decide +kernel
theorem dX0_sell_68 : decode cX0_sell 68 = .ok (.iload_n 3, 1) := by decide +kernel
theorem dX0_sell_69 : decode cX0_sell 69 = .ok (.isub, 1) := by decide +kernel
theorem dX0_sell_70 : decode cX0_sell 70 = .ok (.iastore, 1) := by decide +kernel
theorem dX0_sell_71 : decode cX0_sell 71 = .ok (.iload 4, 2) := by decide +kernel
theorem dX0_sell_73 : decode cX0_sell 73 = .ok (.ireturn, 1) := by decide +kernel
theorem dX0_pass_0 : decode cX0_pass 0 = .ok (.iload_n 1, 1) := by decide +kernel
theorem dX0_pass_1 : decode cX0_pass 1 = .ok (.invokestatic 87, 3) := by decide +kernel
theorem dX0_pass_4 : decode cX0_pass 4 = .ok (.iconst 0, 1) := by decide +kernel
theorem dX0_pass_5 : decode cX0_pass 5 = .ok (.istore_n 2, 1) := by decide +kernel
theorem dX0_pass_6 : decode cX0_pass 6 = .ok (.iconst 0, 1) := by decide +kernel
theorem dX0_pass_7 : decode cX0_pass 7 = .ok (.istore_n 3, 1) := by decide +kernel
theorem dX0_pass_8 : decode cX0_pass 8 = .ok (.iload_n 3, 1) := by decide +kernel
theorem dX0_pass_9 : decode cX0_pass 9 = .ok (.iload_n 1, 1) := by decide +kernel
theorem dX0_pass_10 : decode cX0_pass 10 = .ok (.if_icmp .ge 16, 3) := by decide +kernel
theorem dX0_pass_13 : decode cX0_pass 13 = .ok (.iload_n 2, 1) := by decide +kernel
theorem dX0_pass_14 : decode cX0_pass 14 = .ok (.aload_n 0, 1) := by decide +kernel
theorem dX0_pass_15 : decode cX0_pass 15 = .ok (.invokevirtual 90, 3) := by decide +kernel
theorem dX0_pass_18 : decode cX0_pass 18 = .ok (.iadd, 1) := by decide +kernel
theorem dX0_pass_19 : decode cX0_pass 19 = .ok (.istore_n 2, 1) := by decide +kernel
theorem dX0_pass_20 : decode cX0_pass 20 = .ok (.iinc 3 1, 3) := by decide +kernel
theorem dX0_pass_23 : decode cX0_pass 23 = .ok (.goto (-15), 3) := by decide +kernel
theorem dX0_pass_26 : decode cX0_pass 26 = .ok (.iload_n 2, 1) := by decide +kernel
theorem dX0_pass_27 : decode cX0_pass 27 = .ok (.ireturn, 1) := by decide +kernel
theorem dX0_second_0 : decode cX0_second 0 = .ok (.aload_n 0, 1) := by decide +kernel
theorem dX0_second_1 : decode cX0_second 1 = .ok (.getfield 53, 3) := by decide +kernel
theorem dX0_second_4 : decode cX0_second 4 = .ok (.ireturn, 1) := by decide +kernel
theorem dX0_towers_0 : decode cX0_towers 0 = .ok (.aload_n 0, 1) := by decide +kernel
theorem dX0_towers_1 : decode cX0_towers 1 = .ok (.getfield 44, 3) := by decide +kernel
theorem dX0_towers_4 : decode cX0_towers 4 = .ok (.ireturn, 1) := by decide +kernel
theorem dX0_silenceOf_0 : decode cX0_silenceOf 0 = .ok (.aload_n 0, 1) := by decide +kernel
theorem dX0_silenceOf_1 : decode cX0_silenceOf 1 = .ok (.iload_n 1, 1) := by decide +kernel
theorem dX0_silenceOf_2 : decode cX0_silenceOf 2 = .ok (.invokevirtual 71, 3) := by decide +kernel
theorem dX0_silenceOf_5 : decode cX0_silenceOf 5 = .ok (.aload_n 0, 1) := by decide +kernel
theorem dX0_silenceOf_6 : decode cX0_silenceOf 6 = .ok (.getfield 16, 3) := by decide +kernel
theorem dX0_silenceOf_9 : decode cX0_silenceOf 9 = .ok (.iload_n 1, 1) := by decide +kernel
theorem dX0_silenceOf_10 : decode cX0_silenceOf 10 = .ok (.iaload, 1) := by decide +kernel
theorem dX0_silenceOf_11 : decode cX0_silenceOf 11 = .ok (.ireturn, 1) := by decide +kernel
theorem dX0_dovesOn_0 : decode cX0_dovesOn 0 = .ok (.aload_n 0, 1) := by decide +kernel
theorem dX0_dovesOn_1 : decode cX0_dovesOn 1 = .ok (.iload_n 1, 1) := by decide +kernel
theorem dX0_dovesOn_2 : decode cX0_dovesOn 2 = .ok (.invokevirtual 71, 3) := by decide +kernel
theorem dX0_dovesOn_5 : decode cX0_dovesOn 5 = .ok (.aload_n 0, 1) := by decide +kernel
theorem dX0_dovesOn_6 : decode cX0_dovesOn 6 = .ok (.iload_n 1, 1) := by decide +kernel
theorem dX0_dovesOn_7 : decode cX0_dovesOn 7 = .ok (.invokevirtual 94, 3) := by decide +kernel
theorem dX0_dovesOn_10 : decode cX0_dovesOn 10 = .ok (.ireturn, 1) := by decide +kernel
theorem dX0_priceOf_0 : decode cX0_priceOf 0 = .ok (.aload_n 0, 1) := by decide +kernel
theorem dX0_priceOf_1 : decode cX0_priceOf 1 = .ok (.iload_n 1, 1) := by decide +kernel
theorem dX0_priceOf_2 : decode cX0_priceOf 2 = .ok (.invokevirtual 71, 3) := by decide +kernel
theorem dX0_priceOf_5 : decode cX0_priceOf 5 = .ok (.aload_n 0, 1) := by decide +kernel
theorem dX0_priceOf_6 : decode cX0_priceOf 6 = .ok (.iload_n 1, 1) := by decide +kernel
theorem dX0_priceOf_7 : decode cX0_priceOf 7 = .ok (.invokevirtual 77, 3) := by decide +kernel
theorem dX0_priceOf_10 : decode cX0_priceOf 10 = .ok (.ireturn, 1) := by decide +kernel
theorem dX0_secondsUntilStroke_0 : decode cX0_secondsUntilStroke 0 = .ok (.aload_n 0, 1) := by decide +kernel
theorem dX0_secondsUntilStroke_1 : decode cX0_secondsUntilStroke 1 = .ok (.iload_n 1, 1) := by decide +kernel
theorem dX0_secondsUntilStroke_2 : decode cX0_secondsUntilStroke 2 = .ok (.invokevirtual 71, 3) := by decide +kernel
theorem dX0_secondsUntilStroke_5 : decode cX0_secondsUntilStroke 5 = .ok (.aload_n 0, 1) := by decide +kernel
theorem dX0_secondsUntilStroke_6 : decode cX0_secondsUntilStroke 6 = .ok (.getfield 19, 3) := by decide +kernel
theorem dX0_secondsUntilStroke_9 : decode cX0_secondsUntilStroke 9 = .ok (.iload_n 1, 1) := by decide +kernel
theorem dX0_secondsUntilStroke_10 : decode cX0_secondsUntilStroke 10 = .ok (.iaload, 1) := by decide +kernel
theorem dX0_secondsUntilStroke_11 : decode cX0_secondsUntilStroke 11 = .ok (.ireturn, 1) := by decide +kernel
theorem dX0_strokesOf_0 : decode cX0_strokesOf 0 = .ok (.aload_n 0, 1) := by decide +kernel
theorem dX0_strokesOf_1 : decode cX0_strokesOf 1 = .ok (.iload_n 1, 1) := by decide +kernel
theorem dX0_strokesOf_2 : decode cX0_strokesOf 2 = .ok (.invokevirtual 71, 3) := by decide +kernel
theorem dX0_strokesOf_5 : decode cX0_strokesOf 5 = .ok (.aload_n 0, 1) := by decide +kernel
theorem dX0_strokesOf_6 : decode cX0_strokesOf 6 = .ok (.getfield 22, 3) := by decide +kernel
theorem dX0_strokesOf_9 : decode cX0_strokesOf 9 = .ok (.iload_n 1, 1) := by decide +kernel
theorem dX0_strokesOf_10 : decode cX0_strokesOf 10 = .ok (.iaload, 1) := by decide +kernel
theorem dX0_strokesOf_11 : decode cX0_strokesOf 11 = .ok (.ireturn, 1) := by decide +kernel
theorem dX0_openSeconds_0 : decode cX0_openSeconds 0 = .ok (.aload_n 0, 1) := by decide +kernel
theorem dX0_openSeconds_1 : decode cX0_openSeconds 1 = .ok (.iload_n 1, 1) := by decide +kernel
theorem dX0_openSeconds_2 : decode cX0_openSeconds 2 = .ok (.invokevirtual 71, 3) := by decide +kernel
theorem dX0_openSeconds_5 : decode cX0_openSeconds 5 = .ok (.aload_n 0, 1) := by decide +kernel
theorem dX0_openSeconds_6 : decode cX0_openSeconds 6 = .ok (.iload_n 1, 1) := by decide +kernel
theorem dX0_openSeconds_7 : decode cX0_openSeconds 7 = .ok (.invokevirtual 97, 3) := by decide +kernel
theorem dX0_openSeconds_10 : decode cX0_openSeconds 10 = .ok (.ireturn, 1) := by decide +kernel
theorem dX0_dearest_0 : decode cX0_dearest 0 = .ok (.iconst (-1), 1) := by decide +kernel
theorem dX0_dearest_1 : decode cX0_dearest 1 = .ok (.istore_n 1, 1) := by decide +kernel
theorem dX0_dearest_2 : decode cX0_dearest 2 = .ok (.iconst 0, 1) := by decide +kernel
theorem dX0_dearest_3 : decode cX0_dearest 3 = .ok (.istore_n 2, 1) := by decide +kernel
theorem dX0_dearest_4 : decode cX0_dearest 4 = .ok (.iload_n 2, 1) := by decide +kernel
theorem dX0_dearest_5 : decode cX0_dearest 5 = .ok (.aload_n 0, 1) := by decide +kernel
theorem dX0_dearest_6 : decode cX0_dearest 6 = .ok (.getfield 44, 3) := by decide +kernel
theorem dX0_dearest_9 : decode cX0_dearest 9 = .ok (.if_icmp .ge 28, 3) := by decide +kernel
theorem dX0_dearest_12 : decode cX0_dearest 12 = .ok (.iload_n 1, 1) := by decide +kernel
theorem dX0_dearest_13 : decode cX0_dearest 13 = .ok (.ifCond .lt 16, 3) := by decide +kernel
theorem dX0_dearest_16 : decode cX0_dearest 16 = .ok (.aload_n 0, 1) := by decide +kernel
theorem dX0_dearest_17 : decode cX0_dearest 17 = .ok (.iload_n 2, 1) := by decide +kernel
theorem dX0_dearest_18 : decode cX0_dearest 18 = .ok (.invokevirtual 77, 3) := by decide +kernel
theorem dX0_dearest_21 : decode cX0_dearest 21 = .ok (.aload_n 0, 1) := by decide +kernel
theorem dX0_dearest_22 : decode cX0_dearest 22 = .ok (.iload_n 1, 1) := by decide +kernel
theorem dX0_dearest_23 : decode cX0_dearest 23 = .ok (.invokevirtual 77, 3) := by decide +kernel
theorem dX0_dearest_26 : decode cX0_dearest 26 = .ok (.if_icmp .le 5, 3) := by decide +kernel
theorem dX0_dearest_29 : decode cX0_dearest 29 = .ok (.iload_n 2, 1) := by decide +kernel
theorem dX0_dearest_30 : decode cX0_dearest 30 = .ok (.istore_n 1, 1) := by decide +kernel
theorem dX0_dearest_31 : decode cX0_dearest 31 = .ok (.iinc 2 1, 3) := by decide +kernel
theorem dX0_dearest_34 : decode cX0_dearest 34 = .ok (.goto (-30), 3) := by decide +kernel
theorem dX0_dearest_37 : decode cX0_dearest 37 = .ok (.iload_n 1, 1) := by decide +kernel
theorem dX0_dearest_38 : decode cX0_dearest 38 = .ok (.ireturn, 1) := by decide +kernel
theorem dX0_nextToStrike_0 : decode cX0_nextToStrike 0 = .ok (.iconst (-1), 1) := by decide +kernel
theorem dX0_nextToStrike_1 : decode cX0_nextToStrike 1 = .ok (.istore_n 1, 1) := by decide +kernel
theorem dX0_nextToStrike_2 : decode cX0_nextToStrike 2 = .ok (.iconst 0, 1) := by decide +kernel
theorem dX0_nextToStrike_3 : decode cX0_nextToStrike 3 = .ok (.istore_n 2, 1) := by decide +kernel
theorem dX0_nextToStrike_4 : decode cX0_nextToStrike 4 = .ok (.iload_n 2, 1) := by decide +kernel
theorem dX0_nextToStrike_5 : decode cX0_nextToStrike 5 = .ok (.aload_n 0, 1) := by decide +kernel
theorem dX0_nextToStrike_6 : decode cX0_nextToStrike 6 = .ok (.getfield 44, 3) := by decide +kernel
theorem dX0_nextToStrike_9 : decode cX0_nextToStrike 9 = .ok (.if_icmp .ge 30, 3) := by decide +kernel
theorem dX0_nextToStrike_12 : decode cX0_nextToStrike 12 = .ok (.iload_n 1, 1) := by decide +kernel
theorem dX0_nextToStrike_13 : decode cX0_nextToStrike 13 = .ok (.ifCond .lt 18, 3) := by decide +kernel
theorem dX0_nextToStrike_16 : decode cX0_nextToStrike 16 = .ok (.aload_n 0, 1) := by decide +kernel
theorem dX0_nextToStrike_17 : decode cX0_nextToStrike 17 = .ok (.getfield 19, 3) := by decide +kernel
theorem dX0_nextToStrike_20 : decode cX0_nextToStrike 20 = .ok (.iload_n 2, 1) := by decide +kernel
theorem dX0_nextToStrike_21 : decode cX0_nextToStrike 21 = .ok (.iaload, 1) := by decide +kernel
theorem dX0_nextToStrike_22 : decode cX0_nextToStrike 22 = .ok (.aload_n 0, 1) := by decide +kernel
theorem dX0_nextToStrike_23 : decode cX0_nextToStrike 23 = .ok (.getfield 19, 3) := by decide +kernel
theorem dX0_nextToStrike_26 : decode cX0_nextToStrike 26 = .ok (.iload_n 1, 1) := by decide +kernel
theorem dX0_nextToStrike_27 : decode cX0_nextToStrike 27 = .ok (.iaload, 1) := by decide +kernel
theorem dX0_nextToStrike_28 : decode cX0_nextToStrike 28 = .ok (.if_icmp .ge 5, 3) := by decide +kernel
theorem dX0_nextToStrike_31 : decode cX0_nextToStrike 31 = .ok (.iload_n 2, 1) := by decide +kernel
theorem dX0_nextToStrike_32 : decode cX0_nextToStrike 32 = .ok (.istore_n 1, 1) := by decide +kernel
theorem dX0_nextToStrike_33 : decode cX0_nextToStrike 33 = .ok (.iinc 2 1, 3) := by decide +kernel
theorem dX0_nextToStrike_36 : decode cX0_nextToStrike 36 = .ok (.goto (-32), 3) := by decide +kernel
theorem dX0_nextToStrike_39 : decode cX0_nextToStrike 39 = .ok (.iload_n 1, 1) := by decide +kernel
theorem dX0_nextToStrike_40 : decode cX0_nextToStrike 40 = .ok (.ireturn, 1) := by decide +kernel
theorem dX0_traders_0 : decode cX0_traders 0 = .ok (.aload_n 0, 1) := by decide +kernel
theorem dX0_traders_1 : decode cX0_traders 1 = .ok (.getfield 62, 3) := by decide +kernel
theorem dX0_traders_4 : decode cX0_traders 4 = .ok (.ireturn, 1) := by decide +kernel
theorem dX0_purseOf_0 : decode cX0_purseOf 0 = .ok (.aload_n 0, 1) := by decide +kernel
theorem dX0_purseOf_1 : decode cX0_purseOf 1 = .ok (.iload_n 1, 1) := by decide +kernel
theorem dX0_purseOf_2 : decode cX0_purseOf 2 = .ok (.invokevirtual 67, 3) := by decide +kernel
theorem dX0_purseOf_5 : decode cX0_purseOf 5 = .ok (.aload_n 0, 1) := by decide +kernel
theorem dX0_purseOf_6 : decode cX0_purseOf 6 = .ok (.getfield 25, 3) := by decide +kernel
theorem dX0_purseOf_9 : decode cX0_purseOf 9 = .ok (.iload_n 1, 1) := by decide +kernel
theorem dX0_purseOf_10 : decode cX0_purseOf 10 = .ok (.iaload, 1) := by decide +kernel
theorem dX0_purseOf_11 : decode cX0_purseOf 11 = .ok (.ireturn, 1) := by decide +kernel
theorem dX0_holds_0 : decode cX0_holds 0 = .ok (.aload_n 0, 1) := by decide +kernel
theorem dX0_holds_1 : decode cX0_holds 1 = .ok (.iload_n 1, 1) := by decide +kernel
theorem dX0_holds_2 : decode cX0_holds 2 = .ok (.invokevirtual 67, 3) := by decide +kernel
theorem dX0_holds_5 : decode cX0_holds 5 = .ok (.aload_n 0, 1) := by decide +kernel
theorem dX0_holds_6 : decode cX0_holds 6 = .ok (.iload_n 2, 1) := by decide +kernel
theorem dX0_holds_7 : decode cX0_holds 7 = .ok (.invokevirtual 71, 3) := by decide +kernel
theorem dX0_holds_10 : decode cX0_holds 10 = .ok (.aload_n 0, 1) := by decide +kernel
theorem dX0_holds_11 : decode cX0_holds 11 = .ok (.getfield 30, 3) := by decide +kernel
theorem dX0_holds_14 : decode cX0_holds 14 = .ok (.iload_n 1, 1) := by decide +kernel
theorem dX0_holds_15 : decode cX0_holds 15 = .ok (.aaload, 1) := by decide +kernel
theorem dX0_holds_16 : decode cX0_holds 16 = .ok (.iload_n 2, 1) := by decide +kernel
theorem dX0_holds_17 : decode cX0_holds 17 = .ok (.iaload, 1) := by decide +kernel
theorem dX0_holds_18 : decode cX0_holds 18 = .ok (.ireturn, 1) := by decide +kernel
theorem dX0_worthOf_0 : decode cX0_worthOf 0 = .ok (.aload_n 0, 1) := by decide +kernel
theorem dX0_worthOf_1 : decode cX0_worthOf 1 = .ok (.iload_n 1, 1) := by decide +kernel
theorem dX0_worthOf_2 : decode cX0_worthOf 2 = .ok (.invokevirtual 67, 3) := by decide +kernel
theorem dX0_worthOf_5 : decode cX0_worthOf 5 = .ok (.aload_n 0, 1) := by decide +kernel
theorem dX0_worthOf_6 : decode cX0_worthOf 6 = .ok (.iload_n 1, 1) := by decide +kernel
theorem dX0_worthOf_7 : decode cX0_worthOf 7 = .ok (.iconst 0, 1) := by decide +kernel
theorem dX0_worthOf_8 : decode cX0_worthOf 8 = .ok (.invokevirtual 100, 3) := by decide +kernel
theorem dX0_worthOf_11 : decode cX0_worthOf 11 = .ok (.ireturn, 1) := by decide +kernel
theorem dX0_richest_0 : decode cX0_richest 0 = .ok (.iconst (-1), 1) := by decide +kernel
theorem dX0_richest_1 : decode cX0_richest 1 = .ok (.istore_n 1, 1) := by decide +kernel
theorem dX0_richest_2 : decode cX0_richest 2 = .ok (.iconst 0, 1) := by decide +kernel
theorem dX0_richest_3 : decode cX0_richest 3 = .ok (.istore_n 2, 1) := by decide +kernel
theorem dX0_richest_4 : decode cX0_richest 4 = .ok (.iload_n 2, 1) := by decide +kernel
theorem dX0_richest_5 : decode cX0_richest 5 = .ok (.aload_n 0, 1) := by decide +kernel
theorem dX0_richest_6 : decode cX0_richest 6 = .ok (.getfield 62, 3) := by decide +kernel
theorem dX0_richest_9 : decode cX0_richest 9 = .ok (.if_icmp .ge 30, 3) := by decide +kernel
theorem dX0_richest_12 : decode cX0_richest 12 = .ok (.iload_n 1, 1) := by decide +kernel
theorem dX0_richest_13 : decode cX0_richest 13 = .ok (.ifCond .lt 18, 3) := by decide +kernel
theorem dX0_richest_16 : decode cX0_richest 16 = .ok (.aload_n 0, 1) := by decide +kernel
theorem dX0_richest_17 : decode cX0_richest 17 = .ok (.iload_n 2, 1) := by decide +kernel
theorem dX0_richest_18 : decode cX0_richest 18 = .ok (.iconst 0, 1) := by decide +kernel
theorem dX0_richest_19 : decode cX0_richest 19 = .ok (.invokevirtual 100, 3) := by decide +kernel
theorem dX0_richest_22 : decode cX0_richest 22 = .ok (.aload_n 0, 1) := by decide +kernel
theorem dX0_richest_23 : decode cX0_richest 23 = .ok (.iload_n 1, 1) := by decide +kernel
theorem dX0_richest_24 : decode cX0_richest 24 = .ok (.iconst 0, 1) := by decide +kernel
theorem dX0_richest_25 : decode cX0_richest 25 = .ok (.invokevirtual 100, 3) := by decide +kernel
theorem dX0_richest_28 : decode cX0_richest 28 = .ok (.if_icmp .le 5, 3) := by decide +kernel
theorem dX0_richest_31 : decode cX0_richest 31 = .ok (.iload_n 2, 1) := by decide +kernel
theorem dX0_richest_32 : decode cX0_richest 32 = .ok (.istore_n 1, 1) := by decide +kernel
theorem dX0_richest_33 : decode cX0_richest 33 = .ok (.iinc 2 1, 3) := by decide +kernel
theorem dX0_richest_36 : decode cX0_richest 36 = .ok (.goto (-32), 3) := by decide +kernel
theorem dX0_richest_39 : decode cX0_richest 39 = .ok (.iload_n 1, 1) := by decide +kernel
theorem dX0_richest_40 : decode cX0_richest 40 = .ok (.ireturn, 1) := by decide +kernel
theorem dX0_shortsOf_0 : decode cX0_shortsOf 0 = .ok (.aload_n 0, 1) := by decide +kernel
theorem dX0_shortsOf_1 : decode cX0_shortsOf 1 = .ok (.iload_n 1, 1) := by decide +kernel
theorem dX0_shortsOf_2 : decode cX0_shortsOf 2 = .ok (.invokevirtual 67, 3) := by decide +kernel
theorem dX0_shortsOf_5 : decode cX0_shortsOf 5 = .ok (.aload_n 0, 1) := by decide +kernel
theorem dX0_shortsOf_6 : decode cX0_shortsOf 6 = .ok (.iload_n 1, 1) := by decide +kernel
theorem dX0_shortsOf_7 : decode cX0_shortsOf 7 = .ok (.invokevirtual 103, 3) := by decide +kernel
theorem dX0_shortsOf_10 : decode cX0_shortsOf 10 = .ok (.ireturn, 1) := by decide +kernel
theorem dX0_inDebt_0 : decode cX0_inDebt 0 = .ok (.iconst 0, 1) := by decide +kernel
theorem dX0_inDebt_1 : decode cX0_inDebt 1 = .ok (.istore_n 1, 1) := by decide +kernel
theorem dX0_inDebt_2 : decode cX0_inDebt 2 = .ok (.iconst 0, 1) := by decide +kernel
theorem dX0_inDebt_3 : decode cX0_inDebt 3 = .ok (.istore_n 2, 1) := by decide +kernel
theorem dX0_inDebt_4 : decode cX0_inDebt 4 = .ok (.iload_n 2, 1) := by decide +kernel
theorem dX0_inDebt_5 : decode cX0_inDebt 5 = .ok (.aload_n 0, 1) := by decide +kernel
theorem dX0_inDebt_6 : decode cX0_inDebt 6 = .ok (.getfield 62, 3) := by decide +kernel
theorem dX0_inDebt_9 : decode cX0_inDebt 9 = .ok (.if_icmp .ge 21, 3) := by decide +kernel
theorem dX0_inDebt_12 : decode cX0_inDebt 12 = .ok (.aload_n 0, 1) := by decide +kernel
theorem dX0_inDebt_13 : decode cX0_inDebt 13 = .ok (.getfield 25, 3) := by decide +kernel
theorem dX0_inDebt_16 : decode cX0_inDebt 16 = .ok (.iload_n 2, 1) := by decide +kernel
theorem dX0_inDebt_17 : decode cX0_inDebt 17 = .ok (.iaload, 1) := by decide +kernel
theorem dX0_inDebt_18 : decode cX0_inDebt 18 = .ok (.ifCond .ge 6, 3) := by decide +kernel
theorem dX0_inDebt_21 : decode cX0_inDebt 21 = .ok (.iinc 1 1, 3) := by decide +kernel
theorem dX0_inDebt_24 : decode cX0_inDebt 24 = .ok (.iinc 2 1, 3) := by decide +kernel
theorem dX0_inDebt_27 : decode cX0_inDebt 27 = .ok (.goto (-23), 3) := by decide +kernel
theorem dX0_inDebt_30 : decode cX0_inDebt 30 = .ok (.iload_n 1, 1) := by decide +kernel
theorem dX0_inDebt_31 : decode cX0_inDebt 31 = .ok (.ireturn, 1) := by decide +kernel
theorem dX0_closingPrice_0 : decode cX0_closingPrice 0 = .ok (.aload_n 0, 1) := by decide +kernel
theorem dX0_closingPrice_1 : decode cX0_closingPrice 1 = .ok (.iload_n 1, 1) := by decide +kernel
theorem dX0_closingPrice_2 : decode cX0_closingPrice 2 = .ok (.invokevirtual 71, 3) := by decide +kernel
theorem dX0_closingPrice_5 : decode cX0_closingPrice 5 = .ok (.aload_n 0, 1) := by decide +kernel
theorem dX0_closingPrice_6 : decode cX0_closingPrice 6 = .ok (.iload_n 1, 1) := by decide +kernel
theorem dX0_closingPrice_7 : decode cX0_closingPrice 7 = .ok (.invokevirtual 106, 3) := by decide +kernel
theorem dX0_closingPrice_10 : decode cX0_closingPrice 10 = .ok (.ireturn, 1) := by decide +kernel
theorem dX0_bestToBuy_0 : decode cX0_bestToBuy 0 = .ok (.iconst (-1), 1) := by decide +kernel
theorem dX0_bestToBuy_1 : decode cX0_bestToBuy 1 = .ok (.istore_n 1, 1) := by decide +kernel
theorem dX0_bestToBuy_2 : decode cX0_bestToBuy 2 = .ok (.iconst 0, 1) := by decide +kernel
theorem dX0_bestToBuy_3 : decode cX0_bestToBuy 3 = .ok (.istore_n 2, 1) := by decide +kernel
theorem dX0_bestToBuy_4 : decode cX0_bestToBuy 4 = .ok (.iload_n 2, 1) := by decide +kernel
theorem dX0_bestToBuy_5 : decode cX0_bestToBuy 5 = .ok (.aload_n 0, 1) := by decide +kernel
theorem dX0_bestToBuy_6 : decode cX0_bestToBuy 6 = .ok (.getfield 44, 3) := by decide +kernel
theorem dX0_bestToBuy_9 : decode cX0_bestToBuy 9 = .ok (.if_icmp .ge 34, 3) := by decide +kernel
theorem dX0_bestToBuy_12 : decode cX0_bestToBuy 12 = .ok (.aload_n 0, 1) := by decide +kernel
theorem dX0_bestToBuy_13 : decode cX0_bestToBuy 13 = .ok (.iload_n 2, 1) := by decide +kernel
theorem dX0_bestToBuy_14 : decode cX0_bestToBuy 14 = .ok (.invokevirtual 112, 3) := by decide +kernel
theorem dX0_bestToBuy_17 : decode cX0_bestToBuy 17 = .ok (.istore_n 3, 1) := by decide +kernel
theorem dX0_bestToBuy_18 : decode cX0_bestToBuy 18 = .ok (.iload_n 3, 1) := by decide +kernel
theorem dX0_bestToBuy_19 : decode cX0_bestToBuy 19 = .ok (.ifCond .le 18, 3) := by decide +kernel
theorem dX0_bestToBuy_22 : decode cX0_bestToBuy 22 = .ok (.iload_n 1, 1) := by decide +kernel
theorem dX0_bestToBuy_23 : decode cX0_bestToBuy 23 = .ok (.ifCond .lt 12, 3) := by decide +kernel
theorem dX0_bestToBuy_26 : decode cX0_bestToBuy 26 = .ok (.iload_n 3, 1) := by decide +kernel
theorem dX0_bestToBuy_27 : decode cX0_bestToBuy 27 = .ok (.aload_n 0, 1) := by decide +kernel
theorem dX0_bestToBuy_28 : decode cX0_bestToBuy 28 = .ok (.iload_n 1, 1) := by decide +kernel
theorem dX0_bestToBuy_29 : decode cX0_bestToBuy 29 = .ok (.invokevirtual 112, 3) := by decide +kernel
theorem dX0_bestToBuy_32 : decode cX0_bestToBuy 32 = .ok (.if_icmp .le 5, 3) := by decide +kernel
theorem dX0_bestToBuy_35 : decode cX0_bestToBuy 35 = .ok (.iload_n 2, 1) := by decide +kernel
theorem dX0_bestToBuy_36 : decode cX0_bestToBuy 36 = .ok (.istore_n 1, 1) := by decide +kernel
theorem dX0_bestToBuy_37 : decode cX0_bestToBuy 37 = .ok (.iinc 2 1, 3) := by decide +kernel
theorem dX0_bestToBuy_40 : decode cX0_bestToBuy 40 = .ok (.goto (-36), 3) := by decide +kernel
theorem dX0_bestToBuy_43 : decode cX0_bestToBuy 43 = .ok (.iload_n 1, 1) := by decide +kernel
theorem dX0_bestToBuy_44 : decode cX0_bestToBuy 44 = .ok (.ireturn, 1) := by decide +kernel
theorem dX0_meanPrice_0 : decode cX0_meanPrice 0 = .ok (.aload_n 0, 1) := by decide +kernel
theorem dX0_meanPrice_1 : decode cX0_meanPrice 1 = .ok (.getfield 44, 3) := by decide +kernel
theorem dX0_meanPrice_4 : decode cX0_meanPrice 4 = .ok (.iconst 1, 1) := by decide +kernel
theorem dX0_meanPrice_5 : decode cX0_meanPrice 5 = .ok (.if_icmp .ge 5, 3) := by decide +kernel
theorem dX0_meanPrice_8 : decode cX0_meanPrice 8 = .ok (.dconst 0, 1) := by decide +kernel
theorem dX0_meanPrice_9 : decode cX0_meanPrice 9 = .ok (.dreturn, 1) := by decide +kernel
theorem dX0_meanPrice_10 : decode cX0_meanPrice 10 = .ok (.iconst 0, 1) := by decide +kernel
theorem dX0_meanPrice_11 : decode cX0_meanPrice 11 = .ok (.istore_n 1, 1) := by decide +kernel
theorem dX0_meanPrice_12 : decode cX0_meanPrice 12 = .ok (.iconst 0, 1) := by decide +kernel
theorem dX0_meanPrice_13 : decode cX0_meanPrice 13 = .ok (.istore_n 2, 1) := by decide +kernel
theorem dX0_meanPrice_14 : decode cX0_meanPrice 14 = .ok (.iload_n 2, 1) := by decide +kernel
theorem dX0_meanPrice_15 : decode cX0_meanPrice 15 = .ok (.aload_n 0, 1) := by decide +kernel
theorem dX0_meanPrice_16 : decode cX0_meanPrice 16 = .ok (.getfield 44, 3) := by decide +kernel
theorem dX0_meanPrice_19 : decode cX0_meanPrice 19 = .ok (.if_icmp .ge 17, 3) := by decide +kernel
theorem dX0_meanPrice_22 : decode cX0_meanPrice 22 = .ok (.iload_n 1, 1) := by decide +kernel
theorem dX0_meanPrice_23 : decode cX0_meanPrice 23 = .ok (.aload_n 0, 1) := by decide +kernel
theorem dX0_meanPrice_24 : decode cX0_meanPrice 24 = .ok (.iload_n 2, 1) := by decide +kernel
theorem dX0_meanPrice_25 : decode cX0_meanPrice 25 = .ok (.invokevirtual 77, 3) := by decide +kernel
theorem dX0_meanPrice_28 : decode cX0_meanPrice 28 = .ok (.iadd, 1) := by decide +kernel
theorem dX0_meanPrice_29 : decode cX0_meanPrice 29 = .ok (.istore_n 1, 1) := by decide +kernel
theorem dX0_meanPrice_30 : decode cX0_meanPrice 30 = .ok (.iinc 2 1, 3) := by decide +kernel
theorem dX0_meanPrice_33 : decode cX0_meanPrice 33 = .ok (.goto (-19), 3) := by decide +kernel
theorem dX0_meanPrice_36 : decode cX0_meanPrice 36 = .ok (.iload_n 1, 1) := by decide +kernel
theorem dX0_meanPrice_37 : decode cX0_meanPrice 37 = .ok (.i2d, 1) := by decide +kernel
theorem dX0_meanPrice_38 : decode cX0_meanPrice 38 = .ok (.aload_n 0, 1) := by decide +kernel
theorem dX0_meanPrice_39 : decode cX0_meanPrice 39 = .ok (.getfield 44, 3) := by decide +kernel
theorem dX0_meanPrice_42 : decode cX0_meanPrice 42 = .ok (.i2d, 1) := by decide +kernel
theorem dX0_meanPrice_43 : decode cX0_meanPrice 43 = .ok (.ddiv, 1) := by decide +kernel
theorem dX0_meanPrice_44 : decode cX0_meanPrice 44 = .ok (.dreturn, 1) := by decide +kernel
theorem dX0_requireTower_0 : decode cX0_requireTower 0 = .ok (.iload_n 1, 1) := by decide +kernel
theorem dX0_requireTower_1 : decode cX0_requireTower 1 = .ok (.ifCond .lt 11, 3) := by decide +kernel
theorem dX0_requireTower_4 : decode cX0_requireTower 4 = .ok (.iload_n 1, 1) := by decide +kernel
theorem dX0_requireTower_5 : decode cX0_requireTower 5 = .ok (.aload_n 0, 1) := by decide +kernel
theorem dX0_requireTower_6 : decode cX0_requireTower 6 = .ok (.getfield 44, 3) := by decide +kernel
theorem dX0_requireTower_9 : decode cX0_requireTower 9 = .ok (.if_icmp .lt 13, 3) := by decide +kernel
theorem dX0_requireTower_12 : decode cX0_requireTower 12 = .ok (.new 152, 3) := by decide +kernel
theorem dX0_requireTower_15 : decode cX0_requireTower 15 = .ok (.dup, 1) := by decide +kernel
theorem dX0_requireTower_16 : decode cX0_requireTower 16 = .ok (.ldc 154, 2) := by decide +kernel
theorem dX0_requireTower_18 : decode cX0_requireTower 18 = .ok (.invokespecial 156, 3) := by decide +kernel
theorem dX0_requireTower_21 : decode cX0_requireTower 21 = .ok (.athrow, 1) := by decide +kernel
theorem dX0_requireTower_22 : decode cX0_requireTower 22 = .ok (.return_, 1) := by decide +kernel
theorem dX0_requireTrader_0 : decode cX0_requireTrader 0 = .ok (.iload_n 1, 1) := by decide +kernel
theorem dX0_requireTrader_1 : decode cX0_requireTrader 1 = .ok (.ifCond .lt 11, 3) := by decide +kernel
theorem dX0_requireTrader_4 : decode cX0_requireTrader 4 = .ok (.iload_n 1, 1) := by decide +kernel
theorem dX0_requireTrader_5 : decode cX0_requireTrader 5 = .ok (.aload_n 0, 1) := by decide +kernel
theorem dX0_requireTrader_6 : decode cX0_requireTrader 6 = .ok (.getfield 62, 3) := by decide +kernel
theorem dX0_requireTrader_9 : decode cX0_requireTrader 9 = .ok (.if_icmp .lt 13, 3) := by decide +kernel
theorem dX0_requireTrader_12 : decode cX0_requireTrader 12 = .ok (.new 152, 3) := by decide +kernel
theorem dX0_requireTrader_15 : decode cX0_requireTrader 15 = .ok (.dup, 1) := by decide +kernel
theorem dX0_requireTrader_16 : decode cX0_requireTrader 16 = .ok (.ldc 157, 2) := by decide +kernel
theorem dX0_requireTrader_18 : decode cX0_requireTrader 18 = .ok (.invokespecial 156, 3) := by decide +kernel
theorem dX0_requireTrader_21 : decode cX0_requireTrader 21 = .ok (.athrow, 1) := by decide +kernel
theorem dX0_requireTrader_22 : decode cX0_requireTrader 22 = .ok (.return_, 1) := by decide +kernel
theorem dX0_requireTradable_0 : decode cX0_requireTradable 0 = .ok (.iload_n 0, 1) := by decide +kernel
theorem dX0_requireTradable_1 : decode cX0_requireTradable 1 = .ok (.iconst 1, 1) := by decide +kernel
theorem dX0_requireTradable_2 : decode cX0_requireTradable 2 = .ok (.if_icmp .lt 9, 3) := by decide +kernel
theorem dX0_requireTradable_5 : decode cX0_requireTradable 5 = .ok (.iload_n 0, 1) := by decide +kernel
theorem dX0_requireTradable_6 : decode cX0_requireTradable 6 = .ok (.bipush 9, 2) := by decide +kernel
theorem dX0_requireTradable_8 : decode cX0_requireTradable 8 = .ok (.if_icmp .le 13, 3) := by decide +kernel
theorem dX0_requireTradable_11 : decode cX0_requireTradable 11 = .ok (.new 33, 3) := by decide +kernel
theorem dX0_requireTradable_14 : decode cX0_requireTradable 14 = .ok (.dup, 1) := by decide +kernel
theorem dX0_requireTradable_15 : decode cX0_requireTradable 15 = .ok (.ldc 159, 2) := by decide +kernel
theorem dX0_requireTradable_17 : decode cX0_requireTradable 17 = .ok (.invokespecial 37, 3) := by decide +kernel
theorem dX0_requireTradable_20 : decode cX0_requireTradable 20 = .ok (.athrow, 1) := by decide +kernel
theorem dX0_requireTradable_21 : decode cX0_requireTradable 21 = .ok (.return_, 1) := by decide +kernel
theorem dX0_requirePassable_0 : decode cX0_requirePassable 0 = .ok (.iload_n 0, 1) := by decide +kernel
theorem dX0_requirePassable_1 : decode cX0_requirePassable 1 = .ok (.iconst 1, 1) := by decide +kernel
theorem dX0_requirePassable_2 : decode cX0_requirePassable 2 = .ok (.if_icmp .lt 9, 3) := by decide +kernel
theorem dX0_requirePassable_5 : decode cX0_requirePassable 5 = .ok (.iload_n 0, 1) := by decide +kernel
theorem dX0_requirePassable_6 : decode cX0_requirePassable 6 = .ok (.bipush 60, 2) := by decide +kernel
theorem dX0_requirePassable_8 : decode cX0_requirePassable 8 = .ok (.if_icmp .le 13, 3) := by decide +kernel
theorem dX0_requirePassable_11 : decode cX0_requirePassable 11 = .ok (.new 33, 3) := by decide +kernel
theorem dX0_requirePassable_14 : decode cX0_requirePassable 14 = .ok (.dup, 1) := by decide +kernel
theorem dX0_requirePassable_15 : decode cX0_requirePassable 15 = .ok (.ldc 161, 2) := by decide +kernel
theorem dX0_requirePassable_17 : decode cX0_requirePassable 17 = .ok (.invokespecial 37, 3) := by decide +kernel
theorem dX0_requirePassable_20 : decode cX0_requirePassable 20 = .ok (.athrow, 1) := by decide +kernel
theorem dX0_requirePassable_21 : decode cX0_requirePassable 21 = .ok (.return_, 1) := by decide +kernel
theorem dX0_goOneSecond_0 : decode cX0_goOneSecond 0 = .ok (.aload_n 0, 1) := by decide +kernel
theorem dX0_goOneSecond_1 : decode cX0_goOneSecond 1 = .ok (.dup, 1) := by decide +kernel
theorem dX0_goOneSecond_2 : decode cX0_goOneSecond 2 = .ok (.getfield 53, 3) := by decide +kernel
theorem dX0_goOneSecond_5 : decode cX0_goOneSecond 5 = .ok (.iconst 1, 1) := by decide +kernel
theorem dX0_goOneSecond_6 : decode cX0_goOneSecond 6 = .ok (.iadd, 1) := by decide +kernel
theorem dX0_goOneSecond_7 : decode cX0_goOneSecond 7 = .ok (.putfield 53, 3) := by decide +kernel
theorem dX0_goOneSecond_10 : decode cX0_goOneSecond 10 = .ok (.iconst 0, 1) := by decide +kernel
theorem dX0_goOneSecond_11 : decode cX0_goOneSecond 11 = .ok (.istore_n 1, 1) := by decide +kernel
theorem dX0_goOneSecond_12 : decode cX0_goOneSecond 12 = .ok (.iconst 0, 1) := by decide +kernel
theorem dX0_goOneSecond_13 : decode cX0_goOneSecond 13 = .ok (.istore_n 2, 1) := by decide +kernel
theorem dX0_goOneSecond_14 : decode cX0_goOneSecond 14 = .ok (.iload_n 2, 1) := by decide +kernel
theorem dX0_goOneSecond_15 : decode cX0_goOneSecond 15 = .ok (.aload_n 0, 1) := by decide +kernel
theorem dX0_goOneSecond_16 : decode cX0_goOneSecond 16 = .ok (.getfield 44, 3) := by decide +kernel
theorem dX0_goOneSecond_19 : decode cX0_goOneSecond 19 = .ok (.if_icmp .ge 50, 3) := by decide +kernel
theorem dX0_goOneSecond_22 : decode cX0_goOneSecond 22 = .ok (.aload_n 0, 1) := by decide +kernel
theorem dX0_goOneSecond_23 : decode cX0_goOneSecond 23 = .ok (.getfield 19, 3) := by decide +kernel
theorem dX0_goOneSecond_26 : decode cX0_goOneSecond 26 = .ok (.iload_n 2, 1) := by decide +kernel
theorem dX0_goOneSecond_27 : decode cX0_goOneSecond 27 = .ok (.iaload, 1) := by decide +kernel
theorem dX0_goOneSecond_28 : decode cX0_goOneSecond 28 = .ok (.iconst 1, 1) := by decide +kernel
theorem dX0_goOneSecond_29 : decode cX0_goOneSecond 29 = .ok (.if_icmp .gt 14, 3) := by decide +kernel
theorem dX0_goOneSecond_32 : decode cX0_goOneSecond 32 = .ok (.aload_n 0, 1) := by decide +kernel
theorem dX0_goOneSecond_33 : decode cX0_goOneSecond 33 = .ok (.iload_n 2, 1) := by decide +kernel
theorem dX0_goOneSecond_34 : decode cX0_goOneSecond 34 = .ok (.invokevirtual 163, 3) := by decide +kernel
theorem dX0_goOneSecond_37 : decode cX0_goOneSecond 37 = .ok (.iinc 1 1, 3) := by decide +kernel
theorem dX0_goOneSecond_40 : decode cX0_goOneSecond 40 = .ok (.goto 23, 3) := by decide +kernel
theorem dX0_goOneSecond_43 : decode cX0_goOneSecond 43 = .ok (.aload_n 0, 1) := by decide +kernel
theorem dX0_goOneSecond_44 : decode cX0_goOneSecond 44 = .ok (.getfield 19, 3) := by decide +kernel
theorem dX0_goOneSecond_47 : decode cX0_goOneSecond 47 = .ok (.iload_n 2, 1) := by decide +kernel
theorem dX0_goOneSecond_48 : decode cX0_goOneSecond 48 = .ok (.dup2, 1) := by decide +kernel
theorem dX0_goOneSecond_49 : decode cX0_goOneSecond 49 = .ok (.iaload, 1) := by decide +kernel
theorem dX0_goOneSecond_50 : decode cX0_goOneSecond 50 = .ok (.iconst 1, 1) := by decide +kernel
theorem dX0_goOneSecond_51 : decode cX0_goOneSecond 51 = .ok (.isub, 1) := by decide +kernel
theorem dX0_goOneSecond_52 : decode cX0_goOneSecond 52 = .ok (.iastore, 1) := by decide +kernel
theorem dX0_goOneSecond_53 : decode cX0_goOneSecond 53 = .ok (.aload_n 0, 1) := by decide +kernel
theorem dX0_goOneSecond_54 : decode cX0_goOneSecond 54 = .ok (.getfield 16, 3) := by decide +kernel
theorem dX0_goOneSecond_57 : decode cX0_goOneSecond 57 = .ok (.iload_n 2, 1) := by decide +kernel
theorem dX0_goOneSecond_58 : decode cX0_goOneSecond 58 = .ok (.dup2, 1) := by decide +kernel
theorem dX0_goOneSecond_59 : decode cX0_goOneSecond 59 = .ok (.iaload, 1) := by decide +kernel
theorem dX0_goOneSecond_60 : decode cX0_goOneSecond 60 = .ok (.iconst 1, 1) := by decide +kernel
theorem dX0_goOneSecond_61 : decode cX0_goOneSecond 61 = .ok (.iadd, 1) := by decide +kernel
theorem dX0_goOneSecond_62 : decode cX0_goOneSecond 62 = .ok (.iastore, 1) := by decide +kernel
theorem dX0_goOneSecond_63 : decode cX0_goOneSecond 63 = .ok (.iinc 2 1, 3) := by decide +kernel
theorem dX0_goOneSecond_66 : decode cX0_goOneSecond 66 = .ok (.goto (-52), 3) := by decide +kernel
theorem dX0_goOneSecond_69 : decode cX0_goOneSecond 69 = .ok (.iload_n 1, 1) := by decide +kernel
theorem dX0_goOneSecond_70 : decode cX0_goOneSecond 70 = .ok (.ireturn, 1) := by decide +kernel
theorem dX0_strike_0 : decode cX0_strike 0 = .ok (.aload_n 0, 1) := by decide +kernel
theorem dX0_strike_1 : decode cX0_strike 1 = .ok (.iload_n 1, 1) := by decide +kernel
theorem dX0_strike_2 : decode cX0_strike 2 = .ok (.invokevirtual 77, 3) := by decide +kernel
theorem dX0_strike_5 : decode cX0_strike 5 = .ok (.istore_n 2, 1) := by decide +kernel
theorem dX0_strike_6 : decode cX0_strike 6 = .ok (.iconst 0, 1) := by decide +kernel
theorem dX0_strike_7 : decode cX0_strike 7 = .ok (.istore_n 3, 1) := by decide +kernel
theorem dX0_strike_8 : decode cX0_strike 8 = .ok (.iload_n 3, 1) := by decide +kernel
theorem dX0_strike_9 : decode cX0_strike 9 = .ok (.aload_n 0, 1) := by decide +kernel
theorem dX0_strike_10 : decode cX0_strike 10 = .ok (.getfield 62, 3) := by decide +kernel
theorem dX0_strike_13 : decode cX0_strike 13 = .ok (.if_icmp .ge 37, 3) := by decide +kernel
theorem dX0_strike_16 : decode cX0_strike 16 = .ok (.aload_n 0, 1) := by decide +kernel
theorem dX0_strike_17 : decode cX0_strike 17 = .ok (.getfield 25, 3) := by decide +kernel
theorem dX0_strike_20 : decode cX0_strike 20 = .ok (.iload_n 3, 1) := by decide +kernel
theorem dX0_strike_21 : decode cX0_strike 21 = .ok (.dup2, 1) := by decide +kernel
theorem dX0_strike_22 : decode cX0_strike 22 = .ok (.iaload, 1) := by decide +kernel
theorem dX0_strike_23 : decode cX0_strike 23 = .ok (.iload_n 2, 1) := by decide +kernel
theorem dX0_strike_24 : decode cX0_strike 24 = .ok (.aload_n 0, 1) := by decide +kernel
theorem dX0_strike_25 : decode cX0_strike 25 = .ok (.getfield 30, 3) := by decide +kernel
theorem dX0_strike_28 : decode cX0_strike 28 = .ok (.iload_n 3, 1) := by decide +kernel
theorem dX0_strike_29 : decode cX0_strike 29 = .ok (.aaload, 1) := by decide +kernel
theorem dX0_strike_30 : decode cX0_strike 30 = .ok (.iload_n 1, 1) := by decide +kernel
theorem dX0_strike_31 : decode cX0_strike 31 = .ok (.iaload, 1) := by decide +kernel
theorem dX0_strike_32 : decode cX0_strike 32 = .ok (.imul, 1) := by decide +kernel
theorem dX0_strike_33 : decode cX0_strike 33 = .ok (.iadd, 1) := by decide +kernel
theorem dX0_strike_34 : decode cX0_strike 34 = .ok (.iastore, 1) := by decide +kernel
theorem dX0_strike_35 : decode cX0_strike 35 = .ok (.aload_n 0, 1) := by decide +kernel
theorem dX0_strike_36 : decode cX0_strike 36 = .ok (.getfield 30, 3) := by decide +kernel
theorem dX0_strike_39 : decode cX0_strike 39 = .ok (.iload_n 3, 1) := by decide +kernel
theorem dX0_strike_40 : decode cX0_strike 40 = .ok (.aaload, 1) := by decide +kernel
theorem dX0_strike_41 : decode cX0_strike 41 = .ok (.iload_n 1, 1) := by decide +kernel
theorem dX0_strike_42 : decode cX0_strike 42 = .ok (.iconst 0, 1) := by decide +kernel
theorem dX0_strike_43 : decode cX0_strike 43 = .ok (.iastore, 1) := by decide +kernel
theorem dX0_strike_44 : decode cX0_strike 44 = .ok (.iinc 3 1, 3) := by decide +kernel
theorem dX0_strike_47 : decode cX0_strike 47 = .ok (.goto (-39), 3) := by decide +kernel
theorem dX0_strike_50 : decode cX0_strike 50 = .ok (.aload_n 0, 1) := by decide +kernel
theorem dX0_strike_51 : decode cX0_strike 51 = .ok (.getfield 16, 3) := by decide +kernel
theorem dX0_strike_54 : decode cX0_strike 54 = .ok (.iload_n 1, 1) := by decide +kernel
theorem dX0_strike_55 : decode cX0_strike 55 = .ok (.iconst 0, 1) := by decide +kernel
theorem dX0_strike_56 : decode cX0_strike 56 = .ok (.iastore, 1) := by decide +kernel
theorem dX0_strike_57 : decode cX0_strike 57 = .ok (.aload_n 0, 1) := by decide +kernel
theorem dX0_strike_58 : decode cX0_strike 58 = .ok (.getfield 22, 3) := by decide +kernel
theorem dX0_strike_61 : decode cX0_strike 61 = .ok (.iload_n 1, 1) := by decide +kernel
theorem dX0_strike_62 : decode cX0_strike 62 = .ok (.dup2, 1) := by decide +kernel
theorem dX0_strike_63 : decode cX0_strike 63 = .ok (.iaload, 1) := by decide +kernel
theorem dX0_strike_64 : decode cX0_strike 64 = .ok (.iconst 1, 1) := by decide +kernel
theorem dX0_strike_65 : decode cX0_strike 65 = .ok (.iadd, 1) := by decide +kernel
theorem dX0_strike_66 : decode cX0_strike 66 = .ok (.iastore, 1) := by decide +kernel
theorem dX0_strike_67 : decode cX0_strike 67 = .ok (.aload_n 0, 1) := by decide +kernel
theorem dX0_strike_68 : decode cX0_strike 68 = .ok (.getfield 19, 3) := by decide +kernel
theorem dX0_strike_71 : decode cX0_strike 71 = .ok (.iload_n 1, 1) := by decide +kernel
theorem dX0_strike_72 : decode cX0_strike 72 = .ok (.aload_n 0, 1) := by decide +kernel
theorem dX0_strike_73 : decode cX0_strike 73 = .ok (.getfield 13, 3) := by decide +kernel
theorem dX0_strike_76 : decode cX0_strike 76 = .ok (.iload_n 1, 1) := by decide +kernel
theorem dX0_strike_77 : decode cX0_strike 77 = .ok (.iaload, 1) := by decide +kernel
theorem dX0_strike_78 : decode cX0_strike 78 = .ok (.iastore, 1) := by decide +kernel
theorem dX0_strike_79 : decode cX0_strike 79 = .ok (.return_, 1) := by decide +kernel
theorem dX0_price_0 : decode cX0_price 0 = .ok (.iconst 0, 1) := by decide +kernel
theorem dX0_price_1 : decode cX0_price 1 = .ok (.iload_n 0, 1) := by decide +kernel
theorem dX0_price_2 : decode cX0_price 2 = .ok (.iload_n 1, 1) := by decide +kernel
theorem dX0_price_3 : decode cX0_price 3 = .ok (.imul, 1) := by decide +kernel
theorem dX0_price_4 : decode cX0_price 4 = .ok (.iconst 2, 1) := by decide +kernel
theorem dX0_price_5 : decode cX0_price 5 = .ok (.iload_n 2, 1) := by decide +kernel
theorem dX0_price_6 : decode cX0_price 6 = .ok (.imul, 1) := by decide +kernel
theorem dX0_price_7 : decode cX0_price 7 = .ok (.isub, 1) := by decide +kernel
theorem dX0_price_8 : decode cX0_price 8 = .ok (.invokestatic 166, 3) := by decide +kernel
theorem dX0_price_11 : decode cX0_price 11 = .ok (.ireturn, 1) := by decide +kernel
theorem dX0_dovesNow_0 : decode cX0_dovesNow 0 = .ok (.iconst 0, 1) := by decide +kernel
theorem dX0_dovesNow_1 : decode cX0_dovesNow 1 = .ok (.istore_n 2, 1) := by decide +kernel
theorem dX0_dovesNow_2 : decode cX0_dovesNow 2 = .ok (.iconst 0, 1) := by decide +kernel
theorem dX0_dovesNow_3 : decode cX0_dovesNow 3 = .ok (.istore_n 3, 1) := by decide +kernel
theorem dX0_dovesNow_4 : decode cX0_dovesNow 4 = .ok (.iload_n 3, 1) := by decide +kernel
theorem dX0_dovesNow_5 : decode cX0_dovesNow 5 = .ok (.aload_n 0, 1) := by decide +kernel
theorem dX0_dovesNow_6 : decode cX0_dovesNow 6 = .ok (.getfield 62, 3) := by decide +kernel
theorem dX0_dovesNow_9 : decode cX0_dovesNow 9 = .ok (.if_icmp .ge 23, 3) := by decide +kernel
theorem dX0_dovesNow_12 : decode cX0_dovesNow 12 = .ok (.iload_n 2, 1) := by decide +kernel
theorem dX0_dovesNow_13 : decode cX0_dovesNow 13 = .ok (.aload_n 0, 1) := by decide +kernel
theorem dX0_dovesNow_14 : decode cX0_dovesNow 14 = .ok (.getfield 30, 3) := by decide +kernel
theorem dX0_dovesNow_17 : decode cX0_dovesNow 17 = .ok (.iload_n 3, 1) := by decide +kernel
theorem dX0_dovesNow_18 : decode cX0_dovesNow 18 = .ok (.aaload, 1) := by decide +kernel
theorem dX0_dovesNow_19 : decode cX0_dovesNow 19 = .ok (.iload_n 1, 1) := by decide +kernel
theorem dX0_dovesNow_20 : decode cX0_dovesNow 20 = .ok (.iaload, 1) := by decide +kernel
theorem dX0_dovesNow_21 : decode cX0_dovesNow 21 = .ok (.invokestatic 169, 3) := by decide +kernel
theorem dX0_dovesNow_24 : decode cX0_dovesNow 24 = .ok (.iadd, 1) := by decide +kernel
theorem dX0_dovesNow_25 : decode cX0_dovesNow 25 = .ok (.istore_n 2, 1) := by decide +kernel
theorem dX0_dovesNow_26 : decode cX0_dovesNow 26 = .ok (.iinc 3 1, 3) := by decide +kernel
theorem dX0_dovesNow_29 : decode cX0_dovesNow 29 = .ok (.goto (-25), 3) := by decide +kernel
theorem dX0_dovesNow_32 : decode cX0_dovesNow 32 = .ok (.iload_n 2, 1) := by decide +kernel
theorem dX0_dovesNow_33 : decode cX0_dovesNow 33 = .ok (.ireturn, 1) := by decide +kernel
theorem dX0_dovesFor_0 : decode cX0_dovesFor 0 = .ok (.iconst 0, 1) := by decide +kernel
theorem dX0_dovesFor_1 : decode cX0_dovesFor 1 = .ok (.iload_n 0, 1) := by decide +kernel
theorem dX0_dovesFor_2 : decode cX0_dovesFor 2 = .ok (.ineg, 1) := by decide +kernel
theorem dX0_dovesFor_3 : decode cX0_dovesFor 3 = .ok (.invokestatic 166, 3) := by decide +kernel
theorem dX0_dovesFor_6 : decode cX0_dovesFor 6 = .ok (.ireturn, 1) := by decide +kernel
theorem dX0_priceNow_0 : decode cX0_priceNow 0 = .ok (.aload_n 0, 1) := by decide +kernel
theorem dX0_priceNow_1 : decode cX0_priceNow 1 = .ok (.getfield 16, 3) := by decide +kernel
theorem dX0_priceNow_4 : decode cX0_priceNow 4 = .ok (.iload_n 1, 1) := by decide +kernel
theorem dX0_priceNow_5 : decode cX0_priceNow 5 = .ok (.iaload, 1) := by decide +kernel
theorem dX0_priceNow_6 : decode cX0_priceNow 6 = .ok (.aload_n 0, 1) := by decide +kernel
theorem dX0_priceNow_7 : decode cX0_priceNow 7 = .ok (.getfield 9, 3) := by decide +kernel
theorem dX0_priceNow_10 : decode cX0_priceNow 10 = .ok (.iload_n 1, 1) := by decide +kernel
theorem dX0_priceNow_11 : decode cX0_priceNow 11 = .ok (.iaload, 1) := by decide +kernel
theorem dX0_priceNow_12 : decode cX0_priceNow 12 = .ok (.aload_n 0, 1) := by decide +kernel
theorem dX0_priceNow_13 : decode cX0_priceNow 13 = .ok (.iload_n 1, 1) := by decide +kernel
theorem dX0_priceNow_14 : decode cX0_priceNow 14 = .ok (.invokevirtual 94, 3) := by decide +kernel
theorem dX0_priceNow_17 : decode cX0_priceNow 17 = .ok (.invokestatic 172, 3) := by decide +kernel
theorem dX0_priceNow_20 : decode cX0_priceNow 20 = .ok (.ireturn, 1) := by decide +kernel
theorem dX0_closing_0 : decode cX0_closing 0 = .ok (.aload_n 0, 1) := by decide +kernel
theorem dX0_closing_1 : decode cX0_closing 1 = .ok (.iload_n 1, 1) := by decide +kernel
theorem dX0_closing_2 : decode cX0_closing 2 = .ok (.aload_n 0, 1) := by decide +kernel
theorem dX0_closing_3 : decode cX0_closing 3 = .ok (.iload_n 1, 1) := by decide +kernel
theorem dX0_closing_4 : decode cX0_closing 4 = .ok (.invokevirtual 94, 3) := by decide +kernel
theorem dX0_closing_7 : decode cX0_closing 7 = .ok (.invokevirtual 175, 3) := by decide +kernel
theorem dX0_closing_10 : decode cX0_closing 10 = .ok (.ireturn, 1) := by decide +kernel
theorem dX0_closingWith_0 : decode cX0_closingWith 0 = .ok (.aload_n 0, 1) := by decide +kernel
theorem dX0_closingWith_1 : decode cX0_closingWith 1 = .ok (.getfield 16, 3) := by decide +kernel
theorem dX0_closingWith_4 : decode cX0_closingWith 4 = .ok (.iload_n 1, 1) := by decide +kernel
theorem dX0_closingWith_5 : decode cX0_closingWith 5 = .ok (.iaload, 1) := by decide +kernel
theorem dX0_closingWith_6 : decode cX0_closingWith 6 = .ok (.aload_n 0, 1) := by decide +kernel
theorem dX0_closingWith_7 : decode cX0_closingWith 7 = .ok (.getfield 19, 3) := by decide +kernel
theorem dX0_closingWith_10 : decode cX0_closingWith 10 = .ok (.iload_n 1, 1) := by decide +kernel
theorem dX0_closingWith_11 : decode cX0_closingWith 11 = .ok (.iaload, 1) := by decide +kernel
theorem dX0_closingWith_12 : decode cX0_closingWith 12 = .ok (.iadd, 1) := by decide +kernel
theorem dX0_closingWith_13 : decode cX0_closingWith 13 = .ok (.iconst 1, 1) := by decide +kernel
theorem dX0_closingWith_14 : decode cX0_closingWith 14 = .ok (.isub, 1) := by decide +kernel
theorem dX0_closingWith_15 : decode cX0_closingWith 15 = .ok (.aload_n 0, 1) := by decide +kernel
theorem dX0_closingWith_16 : decode cX0_closingWith 16 = .ok (.getfield 9, 3) := by decide +kernel
theorem dX0_closingWith_19 : decode cX0_closingWith 19 = .ok (.iload_n 1, 1) := by decide +kernel
theorem dX0_closingWith_20 : decode cX0_closingWith 20 = .ok (.iaload, 1) := by decide +kernel
theorem dX0_closingWith_21 : decode cX0_closingWith 21 = .ok (.iload_n 2, 1) := by decide +kernel
theorem dX0_closingWith_22 : decode cX0_closingWith 22 = .ok (.invokestatic 172, 3) := by decide +kernel
theorem dX0_closingWith_25 : decode cX0_closingWith 25 = .ok (.ireturn, 1) := by decide +kernel
theorem dX0_riseUntilStroke_0 : decode cX0_riseUntilStroke 0 = .ok (.aload_n 0, 1) := by decide +kernel
theorem dX0_riseUntilStroke_1 : decode cX0_riseUntilStroke 1 = .ok (.iload_n 1, 1) := by decide +kernel
theorem dX0_riseUntilStroke_2 : decode cX0_riseUntilStroke 2 = .ok (.invokevirtual 106, 3) := by decide +kernel
theorem dX0_riseUntilStroke_5 : decode cX0_riseUntilStroke 5 = .ok (.aload_n 0, 1) := by decide +kernel
theorem dX0_riseUntilStroke_6 : decode cX0_riseUntilStroke 6 = .ok (.iload_n 1, 1) := by decide +kernel
theorem dX0_riseUntilStroke_7 : decode cX0_riseUntilStroke 7 = .ok (.invokevirtual 77, 3) := by decide +kernel
theorem dX0_riseUntilStroke_10 : decode cX0_riseUntilStroke 10 = .ok (.isub, 1) := by decide +kernel
theorem dX0_riseUntilStroke_11 : decode cX0_riseUntilStroke 11 = .ok (.ireturn, 1) := by decide +kernel
theorem dX0_priceBehind_0 : decode cX0_priceBehind 0 = .ok (.iload_n 2, 1) := by decide +kernel
theorem dX0_priceBehind_1 : decode cX0_priceBehind 1 = .ok (.aload_n 0, 1) := by decide +kernel
theorem dX0_priceBehind_2 : decode cX0_priceBehind 2 = .ok (.getfield 19, 3) := by decide +kernel
theorem dX0_priceBehind_5 : decode cX0_priceBehind 5 = .ok (.iload_n 1, 1) := by decide +kernel
theorem dX0_priceBehind_6 : decode cX0_priceBehind 6 = .ok (.iaload, 1) := by decide +kernel
theorem dX0_priceBehind_7 : decode cX0_priceBehind 7 = .ok (.isub, 1) := by decide +kernel
theorem dX0_priceBehind_8 : decode cX0_priceBehind 8 = .ok (.istore_n 3, 1) := by decide +kernel
theorem dX0_priceBehind_9 : decode cX0_priceBehind 9 = .ok (.iload_n 3, 1) := by decide +kernel
theorem dX0_priceBehind_10 : decode cX0_priceBehind 10 = .ok (.ifCond .ge 26, 3) := by decide +kernel
theorem dX0_priceBehind_13 : decode cX0_priceBehind 13 = .ok (.aload_n 0, 1) := by decide +kernel
theorem dX0_priceBehind_14 : decode cX0_priceBehind 14 = .ok (.getfield 16, 3) := by decide +kernel
theorem dX0_priceBehind_17 : decode cX0_priceBehind 17 = .ok (.iload_n 1, 1) := by decide +kernel
theorem dX0_priceBehind_18 : decode cX0_priceBehind 18 = .ok (.iaload, 1) := by decide +kernel
theorem dX0_priceBehind_19 : decode cX0_priceBehind 19 = .ok (.iload_n 2, 1) := by decide +kernel
theorem dX0_priceBehind_20 : decode cX0_priceBehind 20 = .ok (.iadd, 1) := by decide +kernel
theorem dX0_priceBehind_21 : decode cX0_priceBehind 21 = .ok (.aload_n 0, 1) := by decide +kernel
theorem dX0_priceBehind_22 : decode cX0_priceBehind 22 = .ok (.getfield 9, 3) := by decide +kernel
theorem dX0_priceBehind_25 : decode cX0_priceBehind 25 = .ok (.iload_n 1, 1) := by decide +kernel
theorem dX0_priceBehind_26 : decode cX0_priceBehind 26 = .ok (.iaload, 1) := by decide +kernel
theorem dX0_priceBehind_27 : decode cX0_priceBehind 27 = .ok (.aload_n 0, 1) := by decide +kernel
theorem dX0_priceBehind_28 : decode cX0_priceBehind 28 = .ok (.iload_n 1, 1) := by decide +kernel
theorem dX0_priceBehind_29 : decode cX0_priceBehind 29 = .ok (.invokevirtual 94, 3) := by decide +kernel
theorem dX0_priceBehind_32 : decode cX0_priceBehind 32 = .ok (.invokestatic 172, 3) := by decide +kernel
theorem dX0_priceBehind_35 : decode cX0_priceBehind 35 = .ok (.ireturn, 1) := by decide +kernel
theorem dX0_priceBehind_36 : decode cX0_priceBehind 36 = .ok (.aload_n 0, 1) := by decide +kernel
theorem dX0_priceBehind_37 : decode cX0_priceBehind 37 = .ok (.getfield 13, 3) := by decide +kernel
theorem dX0_priceBehind_40 : decode cX0_priceBehind 40 = .ok (.iload_n 1, 1) := by decide +kernel
theorem dX0_priceBehind_41 : decode cX0_priceBehind 41 = .ok (.iaload, 1) := by decide +kernel
theorem dX0_priceBehind_42 : decode cX0_priceBehind 42 = .ok (.istore 4, 2) := by decide +kernel
theorem dX0_priceBehind_44 : decode cX0_priceBehind 44 = .ok (.iload 4, 2) := by decide +kernel
theorem dX0_priceBehind_46 : decode cX0_priceBehind 46 = .ok (.iconst 2, 1) := by decide +kernel
theorem dX0_priceBehind_47 : decode cX0_priceBehind 47 = .ok (.if_icmp .ge 7, 3) := by decide +kernel
theorem dX0_priceBehind_50 : decode cX0_priceBehind 50 = .ok (.iconst 0, 1) := by decide +kernel
theorem dX0_priceBehind_51 : decode cX0_priceBehind 51 = .ok (.goto 7, 3) := by decide +kernel
theorem dX0_priceBehind_54 : decode cX0_priceBehind 54 = .ok (.iload_n 3, 1) := by decide +kernel
theorem dX0_priceBehind_55 : decode cX0_priceBehind 55 = .ok (.iload 4, 2) := by decide +kernel
theorem dX0_priceBehind_57 : decode cX0_priceBehind 57 = .ok (.irem, 1) := by decide +kernel
theorem dX0_priceBehind_58 : decode cX0_priceBehind 58 = .ok (.istore 5, 2) := by decide +kernel
theorem dX0_priceBehind_60 : decode cX0_priceBehind 60 = .ok (.iload 5, 2) := by decide +kernel
theorem dX0_priceBehind_62 : decode cX0_priceBehind 62 = .ok (.aload_n 0, 1) := by decide +kernel
theorem dX0_priceBehind_63 : decode cX0_priceBehind 63 = .ok (.getfield 9, 3) := by decide +kernel
theorem dX0_priceBehind_66 : decode cX0_priceBehind 66 = .ok (.iload_n 1, 1) := by decide +kernel
theorem dX0_priceBehind_67 : decode cX0_priceBehind 67 = .ok (.iaload, 1) := by decide +kernel
theorem dX0_priceBehind_68 : decode cX0_priceBehind 68 = .ok (.iconst 0, 1) := by decide +kernel
theorem dX0_priceBehind_69 : decode cX0_priceBehind 69 = .ok (.invokestatic 172, 3) := by decide +kernel
theorem dX0_priceBehind_72 : decode cX0_priceBehind 72 = .ok (.ireturn, 1) := by decide +kernel
theorem dX0_heldByAll_0 : decode cX0_heldByAll 0 = .ok (.iconst 0, 1) := by decide +kernel
theorem dX0_heldByAll_1 : decode cX0_heldByAll 1 = .ok (.istore_n 2, 1) := by decide +kernel
theorem dX0_heldByAll_2 : decode cX0_heldByAll 2 = .ok (.iconst 0, 1) := by decide +kernel
theorem dX0_heldByAll_3 : decode cX0_heldByAll 3 = .ok (.istore_n 3, 1) := by decide +kernel
theorem dX0_heldByAll_4 : decode cX0_heldByAll 4 = .ok (.iload_n 3, 1) := by decide +kernel
theorem dX0_heldByAll_5 : decode cX0_heldByAll 5 = .ok (.aload_n 0, 1) := by decide +kernel
theorem dX0_heldByAll_6 : decode cX0_heldByAll 6 = .ok (.getfield 62, 3) := by decide +kernel
theorem dX0_heldByAll_9 : decode cX0_heldByAll 9 = .ok (.if_icmp .ge 20, 3) := by decide +kernel
theorem dX0_heldByAll_12 : decode cX0_heldByAll 12 = .ok (.iload_n 2, 1) := by decide +kernel
theorem dX0_heldByAll_13 : decode cX0_heldByAll 13 = .ok (.aload_n 0, 1) := by decide +kernel
theorem dX0_heldByAll_14 : decode cX0_heldByAll 14 = .ok (.getfield 30, 3) := by decide +kernel
theorem dX0_heldByAll_17 : decode cX0_heldByAll 17 = .ok (.iload_n 3, 1) := by decide +kernel
theorem dX0_heldByAll_18 : decode cX0_heldByAll 18 = .ok (.aaload, 1) := by decide +kernel
theorem dX0_heldByAll_19 : decode cX0_heldByAll 19 = .ok (.iload_n 1, 1) := by decide +kernel
theorem dX0_heldByAll_20 : decode cX0_heldByAll 20 = .ok (.iaload, 1) := by decide +kernel
theorem dX0_heldByAll_21 : decode cX0_heldByAll 21 = .ok (.iadd, 1) := by decide +kernel
theorem dX0_heldByAll_22 : decode cX0_heldByAll 22 = .ok (.istore_n 2, 1) := by decide +kernel
theorem dX0_heldByAll_23 : decode cX0_heldByAll 23 = .ok (.iinc 3 1, 3) := by decide +kernel
theorem dX0_heldByAll_26 : decode cX0_heldByAll 26 = .ok (.goto (-22), 3) := by decide +kernel
theorem dX0_heldByAll_29 : decode cX0_heldByAll 29 = .ok (.iload_n 2, 1) := by decide +kernel
theorem dX0_heldByAll_30 : decode cX0_heldByAll 30 = .ok (.ireturn, 1) := by decide +kernel
theorem dX0_shortTowers_0 : decode cX0_shortTowers 0 = .ok (.iconst 0, 1) := by decide +kernel
theorem dX0_shortTowers_1 : decode cX0_shortTowers 1 = .ok (.istore_n 2, 1) := by decide +kernel
theorem dX0_shortTowers_2 : decode cX0_shortTowers 2 = .ok (.iconst 0, 1) := by decide +kernel
theorem dX0_shortTowers_3 : decode cX0_shortTowers 3 = .ok (.istore_n 3, 1) := by decide +kernel
theorem dX0_shortTowers_4 : decode cX0_shortTowers 4 = .ok (.iload_n 3, 1) := by decide +kernel
theorem dX0_shortTowers_5 : decode cX0_shortTowers 5 = .ok (.aload_n 0, 1) := by decide +kernel
theorem dX0_shortTowers_6 : decode cX0_shortTowers 6 = .ok (.getfield 44, 3) := by decide +kernel
theorem dX0_shortTowers_9 : decode cX0_shortTowers 9 = .ok (.if_icmp .ge 23, 3) := by decide +kernel
theorem dX0_shortTowers_12 : decode cX0_shortTowers 12 = .ok (.aload_n 0, 1) := by decide +kernel
theorem dX0_shortTowers_13 : decode cX0_shortTowers 13 = .ok (.getfield 30, 3) := by decide +kernel
theorem dX0_shortTowers_16 : decode cX0_shortTowers 16 = .ok (.iload_n 1, 1) := by decide +kernel
theorem dX0_shortTowers_17 : decode cX0_shortTowers 17 = .ok (.aaload, 1) := by decide +kernel
theorem dX0_shortTowers_18 : decode cX0_shortTowers 18 = .ok (.iload_n 3, 1) := by decide +kernel
theorem dX0_shortTowers_19 : decode cX0_shortTowers 19 = .ok (.iaload, 1) := by decide +kernel
theorem dX0_shortTowers_20 : decode cX0_shortTowers 20 = .ok (.ifCond .ge 6, 3) := by decide +kernel
theorem dX0_shortTowers_23 : decode cX0_shortTowers 23 = .ok (.iinc 2 1, 3) := by decide +kernel
theorem dX0_shortTowers_26 : decode cX0_shortTowers 26 = .ok (.iinc 3 1, 3) := by decide +kernel
theorem dX0_shortTowers_29 : decode cX0_shortTowers 29 = .ok (.goto (-25), 3) := by decide +kernel
theorem dX0_shortTowers_32 : decode cX0_shortTowers 32 = .ok (.iload_n 2, 1) := by decide +kernel
theorem dX0_shortTowers_33 : decode cX0_shortTowers 33 = .ok (.ireturn, 1) := by decide +kernel
theorem dX0_worthBehind_0 : decode cX0_worthBehind 0 = .ok (.aload_n 0, 1) := by decide +kernel
theorem dX0_worthBehind_1 : decode cX0_worthBehind 1 = .ok (.getfield 25, 3) := by decide +kernel
theorem dX0_worthBehind_4 : decode cX0_worthBehind 4 = .ok (.iload_n 1, 1) := by decide +kernel
theorem dX0_worthBehind_5 : decode cX0_worthBehind 5 = .ok (.iaload, 1) := by decide +kernel
theorem dX0_worthBehind_6 : decode cX0_worthBehind 6 = .ok (.istore_n 3, 1) := by decide +kernel
theorem dX0_worthBehind_7 : decode cX0_worthBehind 7 = .ok (.iconst 0, 1) := by decide +kernel
theorem dX0_worthBehind_8 : decode cX0_worthBehind 8 = .ok (.istore 4, 2) := by decide +kernel
theorem dX0_worthBehind_10 : decode cX0_worthBehind 10 = .ok (.iload 4, 2) := by decide +kernel
theorem dX0_worthBehind_12 : decode cX0_worthBehind 12 = .ok (.aload_n 0, 1) := by decide +kernel
theorem dX0_worthBehind_13 : decode cX0_worthBehind 13 = .ok (.getfield 44, 3) := by decide +kernel
theorem dX0_worthBehind_16 : decode cX0_worthBehind 16 = .ok (.if_icmp .ge 65, 3) := by decide +kernel
theorem dX0_worthBehind_19 : decode cX0_worthBehind 19 = .ok (.aload_n 0, 1) := by decide +kernel
theorem dX0_worthBehind_20 : decode cX0_worthBehind 20 = .ok (.getfield 19, 3) := by decide +kernel
theorem dX0_worthBehind_23 : decode cX0_worthBehind 23 = .ok (.iload 4, 2) := by decide +kernel
theorem dX0_worthBehind_25 : decode cX0_worthBehind 25 = .ok (.iaload, 1) := by decide +kernel
theorem dX0_worthBehind_26 : decode cX0_worthBehind 26 = .ok (.iload_n 2, 1) := by decide +kernel
theorem dX0_worthBehind_27 : decode cX0_worthBehind 27 = .ok (.if_icmp .gt 7, 3) := by decide +kernel
theorem dX0_worthBehind_30 : decode cX0_worthBehind 30 = .ok (.iconst 1, 1) := by decide +kernel
theorem dX0_worthBehind_31 : decode cX0_worthBehind 31 = .ok (.goto 4, 3) := by decide +kernel
theorem dX0_worthBehind_34 : decode cX0_worthBehind 34 = .ok (.iconst 0, 1) := by decide +kernel
theorem dX0_worthBehind_35 : decode cX0_worthBehind 35 = .ok (.istore 5, 2) := by decide +kernel
theorem dX0_worthBehind_37 : decode cX0_worthBehind 37 = .ok (.iload 5, 2) := by decide +kernel
theorem dX0_worthBehind_39 : decode cX0_worthBehind 39 = .ok (.ifCond .eq 12, 3) := by decide +kernel
theorem dX0_worthBehind_42 : decode cX0_worthBehind 42 = .ok (.aload_n 0, 1) := by decide +kernel
theorem dX0_worthBehind_43 : decode cX0_worthBehind 43 = .ok (.iload 4, 2) := by decide +kernel
theorem dX0_worthBehind_45 : decode cX0_worthBehind 45 = .ok (.invokevirtual 106, 3) := by decide +kernel
theorem dX0_worthBehind_48 : decode cX0_worthBehind 48 = .ok (.goto 10, 3) := by decide +kernel
theorem dX0_worthBehind_51 : decode cX0_worthBehind 51 = .ok (.aload_n 0, 1) := by decide +kernel
theorem dX0_worthBehind_52 : decode cX0_worthBehind 52 = .ok (.iload 4, 2) := by decide +kernel
theorem dX0_worthBehind_54 : decode cX0_worthBehind 54 = .ok (.iload_n 2, 1) := by decide +kernel
theorem dX0_worthBehind_55 : decode cX0_worthBehind 55 = .ok (.invokevirtual 109, 3) := by decide +kernel
theorem dX0_worthBehind_58 : decode cX0_worthBehind 58 = .ok (.istore 6, 2) := by decide +kernel
theorem dX0_worthBehind_60 : decode cX0_worthBehind 60 = .ok (.iload_n 3, 1) := by decide +kernel
theorem dX0_worthBehind_61 : decode cX0_worthBehind 61 = .ok (.iload 6, 2) := by decide +kernel
theorem dX0_worthBehind_63 : decode cX0_worthBehind 63 = .ok (.aload_n 0, 1) := by decide +kernel
theorem dX0_worthBehind_64 : decode cX0_worthBehind 64 = .ok (.getfield 30, 3) := by decide +kernel
theorem dX0_worthBehind_67 : decode cX0_worthBehind 67 = .ok (.iload_n 1, 1) := by decide +kernel
theorem dX0_worthBehind_68 : decode cX0_worthBehind 68 = .ok (.aaload, 1) := by decide +kernel
theorem dX0_worthBehind_69 : decode cX0_worthBehind 69 = .ok (.iload 4, 2) := by decide +kernel
theorem dX0_worthBehind_71 : decode cX0_worthBehind 71 = .ok (.iaload, 1) := by decide +kernel
theorem dX0_worthBehind_72 : decode cX0_worthBehind 72 = .ok (.imul, 1) := by decide +kernel
theorem dX0_worthBehind_73 : decode cX0_worthBehind 73 = .ok (.iadd, 1) := by decide +kernel
theorem dX0_worthBehind_74 : decode cX0_worthBehind 74 = .ok (.istore_n 3, 1) := by decide +kernel
theorem dX0_worthBehind_75 : decode cX0_worthBehind 75 = .ok (.iinc 4 1, 3) := by decide +kernel
theorem dX0_worthBehind_78 : decode cX0_worthBehind 78 = .ok (.goto (-68), 3) := by decide +kernel
theorem dX0_worthBehind_81 : decode cX0_worthBehind 81 = .ok (.iload_n 3, 1) := by decide +kernel
theorem dX0_worthBehind_82 : decode cX0_worthBehind 82 = .ok (.ireturn, 1) := by decide +kernel
