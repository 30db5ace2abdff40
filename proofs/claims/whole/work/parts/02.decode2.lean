theorem dK7_line_39 : decode cK7_line 39 = .ok (.iconst 1, 1) := by decide +kernel
theorem dK7_line_40 : decode cK7_line 40 = .ok (.iadd, 1) := by decide +kernel
theorem dK7_line_41 : decode cK7_line 41 = .ok (.putfield 30, 3) := by decide +kernel
theorem dK7_line_44 : decode cK7_line 44 = .ok (.goto 10, 3) := by decide +kernel
theorem dK7_line_47 : decode cK7_line 47 = .ok (.aload_n 0, 1) := by decide +kernel
theorem dK7_line_48 : decode cK7_line 48 = .ok (.getfield 26, 3) := by decide +kernel
theorem dK7_line_51 : decode cK7_line 51 = .ok (.invokevirtual 49, 3) := by decide +kernel
theorem dK7_line_54 : decode cK7_line 54 = .ok (.iload_n 1, 1) := by decide +kernel
theorem dK7_line_55 : decode cK7_line 55 = .ok (.ireturn, 1) := by decide +kernel
theorem dK7_order_0 : decode cK7_order 0 = .ok (.aload_n 0, 1) := by decide +kernel
theorem dK7_order_1 : decode cK7_order 1 = .ok (.getfield 26, 3) := by decide +kernel
theorem dK7_order_4 : decode cK7_order 4 = .ok (.getfield 52, 3) := by decide +kernel
theorem dK7_order_7 : decode cK7_order 7 = .ok (.iload_n 1, 1) := by decide +kernel
theorem dK7_order_8 : decode cK7_order 8 = .ok (.invokevirtual 56, 3) := by decide +kernel
theorem dK7_order_11 : decode cK7_order 11 = .ok (.ifCond .ne 5, 3) := by decide +kernel
theorem dK7_order_14 : decode cK7_order 14 = .ok (.iconst (-1), 1) := by decide +kernel
theorem dK7_order_15 : decode cK7_order 15 = .ok (.ireturn, 1) := by decide +kernel
theorem dK7_order_16 : decode cK7_order 16 = .ok (.aload_n 0, 1) := by decide +kernel
theorem dK7_order_17 : decode cK7_order 17 = .ok (.getfield 26, 3) := by decide +kernel
theorem dK7_order_20 : decode cK7_order 20 = .ok (.getfield 52, 3) := by decide +kernel
theorem dK7_order_23 : decode cK7_order 23 = .ok (.getfield 62, 3) := by decide +kernel
theorem dK7_order_26 : decode cK7_order 26 = .ok (.iload_n 1, 1) := by decide +kernel
theorem dK7_order_27 : decode cK7_order 27 = .ok (.aaload, 1) := by decide +kernel
theorem dK7_order_28 : decode cK7_order 28 = .ok (.astore_n 3, 1) := by decide +kernel
theorem dK7_order_29 : decode cK7_order 29 = .ok (.iload_n 2, 1) := by decide +kernel
theorem dK7_order_30 : decode cK7_order 30 = .ok (.tableswitch 68 0 5 #[38, 43, 48, 53, 58, 63], 38) := by decide +kernel
theorem dK7_order_68 : decode cK7_order 68 = .ok (.aload_n 3, 1) := by decide +kernel
theorem dK7_order_69 : decode cK7_order 69 = .ok (.getfield 66, 3) := by decide +kernel
theorem dK7_order_72 : decode cK7_order 72 = .ok (.ireturn, 1) := by decide +kernel
theorem dK7_order_73 : decode cK7_order 73 = .ok (.aload_n 3, 1) := by decide +kernel
theorem dK7_order_74 : decode cK7_order 74 = .ok (.getfield 71, 3) := by decide +kernel
theorem dK7_order_77 : decode cK7_order 77 = .ok (.ireturn, 1) := by decide +kernel
theorem dK7_order_78 : decode cK7_order 78 = .ok (.aload_n 3, 1) := by decide +kernel
theorem dK7_order_79 : decode cK7_order 79 = .ok (.getfield 74, 3) := by decide +kernel
theorem dK7_order_82 : decode cK7_order 82 = .ok (.ireturn, 1) := by decide +kernel
theorem dK7_order_83 : decode cK7_order 83 = .ok (.aload_n 3, 1) := by decide +kernel
theorem dK7_order_84 : decode cK7_order 84 = .ok (.getfield 77, 3) := by decide +kernel
theorem dK7_order_87 : decode cK7_order 87 = .ok (.ireturn, 1) := by decide +kernel
theorem dK7_order_88 : decode cK7_order 88 = .ok (.aload_n 3, 1) := by decide +kernel
theorem dK7_order_89 : decode cK7_order 89 = .ok (.getfield 80, 3) := by decide +kernel
theorem dK7_order_92 : decode cK7_order 92 = .ok (.ireturn, 1) := by decide +kernel
theorem dK7_order_93 : decode cK7_order 93 = .ok (.aload_n 3, 1) := by decide +kernel
theorem dK7_order_94 : decode cK7_order 94 = .ok (.getfield 83, 3) := by decide +kernel
theorem dK7_order_97 : decode cK7_order 97 = .ok (.ireturn, 1) := by decide +kernel
theorem dK7_order_98 : decode cK7_order 98 = .ok (.iconst (-1), 1) := by decide +kernel
theorem dK7_order_99 : decode cK7_order 99 = .ok (.ireturn, 1) := by decide +kernel
theorem dK7_trader_0 : decode cK7_trader 0 = .ok (.iload_n 1, 1) := by decide +kernel
theorem dK7_trader_1 : decode cK7_trader 1 = .ok (.ifCond .lt 9, 3) := by decide +kernel
theorem dK7_trader_4 : decode cK7_trader 4 = .ok (.iload_n 1, 1) := by decide +kernel
theorem dK7_trader_5 : decode cK7_trader 5 = .ok (.bipush 8, 2) := by decide +kernel
theorem dK7_trader_7 : decode cK7_trader 7 = .ok (.if_icmp .lt 7, 3) := by decide +kernel
theorem dK7_trader_10 : decode cK7_trader 10 = .ok (.ldc2_w 86, 3) := by decide +kernel
theorem dK7_trader_13 : decode cK7_trader 13 = .ok (.lreturn, 1) := by decide +kernel
theorem dK7_trader_14 : decode cK7_trader 14 = .ok (.aload_n 0, 1) := by decide +kernel
theorem dK7_trader_15 : decode cK7_trader 15 = .ok (.getfield 26, 3) := by decide +kernel
theorem dK7_trader_18 : decode cK7_trader 18 = .ok (.getfield 88, 3) := by decide +kernel
theorem dK7_trader_21 : decode cK7_trader 21 = .ok (.iload_n 1, 1) := by decide +kernel
theorem dK7_trader_22 : decode cK7_trader 22 = .ok (.aaload, 1) := by decide +kernel
theorem dK7_trader_23 : decode cK7_trader 23 = .ok (.astore_n 3, 1) := by decide +kernel
theorem dK7_trader_24 : decode cK7_trader 24 = .ok (.iload_n 2, 1) := by decide +kernel
theorem dK7_trader_25 : decode cK7_trader 25 = .ok (.tableswitch 68 0 4 #[35, 40, 45, 50, 55], 35) := by decide +kernel
theorem dK7_trader_60 : decode cK7_trader 60 = .ok (.aload_n 3, 1) := by decide +kernel
theorem dK7_trader_61 : decode cK7_trader 61 = .ok (.getfield 92, 3) := by decide +kernel
theorem dK7_trader_64 : decode cK7_trader 64 = .ok (.lreturn, 1) := by decide +kernel
theorem dK7_trader_65 : decode cK7_trader 65 = .ok (.aload_n 3, 1) := by decide +kernel
theorem dK7_trader_66 : decode cK7_trader 66 = .ok (.getfield 98, 3) := by decide +kernel
theorem dK7_trader_69 : decode cK7_trader 69 = .ok (.lreturn, 1) := by decide +kernel
theorem dK7_trader_70 : decode cK7_trader 70 = .ok (.aload_n 3, 1) := by decide +kernel
theorem dK7_trader_71 : decode cK7_trader 71 = .ok (.getfield 101, 3) := by decide +kernel
theorem dK7_trader_74 : decode cK7_trader 74 = .ok (.lreturn, 1) := by decide +kernel
theorem dK7_trader_75 : decode cK7_trader 75 = .ok (.aload_n 3, 1) := by decide +kernel
theorem dK7_trader_76 : decode cK7_trader 76 = .ok (.getfield 104, 3) := by decide +kernel
theorem dK7_trader_79 : decode cK7_trader 79 = .ok (.lreturn, 1) := by decide +kernel
theorem dK7_trader_80 : decode cK7_trader 80 = .ok (.aload_n 0, 1) := by decide +kernel
theorem dK7_trader_81 : decode cK7_trader 81 = .ok (.getfield 26, 3) := by decide +kernel
theorem dK7_trader_84 : decode cK7_trader 84 = .ok (.getfield 52, 3) := by decide +kernel
theorem dK7_trader_87 : decode cK7_trader 87 = .ok (.iload_n 1, 1) := by decide +kernel
theorem dK7_trader_88 : decode cK7_trader 88 = .ok (.invokevirtual 107, 3) := by decide +kernel
theorem dK7_trader_91 : decode cK7_trader 91 = .ok (.i2l, 1) := by decide +kernel
theorem dK7_trader_92 : decode cK7_trader 92 = .ok (.lreturn, 1) := by decide +kernel
theorem dK7_trader_93 : decode cK7_trader 93 = .ok (.ldc2_w 86, 3) := by decide +kernel
theorem dK7_trader_96 : decode cK7_trader 96 = .ok (.lreturn, 1) := by decide +kernel
theorem dK7_level_0 : decode cK7_level 0 = .ok (.iload_n 1, 1) := by decide +kernel
theorem dK7_level_1 : decode cK7_level 1 = .ok (.ifCond .eq 10, 3) := by decide +kernel
theorem dK7_level_4 : decode cK7_level 4 = .ok (.iload_n 1, 1) := by decide +kernel
theorem dK7_level_5 : decode cK7_level 5 = .ok (.iconst 1, 1) := by decide +kernel
theorem dK7_level_6 : decode cK7_level 6 = .ok (.if_icmp .eq 5, 3) := by decide +kernel
theorem dK7_level_9 : decode cK7_level 9 = .ok (.iconst (-1), 1) := by decide +kernel
theorem dK7_level_10 : decode cK7_level 10 = .ok (.ireturn, 1) := by decide +kernel
theorem dK7_level_11 : decode cK7_level 11 = .ok (.aload_n 0, 1) := by decide +kernel
theorem dK7_level_12 : decode cK7_level 12 = .ok (.getfield 26, 3) := by decide +kernel
theorem dK7_level_15 : decode cK7_level 15 = .ok (.getfield 52, 3) := by decide +kernel
theorem dK7_level_18 : decode cK7_level 18 = .ok (.iload_n 1, 1) := by decide +kernel
theorem dK7_level_19 : decode cK7_level 19 = .ok (.iload_n 2, 1) := by decide +kernel
theorem dK7_level_20 : decode cK7_level 20 = .ok (.invokevirtual 110, 3) := by decide +kernel
theorem dK7_level_23 : decode cK7_level 23 = .ok (.istore 4, 2) := by decide +kernel
theorem dK7_level_25 : decode cK7_level 25 = .ok (.iload 4, 2) := by decide +kernel
theorem dK7_level_27 : decode cK7_level 27 = .ok (.iconst (-1), 1) := by decide +kernel
theorem dK7_level_28 : decode cK7_level 28 = .ok (.if_icmp .ne 5, 3) := by decide +kernel
theorem dK7_level_31 : decode cK7_level 31 = .ok (.iconst (-1), 1) := by decide +kernel
theorem dK7_level_32 : decode cK7_level 32 = .ok (.ireturn, 1) := by decide +kernel
theorem dK7_level_33 : decode cK7_level 33 = .ok (.iload_n 3, 1) := by decide +kernel
theorem dK7_level_34 : decode cK7_level 34 = .ok (.tableswitch 57 0 2 #[26, 29, 43], 26) := by decide +kernel
theorem dK7_level_60 : decode cK7_level 60 = .ok (.iload 4, 2) := by decide +kernel
theorem dK7_level_62 : decode cK7_level 62 = .ok (.ireturn, 1) := by decide +kernel
theorem dK7_level_63 : decode cK7_level 63 = .ok (.aload_n 0, 1) := by decide +kernel
theorem dK7_level_64 : decode cK7_level 64 = .ok (.getfield 26, 3) := by decide +kernel
theorem dK7_level_67 : decode cK7_level 67 = .ok (.getfield 52, 3) := by decide +kernel
theorem dK7_level_70 : decode cK7_level 70 = .ok (.iload_n 1, 1) := by decide +kernel
theorem dK7_level_71 : decode cK7_level 71 = .ok (.iload 4, 2) := by decide +kernel
theorem dK7_level_73 : decode cK7_level 73 = .ok (.invokevirtual 114, 3) := by decide +kernel
theorem dK7_level_76 : decode cK7_level 76 = .ok (.ireturn, 1) := by decide +kernel
theorem dK7_level_77 : decode cK7_level 77 = .ok (.aload_n 0, 1) := by decide +kernel
theorem dK7_level_78 : decode cK7_level 78 = .ok (.getfield 26, 3) := by decide +kernel
theorem dK7_level_81 : decode cK7_level 81 = .ok (.getfield 52, 3) := by decide +kernel
theorem dK7_level_84 : decode cK7_level 84 = .ok (.iload_n 1, 1) := by decide +kernel
theorem dK7_level_85 : decode cK7_level 85 = .ok (.iload 4, 2) := by decide +kernel
theorem dK7_level_87 : decode cK7_level 87 = .ok (.invokevirtual 117, 3) := by decide +kernel
theorem dK7_level_90 : decode cK7_level 90 = .ok (.ireturn, 1) := by decide +kernel
theorem dK7_level_91 : decode cK7_level 91 = .ok (.iconst (-1), 1) := by decide +kernel
theorem dK7_level_92 : decode cK7_level 92 = .ok (.ireturn, 1) := by decide +kernel
theorem dK7_trade_0 : decode cK7_trade 0 = .ok (.aload_n 0, 1) := by decide +kernel
theorem dK7_trade_1 : decode cK7_trade 1 = .ok (.getfield 26, 3) := by decide +kernel
theorem dK7_trade_4 : decode cK7_trade 4 = .ok (.getfield 120, 3) := by decide +kernel
theorem dK7_trade_7 : decode cK7_trade 7 = .ok (.iload_n 1, 1) := by decide +kernel
theorem dK7_trade_8 : decode cK7_trade 8 = .ok (.iload_n 2, 1) := by decide +kernel
theorem dK7_trade_9 : decode cK7_trade 9 = .ok (.invokevirtual 124, 3) := by decide +kernel
theorem dK7_trade_12 : decode cK7_trade 12 = .ok (.ireturn, 1) := by decide +kernel
theorem dK7_count_0 : decode cK7_count 0 = .ok (.iload_n 1, 1) := by decide +kernel
theorem dK7_count_1 : decode cK7_count 1 = .ok (.tableswitch 105 0 6 #[43, 54, 65, 70, 78, 86, 94], 43) := by decide +kernel
theorem dK7_count_44 : decode cK7_count 44 = .ok (.aload_n 0, 1) := by decide +kernel
theorem dK7_count_45 : decode cK7_count 45 = .ok (.getfield 26, 3) := by decide +kernel
theorem dK7_count_48 : decode cK7_count 48 = .ok (.getfield 52, 3) := by decide +kernel
theorem dK7_count_51 : decode cK7_count 51 = .ok (.getfield 129, 3) := by decide +kernel
theorem dK7_count_54 : decode cK7_count 54 = .ok (.ireturn, 1) := by decide +kernel
theorem dK7_count_55 : decode cK7_count 55 = .ok (.aload_n 0, 1) := by decide +kernel
theorem dK7_count_56 : decode cK7_count 56 = .ok (.getfield 26, 3) := by decide +kernel
theorem dK7_count_59 : decode cK7_count 59 = .ok (.getfield 120, 3) := by decide +kernel
theorem dK7_count_62 : decode cK7_count 62 = .ok (.getfield 132, 3) := by decide +kernel
theorem dK7_count_65 : decode cK7_count 65 = .ok (.ireturn, 1) := by decide +kernel
theorem dK7_count_66 : decode cK7_count 66 = .ok (.aload_n 0, 1) := by decide +kernel
theorem dK7_count_67 : decode cK7_count 67 = .ok (.getfield 30, 3) := by decide +kernel
theorem dK7_count_70 : decode cK7_count 70 = .ok (.ireturn, 1) := by decide +kernel
theorem dK7_count_71 : decode cK7_count 71 = .ok (.aload_n 0, 1) := by decide +kernel
theorem dK7_count_72 : decode cK7_count 72 = .ok (.getfield 26, 3) := by decide +kernel
theorem dK7_count_75 : decode cK7_count 75 = .ok (.getfield 135, 3) := by decide +kernel
theorem dK7_count_78 : decode cK7_count 78 = .ok (.ireturn, 1) := by decide +kernel
theorem dK7_count_79 : decode cK7_count 79 = .ok (.aload_n 0, 1) := by decide +kernel
theorem dK7_count_80 : decode cK7_count 80 = .ok (.getfield 26, 3) := by decide +kernel
theorem dK7_count_83 : decode cK7_count 83 = .ok (.getfield 138, 3) := by decide +kernel
theorem dK7_count_86 : decode cK7_count 86 = .ok (.ireturn, 1) := by decide +kernel
theorem dK7_count_87 : decode cK7_count 87 = .ok (.aload_n 0, 1) := by decide +kernel
theorem dK7_count_88 : decode cK7_count 88 = .ok (.getfield 10, 3) := by decide +kernel
theorem dK7_count_91 : decode cK7_count 91 = .ok (.getfield 141, 3) := by decide +kernel
theorem dK7_count_94 : decode cK7_count 94 = .ok (.ireturn, 1) := by decide +kernel
theorem dK7_count_95 : decode cK7_count 95 = .ok (.aload_n 0, 1) := by decide +kernel
theorem dK7_count_96 : decode cK7_count 96 = .ok (.getfield 26, 3) := by decide +kernel
theorem dK7_count_99 : decode cK7_count 99 = .ok (.getfield 52, 3) := by decide +kernel
theorem dK7_count_102 : decode cK7_count 102 = .ok (.invokevirtual 142, 3) := by decide +kernel
theorem dK7_count_105 : decode cK7_count 105 = .ok (.ireturn, 1) := by decide +kernel
theorem dK7_count_106 : decode cK7_count 106 = .ok (.iconst (-1), 1) := by decide +kernel
theorem dK7_count_107 : decode cK7_count 107 = .ok (.ireturn, 1) := by decide +kernel
theorem dK8_init_0 : decode cK8_init 0 = .ok (.aload_n 0, 1) := by decide +kernel
theorem dK8_init_1 : decode cK8_init 1 = .ok (.invokespecial 1, 3) := by decide +kernel
theorem dK8_init_4 : decode cK8_init 4 = .ok (.aload_n 0, 1) := by decide +kernel
theorem dK8_init_5 : decode cK8_init 5 = .ok (.bipush 40, 2) := by decide +kernel
theorem dK8_init_7 : decode cK8_init 7 = .ok (.newarray .int, 2) := by decide +kernel
theorem dK8_init_9 : decode cK8_init 9 = .ok (.putfield 9, 3) := by decide +kernel
theorem dK8_init_12 : decode cK8_init 12 = .ok (.aload_n 0, 1) := by decide +kernel
theorem dK8_init_13 : decode cK8_init 13 = .ok (.bipush 12, 2) := by decide +kernel
theorem dK8_init_15 : decode cK8_init 15 = .ok (.newarray .int, 2) := by decide +kernel
theorem dK8_init_17 : decode cK8_init 17 = .ok (.putfield 13, 3) := by decide +kernel
theorem dK8_init_20 : decode cK8_init 20 = .ok (.aload_n 0, 1) := by decide +kernel
theorem dK8_init_21 : decode cK8_init 21 = .ok (.bipush 12, 2) := by decide +kernel
theorem dK8_init_23 : decode cK8_init 23 = .ok (.newarray .int, 2) := by decide +kernel
theorem dK8_init_25 : decode cK8_init 25 = .ok (.putfield 16, 3) := by decide +kernel
theorem dK8_init_28 : decode cK8_init 28 = .ok (.aload_n 0, 1) := by decide +kernel
theorem dK8_init_29 : decode cK8_init 29 = .ok (.bipush 8, 2) := by decide +kernel
theorem dK8_init_31 : decode cK8_init 31 = .ok (.newarray .long, 2) := by decide +kernel
theorem dK8_init_33 : decode cK8_init 33 = .ok (.putfield 19, 3) := by decide +kernel
theorem dK8_init_36 : decode cK8_init 36 = .ok (.aload_n 0, 1) := by decide +kernel
theorem dK8_init_37 : decode cK8_init 37 = .ok (.bipush 8, 2) := by decide +kernel
theorem dK8_init_39 : decode cK8_init 39 = .ok (.newarray .long, 2) := by decide +kernel
theorem dK8_init_41 : decode cK8_init 41 = .ok (.putfield 23, 3) := by decide +kernel
theorem dK8_init_44 : decode cK8_init 44 = .ok (.aload_n 0, 1) := by decide +kernel
theorem dK8_init_45 : decode cK8_init 45 = .ok (.bipush 40, 2) := by decide +kernel
theorem dK8_init_47 : decode cK8_init 47 = .ok (.newarray .int, 2) := by decide +kernel
theorem dK8_init_49 : decode cK8_init 49 = .ok (.putfield 26, 3) := by decide +kernel
theorem dK8_init_52 : decode cK8_init 52 = .ok (.aload_n 0, 1) := by decide +kernel
theorem dK8_init_53 : decode cK8_init 53 = .ok (.bipush 40, 2) := by decide +kernel
theorem dK8_init_55 : decode cK8_init 55 = .ok (.newarray .int, 2) := by decide +kernel
theorem dK8_init_57 : decode cK8_init 57 = .ok (.putfield 29, 3) := by decide +kernel
theorem dK8_init_60 : decode cK8_init 60 = .ok (.aload_n 0, 1) := by decide +kernel
theorem dK8_init_61 : decode cK8_init 61 = .ok (.bipush 40, 2) := by decide +kernel
theorem dK8_init_63 : decode cK8_init 63 = .ok (.newarray .int, 2) := by decide +kernel
theorem dK8_init_65 : decode cK8_init 65 = .ok (.putfield 32, 3) := by decide +kernel
theorem dK8_init_68 : decode cK8_init 68 = .ok (.aload_n 0, 1) := by decide +kernel
theorem dK8_init_69 : decode cK8_init 69 = .ok (.bipush 40, 2) := by decide +kernel
theorem dK8_init_71 : decode cK8_init 71 = .ok (.newarray .int, 2) := by decide +kernel
theorem dK8_init_73 : decode cK8_init 73 = .ok (.putfield 35, 3) := by decide +kernel
theorem dK8_init_76 : decode cK8_init 76 = .ok (.aload_n 0, 1) := by decide +kernel
theorem dK8_init_77 : decode cK8_init 77 = .ok (.bipush 40, 2) := by decide +kernel
theorem dK8_init_79 : decode cK8_init 79 = .ok (.newarray .int, 2) := by decide +kernel
theorem dK8_init_81 : decode cK8_init 81 = .ok (.putfield 38, 3) := by decide +kernel
theorem dK8_init_84 : decode cK8_init 84 = .ok (.aload_n 0, 1) := by decide +kernel
theorem dK8_init_85 : decode cK8_init 85 = .ok (.bipush 40, 2) := by decide +kernel
theorem dK8_init_87 : decode cK8_init 87 = .ok (.newarray .int, 2) := by decide +kernel
theorem dK8_init_89 : decode cK8_init 89 = .ok (.putfield 41, 3) := by decide +kernel
theorem dK8_init_92 : decode cK8_init 92 = .ok (.aload_n 0, 1) := by decide +kernel
theorem dK8_init_93 : decode cK8_init 93 = .ok (.sipush 200, 3) := by decide +kernel
theorem dK8_init_96 : decode cK8_init 96 = .ok (.newarray .int, 2) := by decide +kernel
theorem dK8_init_98 : decode cK8_init 98 = .ok (.putfield 44, 3) := by decide +kernel
theorem dK8_init_101 : decode cK8_init 101 = .ok (.aload_n 0, 1) := by decide +kernel
theorem dK8_init_102 : decode cK8_init 102 = .ok (.sipush 200, 3) := by decide +kernel
theorem dK8_init_105 : decode cK8_init 105 = .ok (.newarray .int, 2) := by decide +kernel
theorem dK8_init_107 : decode cK8_init 107 = .ok (.putfield 47, 3) := by decide +kernel
theorem dK8_init_110 : decode cK8_init 110 = .ok (.aload_n 0, 1) := by decide +kernel
theorem dK8_init_111 : decode cK8_init 111 = .ok (.sipush 200, 3) := by decide +kernel
theorem dK8_init_114 : decode cK8_init 114 = .ok (.newarray .int, 2) := by decide +kernel
theorem dK8_init_116 : decode cK8_init 116 = .ok (.putfield 50, 3) := by decide +kernel
theorem dK8_init_119 : decode cK8_init 119 = .ok (.aload_n 0, 1) := by decide +kernel
theorem dK8_init_120 : decode cK8_init 120 = .ok (.sipush 200, 3) := by decide +kernel
theorem dK8_init_123 : decode cK8_init 123 = .ok (.newarray .int, 2) := by decide +kernel
theorem dK8_init_125 : decode cK8_init 125 = .ok (.putfield 53, 3) := by decide +kernel
theorem dK8_init_128 : decode cK8_init 128 = .ok (.return_, 1) := by decide +kernel
theorem dK8_feed_0 : decode cK8_feed 0 = .ok (.iconst 0, 1) := by decide +kernel
theorem dK8_feed_1 : decode cK8_feed 1 = .ok (.istore_n 2, 1) := by decide +kernel
theorem dK8_feed_2 : decode cK8_feed 2 = .ok (.bipush 24, 2) := by decide +kernel
theorem dK8_feed_4 : decode cK8_feed 4 = .ok (.istore_n 3, 1) := by decide +kernel
theorem dK8_feed_5 : decode cK8_feed 5 = .ok (.iload_n 3, 1) := by decide +kernel
theorem dK8_feed_6 : decode cK8_feed 6 = .ok (.ifCond .lt 22, 3) := by decide +kernel
theorem dK8_feed_9 : decode cK8_feed 9 = .ok (.iload_n 1, 1) := by decide +kernel
theorem dK8_feed_10 : decode cK8_feed 10 = .ok (.iload_n 3, 1) := by decide +kernel
theorem dK8_feed_11 : decode cK8_feed 11 = .ok (.iushr, 1) := by decide +kernel
theorem dK8_feed_12 : decode cK8_feed 12 = .ok (.sipush 255, 3) := by decide +kernel
theorem dK8_feed_15 : decode cK8_feed 15 = .ok (.iand, 1) := by decide +kernel
theorem dK8_feed_16 : decode cK8_feed 16 = .ok (.ifCond .eq 6, 3) := by decide +kernel
theorem dK8_feed_19 : decode cK8_feed 19 = .ok (.iinc 2 1, 3) := by decide +kernel
theorem dK8_feed_22 : decode cK8_feed 22 = .ok (.iinc 3 (-8), 3) := by decide +kernel
theorem dK8_feed_25 : decode cK8_feed 25 = .ok (.goto (-20), 3) := by decide +kernel
theorem dK8_feed_28 : decode cK8_feed 28 = .ok (.aload_n 0, 1) := by decide +kernel
theorem dK8_feed_29 : decode cK8_feed 29 = .ok (.getfield 56, 3) := by decide +kernel
theorem dK8_feed_32 : decode cK8_feed 32 = .ok (.iload_n 2, 1) := by decide +kernel
theorem dK8_feed_33 : decode cK8_feed 33 = .ok (.iadd, 1) := by decide +kernel
theorem dK8_feed_34 : decode cK8_feed 34 = .ok (.bipush 40, 2) := by decide +kernel
theorem dK8_feed_36 : decode cK8_feed 36 = .ok (.if_icmp .le 6, 3) := by decide +kernel
theorem dK8_feed_39 : decode cK8_feed 39 = .ok (.bipush (-3), 2) := by decide +kernel
theorem dK8_feed_41 : decode cK8_feed 41 = .ok (.ireturn, 1) := by decide +kernel
theorem dK8_feed_42 : decode cK8_feed 42 = .ok (.bipush 24, 2) := by decide +kernel
theorem dK8_feed_44 : decode cK8_feed 44 = .ok (.istore_n 3, 1) := by decide +kernel
theorem dK8_feed_45 : decode cK8_feed 45 = .ok (.iload_n 3, 1) := by decide +kernel
theorem dK8_feed_46 : decode cK8_feed 46 = .ok (.ifCond .lt 42, 3) := by decide +kernel
theorem dK8_feed_49 : decode cK8_feed 49 = .ok (.iload_n 1, 1) := by decide +kernel
theorem dK8_feed_50 : decode cK8_feed 50 = .ok (.iload_n 3, 1) := by decide +kernel
theorem dK8_feed_51 : decode cK8_feed 51 = .ok (.iushr, 1) := by decide +kernel
theorem dK8_feed_52 : decode cK8_feed 52 = .ok (.sipush 255, 3) := by decide +kernel
theorem dK8_feed_55 : decode cK8_feed 55 = .ok (.iand, 1) := by decide +kernel
theorem dK8_feed_56 : decode cK8_feed 56 = .ok (.ifCond .eq 26, 3) := by decide +kernel
theorem dK8_feed_59 : decode cK8_feed 59 = .ok (.aload_n 0, 1) := by decide +kernel
theorem dK8_feed_60 : decode cK8_feed 60 = .ok (.getfield 9, 3) := by decide +kernel
theorem dK8_feed_63 : decode cK8_feed 63 = .ok (.aload_n 0, 1) := by decide +kernel
theorem dK8_feed_64 : decode cK8_feed 64 = .ok (.dup, 1) := by decide +kernel
theorem dK8_feed_65 : decode cK8_feed 65 = .ok (.getfield 56, 3) := by decide +kernel
theorem dK8_feed_68 : decode cK8_feed 68 = .ok (.dup_x1, 1) := by decide +kernel
theorem dK8_feed_69 : decode cK8_feed 69 = .ok (.iconst 1, 1) := by decide +kernel
theorem dK8_feed_70 : decode cK8_feed 70 = .ok (.iadd, 1) := by decide +kernel
theorem dK8_feed_71 : decode cK8_feed 71 = .ok (.putfield 56, 3) := by decide +kernel
theorem dK8_feed_74 : decode cK8_feed 74 = .ok (.iload_n 1, 1) := by decide +kernel
theorem dK8_feed_75 : decode cK8_feed 75 = .ok (.iload_n 3, 1) := by decide +kernel
theorem dK8_feed_76 : decode cK8_feed 76 = .ok (.iushr, 1) := by decide +kernel
theorem dK8_feed_77 : decode cK8_feed 77 = .ok (.sipush 255, 3) := by decide +kernel
theorem dK8_feed_80 : decode cK8_feed 80 = .ok (.iand, 1) := by decide +kernel
theorem dK8_feed_81 : decode cK8_feed 81 = .ok (.iastore, 1) := by decide +kernel
theorem dK8_feed_82 : decode cK8_feed 82 = .ok (.iinc 3 (-8), 3) := by decide +kernel
theorem dK8_feed_85 : decode cK8_feed 85 = .ok (.goto (-40), 3) := by decide +kernel
theorem dK8_feed_88 : decode cK8_feed 88 = .ok (.aload_n 0, 1) := by decide +kernel
theorem dK8_feed_89 : decode cK8_feed 89 = .ok (.getfield 56, 3) := by decide +kernel
theorem dK8_feed_92 : decode cK8_feed 92 = .ok (.ireturn, 1) := by decide +kernel
theorem dK8_taken_0 : decode cK8_taken 0 = .ok (.aload_n 0, 1) := by decide +kernel
theorem dK8_taken_1 : decode cK8_taken 1 = .ok (.iconst 0, 1) := by decide +kernel
theorem dK8_taken_2 : decode cK8_taken 2 = .ok (.putfield 60, 3) := by decide +kernel
theorem dK8_taken_5 : decode cK8_taken 5 = .ok (.iconst 0, 1) := by decide +kernel
theorem dK8_taken_6 : decode cK8_taken 6 = .ok (.istore_n 1, 1) := by decide +kernel
theorem dK8_taken_7 : decode cK8_taken 7 = .ok (.iload_n 1, 1) := by decide +kernel
theorem dK8_taken_8 : decode cK8_taken 8 = .ok (.istore_n 2, 1) := by decide +kernel
theorem dK8_taken_9 : decode cK8_taken 9 = .ok (.iload_n 2, 1) := by decide +kernel
theorem dK8_taken_10 : decode cK8_taken 10 = .ok (.aload_n 0, 1) := by decide +kernel
theorem dK8_taken_11 : decode cK8_taken 11 = .ok (.getfield 56, 3) := by decide +kernel
theorem dK8_taken_14 : decode cK8_taken 14 = .ok (.if_icmp .ge 20, 3) := by decide +kernel
theorem dK8_taken_17 : decode cK8_taken 17 = .ok (.aload_n 0, 1) := by decide +kernel
theorem dK8_taken_18 : decode cK8_taken 18 = .ok (.getfield 9, 3) := by decide +kernel
theorem dK8_taken_21 : decode cK8_taken 21 = .ok (.iload_n 2, 1) := by decide +kernel
theorem dK8_taken_22 : decode cK8_taken 22 = .ok (.iaload, 1) := by decide +kernel
theorem dK8_taken_23 : decode cK8_taken 23 = .ok (.bipush 32, 2) := by decide +kernel
theorem dK8_taken_25 : decode cK8_taken 25 = .ok (.if_icmp .eq 9, 3) := by decide +kernel
theorem dK8_taken_28 : decode cK8_taken 28 = .ok (.iinc 2 1, 3) := by decide +kernel
theorem dK8_taken_31 : decode cK8_taken 31 = .ok (.goto (-22), 3) := by decide +kernel
theorem dK8_taken_34 : decode cK8_taken 34 = .ok (.iload_n 2, 1) := by decide +kernel
theorem dK8_taken_35 : decode cK8_taken 35 = .ok (.iload_n 1, 1) := by decide +kernel
theorem dK8_taken_36 : decode cK8_taken 36 = .ok (.if_icmp .eq 12, 3) := by decide +kernel
theorem dK8_taken_39 : decode cK8_taken 39 = .ok (.aload_n 0, 1) := by decide +kernel
theorem dK8_taken_40 : decode cK8_taken 40 = .ok (.getfield 60, 3) := by decide +kernel
theorem dK8_taken_43 : decode cK8_taken 43 = .ok (.bipush 12, 2) := by decide +kernel
theorem dK8_taken_45 : decode cK8_taken 45 = .ok (.if_icmp .ne 5, 3) := by decide +kernel
theorem dK8_taken_48 : decode cK8_taken 48 = .ok (.iconst 0, 1) := by decide +kernel
theorem dK8_taken_49 : decode cK8_taken 49 = .ok (.ireturn, 1) := by decide +kernel
theorem dK8_taken_50 : decode cK8_taken 50 = .ok (.aload_n 0, 1) := by decide +kernel
theorem dK8_taken_51 : decode cK8_taken 51 = .ok (.getfield 13, 3) := by decide +kernel
theorem dK8_taken_54 : decode cK8_taken 54 = .ok (.aload_n 0, 1) := by decide +kernel
theorem dK8_taken_55 : decode cK8_taken 55 = .ok (.getfield 60, 3) := by decide +kernel
theorem dK8_taken_58 : decode cK8_taken 58 = .ok (.iload_n 1, 1) := by decide +kernel
theorem dK8_taken_59 : decode cK8_taken 59 = .ok (.iastore, 1) := by decide +kernel
theorem dK8_taken_60 : decode cK8_taken 60 = .ok (.aload_n 0, 1) := by decide +kernel
theorem dK8_taken_61 : decode cK8_taken 61 = .ok (.getfield 16, 3) := by decide +kernel
theorem dK8_taken_64 : decode cK8_taken 64 = .ok (.aload_n 0, 1) := by decide +kernel
theorem dK8_taken_65 : decode cK8_taken 65 = .ok (.dup, 1) := by decide +kernel
theorem dK8_taken_66 : decode cK8_taken 66 = .ok (.getfield 60, 3) := by decide +kernel
theorem dK8_taken_69 : decode cK8_taken 69 = .ok (.dup_x1, 1) := by decide +kernel
theorem dK8_taken_70 : decode cK8_taken 70 = .ok (.iconst 1, 1) := by decide +kernel
theorem dK8_taken_71 : decode cK8_taken 71 = .ok (.iadd, 1) := by decide +kernel
theorem dK8_taken_72 : decode cK8_taken 72 = .ok (.putfield 60, 3) := by decide +kernel
theorem dK8_taken_75 : decode cK8_taken 75 = .ok (.iload_n 2, 1) := by decide +kernel
theorem dK8_taken_76 : decode cK8_taken 76 = .ok (.iastore, 1) := by decide +kernel
theorem dK8_taken_77 : decode cK8_taken 77 = .ok (.iload_n 2, 1) := by decide +kernel
theorem dK8_taken_78 : decode cK8_taken 78 = .ok (.aload_n 0, 1) := by decide +kernel
theorem dK8_taken_79 : decode cK8_taken 79 = .ok (.getfield 56, 3) := by decide +kernel
theorem dK8_taken_82 : decode cK8_taken 82 = .ok (.if_icmp .ne 5, 3) := by decide +kernel
theorem dK8_taken_85 : decode cK8_taken 85 = .ok (.iconst 1, 1) := by decide +kernel
theorem dK8_taken_86 : decode cK8_taken 86 = .ok (.ireturn, 1) := by decide +kernel
theorem dK8_taken_87 : decode cK8_taken 87 = .ok (.iload_n 2, 1) := by decide +kernel
theorem dK8_taken_88 : decode cK8_taken 88 = .ok (.iconst 1, 1) := by decide +kernel
theorem dK8_taken_89 : decode cK8_taken 89 = .ok (.iadd, 1) := by decide +kernel
theorem dK8_taken_90 : decode cK8_taken 90 = .ok (.istore_n 1, 1) := by decide +kernel
theorem dK8_taken_91 : decode cK8_taken 91 = .ok (.goto (-84), 3) := by decide +kernel
theorem dK8_is_0 : decode cK8_is 0 = .ok (.iload_n 1, 1) := by decide +kernel
theorem dK8_is_1 : decode cK8_is 1 = .ok (.aload_n 0, 1) := by decide +kernel
theorem dK8_is_2 : decode cK8_is 2 = .ok (.getfield 60, 3) := by decide +kernel
theorem dK8_is_5 : decode cK8_is 5 = .ok (.if_icmp .ge 23, 3) := by decide +kernel
theorem dK8_is_8 : decode cK8_is 8 = .ok (.aload_n 0, 1) := by decide +kernel
theorem dK8_is_9 : decode cK8_is 9 = .ok (.getfield 16, 3) := by decide +kernel
theorem dK8_is_12 : decode cK8_is 12 = .ok (.iload_n 1, 1) := by decide +kernel
theorem dK8_is_13 : decode cK8_is 13 = .ok (.iaload, 1) := by decide +kernel
theorem dK8_is_14 : decode cK8_is 14 = .ok (.aload_n 0, 1) := by decide +kernel
theorem dK8_is_15 : decode cK8_is 15 = .ok (.getfield 13, 3) := by decide +kernel
theorem dK8_is_18 : decode cK8_is 18 = .ok (.iload_n 1, 1) := by decide +kernel
theorem dK8_is_19 : decode cK8_is 19 = .ok (.iaload, 1) := by decide +kernel
theorem dK8_is_20 : decode cK8_is 20 = .ok (.isub, 1) := by decide +kernel
theorem dK8_is_21 : decode cK8_is 21 = .ok (.aload_n 2, 1) := by decide +kernel
theorem dK8_is_22 : decode cK8_is 22 = .ok (.invokevirtual 63, 3) := by decide +kernel
theorem dK8_is_25 : decode cK8_is 25 = .ok (.if_icmp .eq 5, 3) := by decide +kernel
theorem dK8_is_28 : decode cK8_is 28 = .ok (.iconst 0, 1) := by decide +kernel
theorem dK8_is_29 : decode cK8_is 29 = .ok (.ireturn, 1) := by decide +kernel
theorem dK8_is_30 : decode cK8_is 30 = .ok (.iconst 0, 1) := by decide +kernel
theorem dK8_is_31 : decode cK8_is 31 = .ok (.istore_n 3, 1) := by decide +kernel
theorem dK8_is_32 : decode cK8_is 32 = .ok (.iload_n 3, 1) := by decide +kernel
theorem dK8_is_33 : decode cK8_is 33 = .ok (.aload_n 2, 1) := by decide +kernel
theorem dK8_is_34 : decode cK8_is 34 = .ok (.invokevirtual 63, 3) := by decide +kernel
theorem dK8_is_37 : decode cK8_is 37 = .ok (.if_icmp .ge 32, 3) := by decide +kernel
theorem dK8_is_40 : decode cK8_is 40 = .ok (.aload_n 0, 1) := by decide +kernel
theorem dK8_is_41 : decode cK8_is 41 = .ok (.getfield 9, 3) := by decide +kernel
theorem dK8_is_44 : decode cK8_is 44 = .ok (.aload_n 0, 1) := by decide +kernel
theorem dK8_is_45 : decode cK8_is 45 = .ok (.getfield 13, 3) := by decide +kernel
theorem dK8_is_48 : decode cK8_is 48 = .ok (.iload_n 1, 1) := by decide +kernel
theorem dK8_is_49 : decode cK8_is 49 = .ok (.iaload, 1) := by decide +kernel
theorem dK8_is_50 : decode cK8_is 50 = .ok (.iload_n 3, 1) := by decide +kernel
theorem dK8_is_51 : decode cK8_is 51 = .ok (.iadd, 1) := by decide +kernel
theorem dK8_is_52 : decode cK8_is 52 = .ok (.iaload, 1) := by decide +kernel
theorem dK8_is_53 : decode cK8_is 53 = .ok (.aload_n 2, 1) := by decide +kernel
theorem dK8_is_54 : decode cK8_is 54 = .ok (.iload_n 3, 1) := by decide +kernel
theorem dK8_is_55 : decode cK8_is 55 = .ok (.invokevirtual 69, 3) := by decide +kernel
theorem dK8_is_58 : decode cK8_is 58 = .ok (.if_icmp .eq 5, 3) := by decide +kernel
theorem dK8_is_61 : decode cK8_is 61 = .ok (.iconst 0, 1) := by decide +kernel
theorem dK8_is_62 : decode cK8_is 62 = .ok (.ireturn, 1) := by decide +kernel
theorem dK8_is_63 : decode cK8_is 63 = .ok (.iinc 3 1, 3) := by decide +kernel
theorem dK8_is_66 : decode cK8_is 66 = .ok (.goto (-34), 3) := by decide +kernel
theorem dK8_is_69 : decode cK8_is 69 = .ok (.iconst 1, 1) := by decide +kernel
theorem dK8_is_70 : decode cK8_is 70 = .ok (.ireturn, 1) := by decide +kernel
theorem dK8_number_0 : decode cK8_number 0 = .ok (.iload_n 1, 1) := by decide +kernel
theorem dK8_number_1 : decode cK8_number 1 = .ok (.aload_n 0, 1) := by decide +kernel
theorem dK8_number_2 : decode cK8_number 2 = .ok (.getfield 60, 3) := by decide +kernel
theorem dK8_number_5 : decode cK8_number 5 = .ok (.if_icmp .ge 21, 3) := by decide +kernel
theorem dK8_number_8 : decode cK8_number 8 = .ok (.aload_n 0, 1) := by decide +kernel
theorem dK8_number_9 : decode cK8_number 9 = .ok (.getfield 16, 3) := by decide +kernel
theorem dK8_number_12 : decode cK8_number 12 = .ok (.iload_n 1, 1) := by decide +kernel
theorem dK8_number_13 : decode cK8_number 13 = .ok (.iaload, 1) := by decide +kernel
theorem dK8_number_14 : decode cK8_number 14 = .ok (.aload_n 0, 1) := by decide +kernel
theorem dK8_number_15 : decode cK8_number 15 = .ok (.getfield 13, 3) := by decide +kernel
theorem dK8_number_18 : decode cK8_number 18 = .ok (.iload_n 1, 1) := by decide +kernel
theorem dK8_number_19 : decode cK8_number 19 = .ok (.iaload, 1) := by decide +kernel
theorem dK8_number_20 : decode cK8_number 20 = .ok (.isub, 1) := by decide +kernel
theorem dK8_number_21 : decode cK8_number 21 = .ok (.bipush 7, 2) := by decide +kernel
theorem dK8_number_23 : decode cK8_number 23 = .ok (.if_icmp .le 5, 3) := by decide +kernel
theorem dK8_number_26 : decode cK8_number 26 = .ok (.iconst (-1), 1) := by decide +kernel
theorem dK8_number_27 : decode cK8_number 27 = .ok (.ireturn, 1) := by decide +kernel
theorem dK8_number_28 : decode cK8_number 28 = .ok (.iconst 0, 1) := by decide +kernel
theorem dK8_number_29 : decode cK8_number 29 = .ok (.istore 4, 2) := by decide +kernel
theorem dK8_number_31 : decode cK8_number 31 = .ok (.aload_n 0, 1) := by decide +kernel
theorem dK8_number_32 : decode cK8_number 32 = .ok (.getfield 13, 3) := by decide +kernel
theorem dK8_number_35 : decode cK8_number 35 = .ok (.iload_n 1, 1) := by decide +kernel
theorem dK8_number_36 : decode cK8_number 36 = .ok (.iaload, 1) := by decide +kernel
theorem dK8_number_37 : decode cK8_number 37 = .ok (.istore 5, 2) := by decide +kernel
theorem dK8_number_39 : decode cK8_number 39 = .ok (.iload 5, 2) := by decide +kernel
theorem dK8_number_41 : decode cK8_number 41 = .ok (.aload_n 0, 1) := by decide +kernel
theorem dK8_number_42 : decode cK8_number 42 = .ok (.getfield 16, 3) := by decide +kernel
theorem dK8_number_45 : decode cK8_number 45 = .ok (.iload_n 1, 1) := by decide +kernel
theorem dK8_number_46 : decode cK8_number 46 = .ok (.iaload, 1) := by decide +kernel
theorem dK8_number_47 : decode cK8_number 47 = .ok (.if_icmp .ge 53, 3) := by decide +kernel
theorem dK8_number_50 : decode cK8_number 50 = .ok (.aload_n 0, 1) := by decide +kernel
theorem dK8_number_51 : decode cK8_number 51 = .ok (.getfield 9, 3) := by decide +kernel
theorem dK8_number_54 : decode cK8_number 54 = .ok (.iload 5, 2) := by decide +kernel
theorem dK8_number_56 : decode cK8_number 56 = .ok (.iaload, 1) := by decide +kernel
theorem dK8_number_57 : decode cK8_number 57 = .ok (.bipush 48, 2) := by decide +kernel
theorem dK8_number_59 : decode cK8_number 59 = .ok (.if_icmp .lt 15, 3) := by decide +kernel
theorem dK8_number_62 : decode cK8_number 62 = .ok (.aload_n 0, 1) := by decide +kernel
theorem dK8_number_63 : decode cK8_number 63 = .ok (.getfield 9, 3) := by decide +kernel
theorem dK8_number_66 : decode cK8_number 66 = .ok (.iload 5, 2) := by decide +kernel
theorem dK8_number_68 : decode cK8_number 68 = .ok (.iaload, 1) := by decide +kernel
theorem dK8_number_69 : decode cK8_number 69 = .ok (.bipush 57, 2) := by decide +kernel
theorem dK8_number_71 : decode cK8_number 71 = .ok (.if_icmp .le 5, 3) := by decide +kernel
theorem dK8_number_74 : decode cK8_number 74 = .ok (.iconst (-1), 1) := by decide +kernel
theorem dK8_number_75 : decode cK8_number 75 = .ok (.ireturn, 1) := by decide +kernel
theorem dK8_number_76 : decode cK8_number 76 = .ok (.bipush 10, 2) := by decide +kernel
theorem dK8_number_78 : decode cK8_number 78 = .ok (.iload 4, 2) := by decide +kernel
theorem dK8_number_80 : decode cK8_number 80 = .ok (.imul, 1) := by decide +kernel
theorem dK8_number_81 : decode cK8_number 81 = .ok (.aload_n 0, 1) := by decide +kernel
theorem dK8_number_82 : decode cK8_number 82 = .ok (.getfield 9, 3) := by decide +kernel
theorem dK8_number_85 : decode cK8_number 85 = .ok (.iload 5, 2) := by decide +kernel
theorem dK8_number_87 : decode cK8_number 87 = .ok (.iaload, 1) := by decide +kernel
theorem dK8_number_88 : decode cK8_number 88 = .ok (.iadd, 1) := by decide +kernel
theorem dK8_number_89 : decode cK8_number 89 = .ok (.bipush 48, 2) := by decide +kernel
theorem dK8_number_91 : decode cK8_number 91 = .ok (.isub, 1) := by decide +kernel
theorem dK8_number_92 : decode cK8_number 92 = .ok (.istore 4, 2) := by decide +kernel
theorem dK8_number_94 : decode cK8_number 94 = .ok (.iinc 5 1, 3) := by decide +kernel
theorem dK8_number_97 : decode cK8_number 97 = .ok (.goto (-58), 3) := by decide +kernel
theorem dK8_number_100 : decode cK8_number 100 = .ok (.iload 4, 2) := by decide +kernel
theorem dK8_number_102 : decode cK8_number 102 = .ok (.iload_n 2, 1) := by decide +kernel
theorem dK8_number_103 : decode cK8_number 103 = .ok (.if_icmp .lt 9, 3) := by decide +kernel
theorem dK8_number_106 : decode cK8_number 106 = .ok (.iload 4, 2) := by decide +kernel
theorem dK8_number_108 : decode cK8_number 108 = .ok (.iload_n 3, 1) := by decide +kernel
theorem dK8_number_109 : decode cK8_number 109 = .ok (.if_icmp .le 7, 3) := by decide +kernel
theorem dK8_number_112 : decode cK8_number 112 = .ok (.iconst (-1), 1) := by decide +kernel
theorem dK8_number_113 : decode cK8_number 113 = .ok (.goto 5, 3) := by decide +kernel
theorem dK8_number_116 : decode cK8_number 116 = .ok (.iload 4, 2) := by decide +kernel
theorem dK8_number_118 : decode cK8_number 118 = .ok (.ireturn, 1) := by decide +kernel
theorem dK8_any_0 : decode cK8_any 0 = .ok (.aload_n 0, 1) := by decide +kernel
theorem dK8_any_1 : decode cK8_any 1 = .ok (.iload_n 1, 1) := by decide +kernel
theorem dK8_any_2 : decode cK8_any 2 = .ok (.iconst 0, 1) := by decide +kernel
theorem dK8_any_3 : decode cK8_any 3 = .ok (.ldc 73, 2) := by decide +kernel
theorem dK8_any_5 : decode cK8_any 5 = .ok (.invokevirtual 74, 3) := by decide +kernel
theorem dK8_any_8 : decode cK8_any 8 = .ok (.ireturn, 1) := by decide +kernel
theorem dK8_whose_0 : decode cK8_whose 0 = .ok (.aload_n 0, 1) := by decide +kernel
theorem dK8_whose_1 : decode cK8_whose 1 = .ok (.iload_n 1, 1) := by decide +kernel
theorem dK8_whose_2 : decode cK8_whose 2 = .ok (.iconst 0, 1) := by decide +kernel
theorem dK8_whose_3 : decode cK8_whose 3 = .ok (.bipush 7, 2) := by decide +kernel
theorem dK8_whose_5 : decode cK8_whose 5 = .ok (.invokevirtual 74, 3) := by decide +kernel
theorem dK8_whose_8 : decode cK8_whose 8 = .ok (.ireturn, 1) := by decide +kernel
theorem dK8_line_0 : decode cK8_line 0 = .ok (.aload_n 0, 1) := by decide +kernel
theorem dK8_line_1 : decode cK8_line 1 = .ok (.invokevirtual 78, 3) := by decide +kernel
theorem dK8_line_4 : decode cK8_line 4 = .ok (.ifCond .eq 10, 3) := by decide +kernel
theorem dK8_line_7 : decode cK8_line 7 = .ok (.aload_n 0, 1) := by decide +kernel
theorem dK8_line_8 : decode cK8_line 8 = .ok (.invokevirtual 82, 3) := by decide +kernel
theorem dK8_line_11 : decode cK8_line 11 = .ok (.goto 5, 3) := by decide +kernel
theorem dK8_line_14 : decode cK8_line 14 = .ok (.bipush (-11), 2) := by decide +kernel
theorem dK8_line_16 : decode cK8_line 16 = .ok (.istore_n 1, 1) := by decide +kernel
theorem dK8_line_17 : decode cK8_line 17 = .ok (.aload_n 0, 1) := by decide +kernel
theorem dK8_line_18 : decode cK8_line 18 = .ok (.iconst 0, 1) := by decide +kernel
theorem dK8_line_19 : decode cK8_line 19 = .ok (.putfield 56, 3) := by decide +kernel
theorem dK8_line_22 : decode cK8_line 22 = .ok (.iload_n 1, 1) := by decide +kernel
theorem dK8_line_23 : decode cK8_line 23 = .ok (.ifCond .ge 15, 3) := by decide +kernel
theorem dK8_line_26 : decode cK8_line 26 = .ok (.aload_n 0, 1) := by decide +kernel
theorem dK8_line_27 : decode cK8_line 27 = .ok (.dup, 1) := by decide +kernel
theorem dK8_line_28 : decode cK8_line 28 = .ok (.getfield 85, 3) := by decide +kernel
theorem dK8_line_31 : decode cK8_line 31 = .ok (.iconst 1, 1) := by decide +kernel
theorem dK8_line_32 : decode cK8_line 32 = .ok (.iadd, 1) := by decide +kernel
theorem dK8_line_33 : decode cK8_line 33 = .ok (.putfield 85, 3) := by decide +kernel
theorem dK8_line_36 : decode cK8_line 36 = .ok (.iload_n 1, 1) := by decide +kernel
theorem dK8_line_37 : decode cK8_line 37 = .ok (.ireturn, 1) := by decide +kernel
theorem dK8_line_38 : decode cK8_line 38 = .ok (.aload_n 0, 1) := by decide +kernel
theorem dK8_line_39 : decode cK8_line 39 = .ok (.invokevirtual 88, 3) := by decide +kernel
theorem dK8_line_42 : decode cK8_line 42 = .ok (.istore_n 2, 1) := by decide +kernel
theorem dK8_line_43 : decode cK8_line 43 = .ok (.iload_n 2, 1) := by decide +kernel
theorem dK8_line_44 : decode cK8_line 44 = .ok (.ifCond .lt 59, 3) := by decide +kernel
theorem dK8_line_47 : decode cK8_line 47 = .ok (.aload_n 0, 1) := by decide +kernel
theorem dK8_line_48 : decode cK8_line 48 = .ok (.getfield 32, 3) := by decide +kernel
theorem dK8_line_51 : decode cK8_line 51 = .ok (.iload_n 2, 1) := by decide +kernel
theorem dK8_line_52 : decode cK8_line 52 = .ok (.iaload, 1) := by decide +kernel
theorem dK8_line_53 : decode cK8_line 53 = .ok (.istore_n 3, 1) := by decide +kernel
theorem dK8_line_54 : decode cK8_line 54 = .ok (.aload_n 0, 1) := by decide +kernel
theorem dK8_line_55 : decode cK8_line 55 = .ok (.getfield 29, 3) := by decide +kernel
theorem dK8_line_58 : decode cK8_line 58 = .ok (.iload_n 2, 1) := by decide +kernel
theorem dK8_line_59 : decode cK8_line 59 = .ok (.iaload, 1) := by decide +kernel
theorem dK8_line_60 : decode cK8_line 60 = .ok (.iconst 1, 1) := by decide +kernel
theorem dK8_line_61 : decode cK8_line 61 = .ok (.if_icmp .ne 20, 3) := by decide +kernel
theorem dK8_line_64 : decode cK8_line 64 = .ok (.iload_n 3, 1) := by decide +kernel
theorem dK8_line_65 : decode cK8_line 65 = .ok (.i2l, 1) := by decide +kernel
theorem dK8_line_66 : decode cK8_line 66 = .ok (.aload_n 0, 1) := by decide +kernel
theorem dK8_line_67 : decode cK8_line 67 = .ok (.aload_n 0, 1) := by decide +kernel
theorem dK8_line_68 : decode cK8_line 68 = .ok (.getfield 26, 3) := by decide +kernel
theorem dK8_line_71 : decode cK8_line 71 = .ok (.iload_n 2, 1) := by decide +kernel
theorem dK8_line_72 : decode cK8_line 72 = .ok (.iaload, 1) := by decide +kernel
theorem dK8_line_73 : decode cK8_line 73 = .ok (.invokevirtual 91, 3) := by decide +kernel
theorem dK8_line_76 : decode cK8_line 76 = .ok (.invokestatic 95, 3) := by decide +kernel
theorem dK8_line_79 : decode cK8_line 79 = .ok (.l2i, 1) := by decide +kernel
theorem dK8_line_80 : decode cK8_line 80 = .ok (.istore_n 3, 1) := by decide +kernel
theorem dK8_line_81 : decode cK8_line 81 = .ok (.aload_n 0, 1) := by decide +kernel
theorem dK8_line_82 : decode cK8_line 82 = .ok (.getfield 38, 3) := by decide +kernel
theorem dK8_line_85 : decode cK8_line 85 = .ok (.iload_n 2, 1) := by decide +kernel
theorem dK8_line_86 : decode cK8_line 86 = .ok (.iconst 2, 1) := by decide +kernel
theorem dK8_line_87 : decode cK8_line 87 = .ok (.iastore, 1) := by decide +kernel
theorem dK8_line_88 : decode cK8_line 88 = .ok (.aload_n 0, 1) := by decide +kernel
theorem dK8_line_89 : decode cK8_line 89 = .ok (.iload_n 2, 1) := by decide +kernel
theorem dK8_line_90 : decode cK8_line 90 = .ok (.iload_n 3, 1) := by decide +kernel
theorem dK8_line_91 : decode cK8_line 91 = .ok (.iconst 1, 1) := by decide +kernel
theorem dK8_line_92 : decode cK8_line 92 = .ok (.invokevirtual 101, 3) := by decide +kernel
theorem dK8_line_95 : decode cK8_line 95 = .ok (.aload_n 0, 1) := by decide +kernel
theorem dK8_line_96 : decode cK8_line 96 = .ok (.invokevirtual 88, 3) := by decide +kernel
theorem dK8_line_99 : decode cK8_line 99 = .ok (.istore_n 2, 1) := by decide +kernel
theorem dK8_line_100 : decode cK8_line 100 = .ok (.goto (-57), 3) := by decide +kernel
theorem dK8_line_103 : decode cK8_line 103 = .ok (.iload_n 1, 1) := by decide +kernel
theorem dK8_line_104 : decode cK8_line 104 = .ok (.ireturn, 1) := by decide +kernel
theorem dK8_waking_0 : decode cK8_waking 0 = .ok (.iconst 0, 1) := by decide +kernel
theorem dK8_waking_1 : decode cK8_waking 1 = .ok (.istore_n 1, 1) := by decide +kernel
theorem dK8_waking_2 : decode cK8_waking 2 = .ok (.iload_n 1, 1) := by decide +kernel
theorem dK8_waking_3 : decode cK8_waking 3 = .ok (.aload_n 0, 1) := by decide +kernel
theorem dK8_waking_4 : decode cK8_waking 4 = .ok (.getfield 105, 3) := by decide +kernel
theorem dK8_waking_7 : decode cK8_waking 7 = .ok (.if_icmp .ge 66, 3) := by decide +kernel
theorem dK8_waking_10 : decode cK8_waking 10 = .ok (.aload_n 0, 1) := by decide +kernel
theorem dK8_waking_11 : decode cK8_waking 11 = .ok (.getfield 38, 3) := by decide +kernel
theorem dK8_waking_14 : decode cK8_waking 14 = .ok (.iload_n 1, 1) := by decide +kernel
theorem dK8_waking_15 : decode cK8_waking 15 = .ok (.iaload, 1) := by decide +kernel
theorem dK8_waking_16 : decode cK8_waking 16 = .ok (.iconst 1, 1) := by decide +kernel
theorem dK8_waking_17 : decode cK8_waking 17 = .ok (.if_icmp .ne 50, 3) := by decide +kernel
theorem dK8_waking_20 : decode cK8_waking 20 = .ok (.aload_n 0, 1) := by decide +kernel
theorem dK8_waking_21 : decode cK8_waking 21 = .ok (.getfield 108, 3) := by decide +kernel
theorem dK8_waking_24 : decode cK8_waking 24 = .ok (.ifCond .eq 43, 3) := by decide +kernel
theorem dK8_waking_27 : decode cK8_waking 27 = .ok (.aload_n 0, 1) := by decide +kernel
theorem dK8_waking_28 : decode cK8_waking 28 = .ok (.getfield 29, 3) := by decide +kernel
theorem dK8_waking_31 : decode cK8_waking 31 = .ok (.iload_n 1, 1) := by decide +kernel
theorem dK8_waking_32 : decode cK8_waking 32 = .ok (.iaload, 1) := by decide +kernel
theorem dK8_waking_33 : decode cK8_waking 33 = .ok (.ifCond .ne 19, 3) := by decide +kernel
theorem dK8_waking_36 : decode cK8_waking 36 = .ok (.aload_n 0, 1) := by decide +kernel
theorem dK8_waking_37 : decode cK8_waking 37 = .ok (.getfield 108, 3) := by decide +kernel
theorem dK8_waking_40 : decode cK8_waking 40 = .ok (.aload_n 0, 1) := by decide +kernel
theorem dK8_waking_41 : decode cK8_waking 41 = .ok (.getfield 35, 3) := by decide +kernel
theorem dK8_waking_44 : decode cK8_waking 44 = .ok (.iload_n 1, 1) := by decide +kernel
theorem dK8_waking_45 : decode cK8_waking 45 = .ok (.iaload, 1) := by decide +kernel
theorem dK8_waking_46 : decode cK8_waking 46 = .ok (.if_icmp .lt 21, 3) := by decide +kernel
theorem dK8_waking_49 : decode cK8_waking 49 = .ok (.goto 16, 3) := by decide +kernel
theorem dK8_waking_52 : decode cK8_waking 52 = .ok (.aload_n 0, 1) := by decide +kernel
theorem dK8_waking_53 : decode cK8_waking 53 = .ok (.getfield 108, 3) := by decide +kernel
theorem dK8_waking_56 : decode cK8_waking 56 = .ok (.aload_n 0, 1) := by decide +kernel
theorem dK8_waking_57 : decode cK8_waking 57 = .ok (.getfield 35, 3) := by decide +kernel
theorem dK8_waking_60 : decode cK8_waking 60 = .ok (.iload_n 1, 1) := by decide +kernel
theorem dK8_waking_61 : decode cK8_waking 61 = .ok (.iaload, 1) := by decide +kernel
theorem dK8_waking_62 : decode cK8_waking 62 = .ok (.if_icmp .gt 5, 3) := by decide +kernel
theorem dK8_waking_65 : decode cK8_waking 65 = .ok (.iload_n 1, 1) := by decide +kernel
theorem dK8_waking_66 : decode cK8_waking 66 = .ok (.ireturn, 1) := by decide +kernel
theorem dK8_waking_67 : decode cK8_waking 67 = .ok (.iinc 1 1, 3) := by decide +kernel
theorem dK8_waking_70 : decode cK8_waking 70 = .ok (.goto (-68), 3) := by decide +kernel
theorem dK8_waking_73 : decode cK8_waking 73 = .ok (.iconst (-1), 1) := by decide +kernel
theorem dK8_waking_74 : decode cK8_waking 74 = .ok (.ireturn, 1) := by decide +kernel
theorem dK8_done_0 : decode cK8_done 0 = .ok (.aload_n 0, 1) := by decide +kernel
theorem dK8_done_1 : decode cK8_done 1 = .ok (.iconst 0, 1) := by decide +kernel
theorem dK8_done_2 : decode cK8_done 2 = .ok (.ldc 111, 2) := by decide +kernel
theorem dK8_done_4 : decode cK8_done 4 = .ok (.invokevirtual 112, 3) := by decide +kernel
theorem dK8_done_7 : decode cK8_done 7 = .ok (.ifCond .ne 23, 3) := by decide +kernel
theorem dK8_done_10 : decode cK8_done 10 = .ok (.aload_n 0, 1) := by decide +kernel
theorem dK8_done_11 : decode cK8_done 11 = .ok (.iconst 0, 1) := by decide +kernel
theorem dK8_done_12 : decode cK8_done 12 = .ok (.ldc 116, 2) := by decide +kernel
theorem dK8_done_14 : decode cK8_done 14 = .ok (.invokevirtual 112, 3) := by decide +kernel
theorem dK8_done_17 : decode cK8_done 17 = .ok (.ifCond .ne 13, 3) := by decide +kernel
theorem dK8_done_20 : decode cK8_done 20 = .ok (.aload_n 0, 1) := by decide +kernel
theorem dK8_done_21 : decode cK8_done 21 = .ok (.iconst 0, 1) := by decide +kernel
theorem dK8_done_22 : decode cK8_done 22 = .ok (.ldc 117, 2) := by decide +kernel
theorem dK8_done_24 : decode cK8_done 24 = .ok (.invokevirtual 112, 3) := by decide +kernel
theorem dK8_done_27 : decode cK8_done 27 = .ok (.ifCond .eq 109, 3) := by decide +kernel
theorem dK8_done_30 : decode cK8_done 30 = .ok (.aload_n 0, 1) := by decide +kernel
theorem dK8_done_31 : decode cK8_done 31 = .ok (.iconst 1, 1) := by decide +kernel
theorem dK8_done_32 : decode cK8_done 32 = .ok (.invokevirtual 119, 3) := by decide +kernel
theorem dK8_done_35 : decode cK8_done 35 = .ok (.istore_n 1, 1) := by decide +kernel
theorem dK8_done_36 : decode cK8_done 36 = .ok (.aload_n 0, 1) := by decide +kernel
theorem dK8_done_37 : decode cK8_done 37 = .ok (.iconst 2, 1) := by decide +kernel
theorem dK8_done_38 : decode cK8_done 38 = .ok (.invokevirtual 123, 3) := by decide +kernel
theorem dK8_done_41 : decode cK8_done 41 = .ok (.istore_n 2, 1) := by decide +kernel
theorem dK8_done_42 : decode cK8_done 42 = .ok (.aload_n 0, 1) := by decide +kernel
theorem dK8_done_43 : decode cK8_done 43 = .ok (.getfield 60, 3) := by decide +kernel
theorem dK8_done_46 : decode cK8_done 46 = .ok (.iconst 3, 1) := by decide +kernel
theorem dK8_done_47 : decode cK8_done 47 = .ok (.if_icmp .ne 11, 3) := by decide +kernel
theorem dK8_done_50 : decode cK8_done 50 = .ok (.iload_n 1, 1) := by decide +kernel
theorem dK8_done_51 : decode cK8_done 51 = .ok (.ifCond .lt 7, 3) := by decide +kernel
theorem dK8_done_54 : decode cK8_done 54 = .ok (.iload_n 2, 1) := by decide +kernel
theorem dK8_done_55 : decode cK8_done 55 = .ok (.ifCond .ge 6, 3) := by decide +kernel
theorem dK8_done_58 : decode cK8_done 58 = .ok (.bipush (-11), 2) := by decide +kernel
theorem dK8_done_60 : decode cK8_done 60 = .ok (.ireturn, 1) := by decide +kernel
theorem dK8_done_61 : decode cK8_done 61 = .ok (.aload_n 0, 1) := by decide +kernel
theorem dK8_done_62 : decode cK8_done 62 = .ok (.iconst 0, 1) := by decide +kernel
theorem dK8_done_63 : decode cK8_done 63 = .ok (.ldc 111, 2) := by decide +kernel
theorem dK8_done_65 : decode cK8_done 65 = .ok (.invokevirtual 112, 3) := by decide +kernel
theorem dK8_done_68 : decode cK8_done 68 = .ok (.ifCond .eq 17, 3) := by decide +kernel
theorem dK8_done_71 : decode cK8_done 71 = .ok (.aload_n 0, 1) := by decide +kernel
theorem dK8_done_72 : decode cK8_done 72 = .ok (.getfield 19, 3) := by decide +kernel
theorem dK8_done_75 : decode cK8_done 75 = .ok (.iload_n 1, 1) := by decide +kernel
theorem dK8_done_76 : decode cK8_done 76 = .ok (.dup2, 1) := by decide +kernel
theorem dK8_done_77 : decode cK8_done 77 = .ok (.laload, 1) := by decide +kernel
theorem dK8_done_78 : decode cK8_done 78 = .ok (.iload_n 2, 1) := by decide +kernel
theorem dK8_done_79 : decode cK8_done 79 = .ok (.i2l, 1) := by decide +kernel
theorem dK8_done_80 : decode cK8_done 80 = .ok (.ladd, 1) := by decide +kernel
theorem dK8_done_81 : decode cK8_done 81 = .ok (.lastore, 1) := by decide +kernel
theorem dK8_done_82 : decode cK8_done 82 = .ok (.goto 52, 3) := by decide +kernel
theorem dK8_done_85 : decode cK8_done 85 = .ok (.aload_n 0, 1) := by decide +kernel
theorem dK8_done_86 : decode cK8_done 86 = .ok (.iconst 0, 1) := by decide +kernel
theorem dK8_done_87 : decode cK8_done 87 = .ok (.ldc 116, 2) := by decide +kernel
theorem dK8_done_89 : decode cK8_done 89 = .ok (.invokevirtual 112, 3) := by decide +kernel
theorem dK8_done_92 : decode cK8_done 92 = .ok (.ifCond .eq 17, 3) := by decide +kernel
theorem dK8_done_95 : decode cK8_done 95 = .ok (.aload_n 0, 1) := by decide +kernel
theorem dK8_done_96 : decode cK8_done 96 = .ok (.getfield 23, 3) := by decide +kernel
theorem dK8_done_99 : decode cK8_done 99 = .ok (.iload_n 1, 1) := by decide +kernel
theorem dK8_done_100 : decode cK8_done 100 = .ok (.dup2, 1) := by decide +kernel
theorem dK8_done_101 : decode cK8_done 101 = .ok (.laload, 1) := by decide +kernel
theorem dK8_done_102 : decode cK8_done 102 = .ok (.iload_n 2, 1) := by decide +kernel
theorem dK8_done_103 : decode cK8_done 103 = .ok (.i2l, 1) := by decide +kernel
theorem dK8_done_104 : decode cK8_done 104 = .ok (.ladd, 1) := by decide +kernel
theorem dK8_done_105 : decode cK8_done 105 = .ok (.lastore, 1) := by decide +kernel
theorem dK8_done_106 : decode cK8_done 106 = .ok (.goto 28, 3) := by decide +kernel
theorem dK8_done_109 : decode cK8_done 109 = .ok (.aload_n 0, 1) := by decide +kernel
theorem dK8_done_110 : decode cK8_done 110 = .ok (.iload_n 1, 1) := by decide +kernel
theorem dK8_done_111 : decode cK8_done 111 = .ok (.invokevirtual 126, 3) := by decide +kernel
theorem dK8_done_114 : decode cK8_done 114 = .ok (.iload_n 2, 1) := by decide +kernel
theorem dK8_done_115 : decode cK8_done 115 = .ok (.i2l, 1) := by decide +kernel
theorem dK8_done_116 : decode cK8_done 116 = .ok (.lcmp, 1) := by decide +kernel
theorem dK8_done_117 : decode cK8_done 117 = .ok (.ifCond .ge 6, 3) := by decide +kernel
theorem dK8_done_120 : decode cK8_done 120 = .ok (.bipush (-16), 2) := by decide +kernel
theorem dK8_done_122 : decode cK8_done 122 = .ok (.ireturn, 1) := by decide +kernel
theorem dK8_done_123 : decode cK8_done 123 = .ok (.aload_n 0, 1) := by decide +kernel
theorem dK8_done_124 : decode cK8_done 124 = .ok (.getfield 19, 3) := by decide +kernel
theorem dK8_done_127 : decode cK8_done 127 = .ok (.iload_n 1, 1) := by decide +kernel
theorem dK8_done_128 : decode cK8_done 128 = .ok (.dup2, 1) := by decide +kernel
theorem dK8_done_129 : decode cK8_done 129 = .ok (.laload, 1) := by decide +kernel
theorem dK8_done_130 : decode cK8_done 130 = .ok (.iload_n 2, 1) := by decide +kernel
theorem dK8_done_131 : decode cK8_done 131 = .ok (.i2l, 1) := by decide +kernel
theorem dK8_done_132 : decode cK8_done 132 = .ok (.lsub, 1) := by decide +kernel
theorem dK8_done_133 : decode cK8_done 133 = .ok (.lastore, 1) := by decide +kernel
theorem dK8_done_134 : decode cK8_done 134 = .ok (.iload_n 2, 1) := by decide +kernel
theorem dK8_done_135 : decode cK8_done 135 = .ok (.ireturn, 1) := by decide +kernel
theorem dK8_done_136 : decode cK8_done 136 = .ok (.aload_n 0, 1) := by decide +kernel
theorem dK8_done_137 : decode cK8_done 137 = .ok (.iconst 0, 1) := by decide +kernel
theorem dK8_done_138 : decode cK8_done 138 = .ok (.ldc 129, 2) := by decide +kernel
theorem dK8_done_140 : decode cK8_done 140 = .ok (.invokevirtual 112, 3) := by decide +kernel
theorem dK8_done_143 : decode cK8_done 143 = .ok (.ifCond .ne 13, 3) := by decide +kernel
theorem dK8_done_146 : decode cK8_done 146 = .ok (.aload_n 0, 1) := by decide +kernel
theorem dK8_done_147 : decode cK8_done 147 = .ok (.iconst 0, 1) := by decide +kernel
theorem dK8_done_148 : decode cK8_done 148 = .ok (.ldc 131, 2) := by decide +kernel
theorem dK8_done_150 : decode cK8_done 150 = .ok (.invokevirtual 112, 3) := by decide +kernel
theorem dK8_done_153 : decode cK8_done 153 = .ok (.ifCond .eq 23, 3) := by decide +kernel
theorem dK8_done_156 : decode cK8_done 156 = .ok (.aload_n 0, 1) := by decide +kernel
theorem dK8_done_157 : decode cK8_done 157 = .ok (.aload_n 0, 1) := by decide +kernel
theorem dK8_done_158 : decode cK8_done 158 = .ok (.iconst 0, 1) := by decide +kernel
theorem dK8_done_159 : decode cK8_done 159 = .ok (.ldc 129, 2) := by decide +kernel
theorem dK8_done_161 : decode cK8_done 161 = .ok (.invokevirtual 112, 3) := by decide +kernel
theorem dK8_done_164 : decode cK8_done 164 = .ok (.ifCond .eq 7, 3) := by decide +kernel
theorem dK8_done_167 : decode cK8_done 167 = .ok (.iconst 0, 1) := by decide +kernel
theorem dK8_done_168 : decode cK8_done 168 = .ok (.goto 4, 3) := by decide +kernel
theorem dK8_done_171 : decode cK8_done 171 = .ok (.iconst 1, 1) := by decide +kernel
theorem dK8_done_172 : decode cK8_done 172 = .ok (.invokevirtual 133, 3) := by decide +kernel
theorem dK8_done_175 : decode cK8_done 175 = .ok (.ireturn, 1) := by decide +kernel
theorem dK8_done_176 : decode cK8_done 176 = .ok (.aload_n 0, 1) := by decide +kernel
theorem dK8_done_177 : decode cK8_done 177 = .ok (.iconst 0, 1) := by decide +kernel
theorem dK8_done_178 : decode cK8_done 178 = .ok (.ldc 136, 2) := by decide +kernel
theorem dK8_done_180 : decode cK8_done 180 = .ok (.invokevirtual 112, 3) := by decide +kernel
theorem dK8_done_183 : decode cK8_done 183 = .ok (.ifCond .eq 122, 3) := by decide +kernel
theorem dK8_done_186 : decode cK8_done 186 = .ok (.aload_n 0, 1) := by decide +kernel
theorem dK8_done_187 : decode cK8_done 187 = .ok (.iconst 2, 1) := by decide +kernel
theorem dK8_done_188 : decode cK8_done 188 = .ok (.invokevirtual 119, 3) := by decide +kernel
theorem dK8_done_191 : decode cK8_done 191 = .ok (.istore_n 1, 1) := by decide +kernel
theorem dK8_done_192 : decode cK8_done 192 = .ok (.aload_n 0, 1) := by decide +kernel
theorem dK8_done_193 : decode cK8_done 193 = .ok (.iconst 3, 1) := by decide +kernel
theorem dK8_done_194 : decode cK8_done 194 = .ok (.iconst 1, 1) := by decide +kernel
theorem dK8_done_195 : decode cK8_done 195 = .ok (.sipush 9999, 3) := by decide +kernel
theorem dK8_done_198 : decode cK8_done 198 = .ok (.invokevirtual 74, 3) := by decide +kernel
theorem dK8_done_201 : decode cK8_done 201 = .ok (.istore_n 2, 1) := by decide +kernel
theorem dK8_done_202 : decode cK8_done 202 = .ok (.aload_n 0, 1) := by decide +kernel
theorem dK8_done_203 : decode cK8_done 203 = .ok (.iconst 5, 1) := by decide +kernel
theorem dK8_done_204 : decode cK8_done 204 = .ok (.iconst 1, 1) := by decide +kernel
theorem dK8_done_205 : decode cK8_done 205 = .ok (.sipush 9999, 3) := by decide +kernel
theorem dK8_done_208 : decode cK8_done 208 = .ok (.invokevirtual 74, 3) := by decide +kernel
theorem dK8_done_211 : decode cK8_done 211 = .ok (.istore_n 3, 1) := by decide +kernel
theorem dK8_done_212 : decode cK8_done 212 = .ok (.aload_n 0, 1) := by decide +kernel
theorem dK8_done_213 : decode cK8_done 213 = .ok (.iconst 1, 1) := by decide +kernel
theorem dK8_done_214 : decode cK8_done 214 = .ok (.ldc 129, 2) := by decide +kernel
theorem dK8_done_216 : decode cK8_done 216 = .ok (.invokevirtual 112, 3) := by decide +kernel
theorem dK8_done_219 : decode cK8_done 219 = .ok (.ifCond .eq 7, 3) := by decide +kernel
theorem dK8_done_222 : decode cK8_done 222 = .ok (.iconst 0, 1) := by decide +kernel
theorem dK8_done_223 : decode cK8_done 223 = .ok (.goto 18, 3) := by decide +kernel
theorem dK8_done_226 : decode cK8_done 226 = .ok (.aload_n 0, 1) := by decide +kernel
theorem dK8_done_227 : decode cK8_done 227 = .ok (.iconst 1, 1) := by decide +kernel
theorem dK8_done_228 : decode cK8_done 228 = .ok (.ldc 131, 2) := by decide +kernel
theorem dK8_done_230 : decode cK8_done 230 = .ok (.invokevirtual 112, 3) := by decide +kernel
theorem dK8_done_233 : decode cK8_done 233 = .ok (.ifCond .eq 7, 3) := by decide +kernel
theorem dK8_done_236 : decode cK8_done 236 = .ok (.iconst 1, 1) := by decide +kernel
theorem dK8_done_237 : decode cK8_done 237 = .ok (.goto 4, 3) := by decide +kernel
theorem dK8_done_240 : decode cK8_done 240 = .ok (.iconst (-1), 1) := by decide +kernel
theorem dK8_done_241 : decode cK8_done 241 = .ok (.istore 4, 2) := by decide +kernel
theorem dK8_done_243 : decode cK8_done 243 = .ok (.aload_n 0, 1) := by decide +kernel
theorem dK8_done_244 : decode cK8_done 244 = .ok (.getfield 60, 3) := by decide +kernel
theorem dK8_done_247 : decode cK8_done 247 = .ok (.bipush 6, 2) := by decide +kernel
theorem dK8_done_249 : decode cK8_done 249 = .ok (.if_icmp .ne 30, 3) := by decide +kernel
theorem dK8_done_252 : decode cK8_done 252 = .ok (.iload 4, 2) := by decide +kernel
theorem dK8_done_254 : decode cK8_done 254 = .ok (.ifCond .lt 25, 3) := by decide +kernel
theorem dK8_done_257 : decode cK8_done 257 = .ok (.iload_n 1, 1) := by decide +kernel
theorem dK8_done_258 : decode cK8_done 258 = .ok (.ifCond .lt 21, 3) := by decide +kernel
theorem dK8_done_261 : decode cK8_done 261 = .ok (.iload_n 2, 1) := by decide +kernel
theorem dK8_done_262 : decode cK8_done 262 = .ok (.ifCond .lt 17, 3) := by decide +kernel
theorem dK8_done_265 : decode cK8_done 265 = .ok (.aload_n 0, 1) := by decide +kernel
theorem dK8_done_266 : decode cK8_done 266 = .ok (.iconst 4, 1) := by decide +kernel
theorem dK8_done_267 : decode cK8_done 267 = .ok (.ldc 138, 2) := by decide +kernel
theorem dK8_done_269 : decode cK8_done 269 = .ok (.invokevirtual 112, 3) := by decide +kernel
theorem dK8_done_272 : decode cK8_done 272 = .ok (.ifCond .eq 7, 3) := by decide +kernel
theorem dK8_done_275 : decode cK8_done 275 = .ok (.iload_n 3, 1) := by decide +kernel
theorem dK8_done_276 : decode cK8_done 276 = .ok (.ifCond .ge 6, 3) := by decide +kernel
theorem dK8_done_279 : decode cK8_done 279 = .ok (.bipush (-11), 2) := by decide +kernel
theorem dK8_done_281 : decode cK8_done 281 = .ok (.ireturn, 1) := by decide +kernel
theorem dK8_done_282 : decode cK8_done 282 = .ok (.aload_n 0, 1) := by decide +kernel
theorem dK8_done_283 : decode cK8_done 283 = .ok (.getfield 105, 3) := by decide +kernel
theorem dK8_done_286 : decode cK8_done 286 = .ok (.bipush 40, 2) := by decide +kernel
theorem dK8_done_288 : decode cK8_done 288 = .ok (.if_icmp .ne 6, 3) := by decide +kernel
theorem dK8_done_291 : decode cK8_done 291 = .ok (.bipush (-15), 2) := by decide +kernel
theorem dK8_done_293 : decode cK8_done 293 = .ok (.ireturn, 1) := by decide +kernel
theorem dK8_done_294 : decode cK8_done 294 = .ok (.aload_n 0, 1) := by decide +kernel
theorem dK8_done_295 : decode cK8_done 295 = .ok (.iload_n 1, 1) := by decide +kernel
theorem dK8_done_296 : decode cK8_done 296 = .ok (.iload 4, 2) := by decide +kernel
theorem dK8_done_298 : decode cK8_done 298 = .ok (.iload_n 2, 1) := by decide +kernel
theorem dK8_done_299 : decode cK8_done 299 = .ok (.iload_n 3, 1) := by decide +kernel
theorem dK8_done_300 : decode cK8_done 300 = .ok (.iconst 1, 1) := by decide +kernel
theorem dK8_done_301 : decode cK8_done 301 = .ok (.invokevirtual 140, 3) := by decide +kernel
theorem dK8_done_304 : decode cK8_done 304 = .ok (.ireturn, 1) := by decide +kernel
theorem dK8_done_305 : decode cK8_done 305 = .ok (.aload_n 0, 1) := by decide +kernel
theorem dK8_done_306 : decode cK8_done 306 = .ok (.iconst 0, 1) := by decide +kernel
theorem dK8_done_307 : decode cK8_done 307 = .ok (.ldc 144, 2) := by decide +kernel
theorem dK8_done_309 : decode cK8_done 309 = .ok (.invokevirtual 112, 3) := by decide +kernel
theorem dK8_done_312 : decode cK8_done 312 = .ok (.ifCond .ne 13, 3) := by decide +kernel
theorem dK8_done_315 : decode cK8_done 315 = .ok (.aload_n 0, 1) := by decide +kernel
theorem dK8_done_316 : decode cK8_done 316 = .ok (.iconst 0, 1) := by decide +kernel
theorem dK8_done_317 : decode cK8_done 317 = .ok (.ldc 146, 2) := by decide +kernel
theorem dK8_done_319 : decode cK8_done 319 = .ok (.invokevirtual 112, 3) := by decide +kernel
theorem dK8_done_322 : decode cK8_done 322 = .ok (.ifCond .eq 157, 3) := by decide +kernel
theorem dK8_done_325 : decode cK8_done 325 = .ok (.aload_n 0, 1) := by decide +kernel
theorem dK8_done_326 : decode cK8_done 326 = .ok (.iconst 0, 1) := by decide +kernel
theorem dK8_done_327 : decode cK8_done 327 = .ok (.ldc 146, 2) := by decide +kernel
theorem dK8_done_329 : decode cK8_done 329 = .ok (.invokevirtual 112, 3) := by decide +kernel
theorem dK8_done_332 : decode cK8_done 332 = .ok (.istore_n 1, 1) := by decide +kernel
theorem dK8_done_333 : decode cK8_done 333 = .ok (.aload_n 0, 1) := by decide +kernel
theorem dK8_done_334 : decode cK8_done 334 = .ok (.iconst 1, 1) := by decide +kernel
theorem dK8_done_335 : decode cK8_done 335 = .ok (.invokevirtual 119, 3) := by decide +kernel
theorem dK8_done_338 : decode cK8_done 338 = .ok (.istore_n 2, 1) := by decide +kernel
theorem dK8_done_339 : decode cK8_done 339 = .ok (.aload_n 0, 1) := by decide +kernel
theorem dK8_done_340 : decode cK8_done 340 = .ok (.iconst 2, 1) := by decide +kernel
theorem dK8_done_341 : decode cK8_done 341 = .ok (.invokevirtual 123, 3) := by decide +kernel
theorem dK8_done_344 : decode cK8_done 344 = .ok (.istore_n 3, 1) := by decide +kernel
theorem dK8_done_345 : decode cK8_done 345 = .ok (.iload_n 1, 1) := by decide +kernel
theorem dK8_done_346 : decode cK8_done 346 = .ok (.ifCond .eq 11, 3) := by decide +kernel
theorem dK8_done_349 : decode cK8_done 349 = .ok (.aload_n 0, 1) := by decide +kernel
theorem dK8_done_350 : decode cK8_done 350 = .ok (.iconst 3, 1) := by decide +kernel
theorem dK8_done_351 : decode cK8_done 351 = .ok (.invokevirtual 123, 3) := by decide +kernel
theorem dK8_done_354 : decode cK8_done 354 = .ok (.goto 4, 3) := by decide +kernel
theorem dK8_done_357 : decode cK8_done 357 = .ok (.iconst 0, 1) := by decide +kernel
theorem dK8_done_358 : decode cK8_done 358 = .ok (.istore 4, 2) := by decide +kernel
theorem dK8_done_360 : decode cK8_done 360 = .ok (.aload_n 0, 1) := by decide +kernel
theorem dK8_done_361 : decode cK8_done 361 = .ok (.getfield 60, 3) := by decide +kernel
theorem dK8_done_364 : decode cK8_done 364 = .ok (.iload_n 1, 1) := by decide +kernel
theorem dK8_done_365 : decode cK8_done 365 = .ok (.ifCond .eq 7, 3) := by decide +kernel
theorem dK8_done_368 : decode cK8_done 368 = .ok (.iconst 4, 1) := by decide +kernel
theorem dK8_done_369 : decode cK8_done 369 = .ok (.goto 4, 3) := by decide +kernel
theorem dK8_done_372 : decode cK8_done 372 = .ok (.iconst 3, 1) := by decide +kernel
theorem dK8_done_373 : decode cK8_done 373 = .ok (.if_icmp .ne 16, 3) := by decide +kernel
theorem dK8_done_376 : decode cK8_done 376 = .ok (.iload_n 2, 1) := by decide +kernel
theorem dK8_done_377 : decode cK8_done 377 = .ok (.ifCond .lt 12, 3) := by decide +kernel
theorem dK8_done_380 : decode cK8_done 380 = .ok (.iload_n 3, 1) := by decide +kernel
theorem dK8_done_381 : decode cK8_done 381 = .ok (.ifCond .lt 8, 3) := by decide +kernel
theorem dK8_done_384 : decode cK8_done 384 = .ok (.iload 4, 2) := by decide +kernel
theorem dK8_done_386 : decode cK8_done 386 = .ok (.ifCond .ge 6, 3) := by decide +kernel
theorem dK8_done_389 : decode cK8_done 389 = .ok (.bipush (-11), 2) := by decide +kernel
theorem dK8_done_391 : decode cK8_done 391 = .ok (.ireturn, 1) := by decide +kernel
theorem dK8_done_392 : decode cK8_done 392 = .ok (.iload_n 3, 1) := by decide +kernel
theorem dK8_done_393 : decode cK8_done 393 = .ok (.aload_n 0, 1) := by decide +kernel
theorem dK8_done_394 : decode cK8_done 394 = .ok (.getfield 105, 3) := by decide +kernel
theorem dK8_done_397 : decode cK8_done 397 = .ok (.if_icmp .lt 6, 3) := by decide +kernel
theorem dK8_done_400 : decode cK8_done 400 = .ok (.bipush (-12), 2) := by decide +kernel
theorem dK8_done_402 : decode cK8_done 402 = .ok (.ireturn, 1) := by decide +kernel
theorem dK8_done_403 : decode cK8_done 403 = .ok (.aload_n 0, 1) := by decide +kernel
theorem dK8_done_404 : decode cK8_done 404 = .ok (.getfield 26, 3) := by decide +kernel
theorem dK8_done_407 : decode cK8_done 407 = .ok (.iload_n 3, 1) := by decide +kernel
theorem dK8_done_408 : decode cK8_done 408 = .ok (.iaload, 1) := by decide +kernel
theorem dK8_done_409 : decode cK8_done 409 = .ok (.iload_n 2, 1) := by decide +kernel
theorem dK8_done_410 : decode cK8_done 410 = .ok (.if_icmp .eq 6, 3) := by decide +kernel
theorem dK8_done_413 : decode cK8_done 413 = .ok (.bipush (-13), 2) := by decide +kernel
theorem dK8_done_415 : decode cK8_done 415 = .ok (.ireturn, 1) := by decide +kernel
theorem dK8_done_416 : decode cK8_done 416 = .ok (.aload_n 0, 1) := by decide +kernel
theorem dK8_done_417 : decode cK8_done 417 = .ok (.getfield 38, 3) := by decide +kernel
theorem dK8_done_420 : decode cK8_done 420 = .ok (.iload_n 3, 1) := by decide +kernel
theorem dK8_done_421 : decode cK8_done 421 = .ok (.iaload, 1) := by decide +kernel
theorem dK8_done_422 : decode cK8_done 422 = .ok (.iconst 2, 1) := by decide +kernel
theorem dK8_done_423 : decode cK8_done 423 = .ok (.if_icmp .ne 6, 3) := by decide +kernel
theorem dK8_done_426 : decode cK8_done 426 = .ok (.bipush (-14), 2) := by decide +kernel
theorem dK8_done_428 : decode cK8_done 428 = .ok (.ireturn, 1) := by decide +kernel
theorem dK8_done_429 : decode cK8_done 429 = .ok (.iload_n 1, 1) := by decide +kernel
theorem dK8_done_430 : decode cK8_done 430 = .ok (.ifCond .ne 17, 3) := by decide +kernel
theorem dK8_done_433 : decode cK8_done 433 = .ok (.aload_n 0, 1) := by decide +kernel
theorem dK8_done_434 : decode cK8_done 434 = .ok (.getfield 38, 3) := by decide +kernel
theorem dK8_done_437 : decode cK8_done 437 = .ok (.iload_n 3, 1) := by decide +kernel
theorem dK8_done_438 : decode cK8_done 438 = .ok (.iconst 2, 1) := by decide +kernel
theorem dK8_done_439 : decode cK8_done 439 = .ok (.iastore, 1) := by decide +kernel
theorem dK8_done_440 : decode cK8_done 440 = .ok (.aload_n 0, 1) := by decide +kernel
theorem dK8_done_441 : decode cK8_done 441 = .ok (.getfield 32, 3) := by decide +kernel
theorem dK8_done_444 : decode cK8_done 444 = .ok (.iload_n 3, 1) := by decide +kernel
theorem dK8_done_445 : decode cK8_done 445 = .ok (.iaload, 1) := by decide +kernel
theorem dK8_done_446 : decode cK8_done 446 = .ok (.ireturn, 1) := by decide +kernel
theorem dK8_done_447 : decode cK8_done 447 = .ok (.iload 4, 2) := by decide +kernel
theorem dK8_done_449 : decode cK8_done 449 = .ok (.aload_n 0, 1) := by decide +kernel
theorem dK8_done_450 : decode cK8_done 450 = .ok (.getfield 32, 3) := by decide +kernel
theorem dK8_done_453 : decode cK8_done 453 = .ok (.iload_n 3, 1) := by decide +kernel
theorem dK8_done_454 : decode cK8_done 454 = .ok (.iaload, 1) := by decide +kernel
theorem dK8_done_455 : decode cK8_done 455 = .ok (.if_icmp .lt 6, 3) := by decide +kernel
theorem dK8_done_458 : decode cK8_done 458 = .ok (.bipush (-11), 2) := by decide +kernel
theorem dK8_done_460 : decode cK8_done 460 = .ok (.ireturn, 1) := by decide +kernel
theorem dK8_done_461 : decode cK8_done 461 = .ok (.aload_n 0, 1) := by decide +kernel
theorem dK8_done_462 : decode cK8_done 462 = .ok (.getfield 32, 3) := by decide +kernel
theorem dK8_done_465 : decode cK8_done 465 = .ok (.iload_n 3, 1) := by decide +kernel
theorem dK8_done_466 : decode cK8_done 466 = .ok (.dup2, 1) := by decide +kernel
theorem dK8_done_467 : decode cK8_done 467 = .ok (.iaload, 1) := by decide +kernel
theorem dK8_done_468 : decode cK8_done 468 = .ok (.iload 4, 2) := by decide +kernel
theorem dK8_done_470 : decode cK8_done 470 = .ok (.isub, 1) := by decide +kernel
theorem dK8_done_471 : decode cK8_done 471 = .ok (.iastore, 1) := by decide +kernel
theorem dK8_done_472 : decode cK8_done 472 = .ok (.aload_n 0, 1) := by decide +kernel
theorem dK8_done_473 : decode cK8_done 473 = .ok (.getfield 32, 3) := by decide +kernel
theorem dK8_done_476 : decode cK8_done 476 = .ok (.iload_n 3, 1) := by decide +kernel
theorem dK8_done_477 : decode cK8_done 477 = .ok (.iaload, 1) := by decide +kernel
theorem dK8_done_478 : decode cK8_done 478 = .ok (.ireturn, 1) := by decide +kernel
theorem dK8_done_479 : decode cK8_done 479 = .ok (.aload_n 0, 1) := by decide +kernel
theorem dK8_done_480 : decode cK8_done 480 = .ok (.iconst 0, 1) := by decide +kernel
theorem dK8_done_481 : decode cK8_done 481 = .ok (.ldc 148, 2) := by decide +kernel
theorem dK8_done_483 : decode cK8_done 483 = .ok (.invokevirtual 112, 3) := by decide +kernel
theorem dK8_done_486 : decode cK8_done 486 = .ok (.ifCond .eq 110, 3) := by decide +kernel
theorem dK8_done_489 : decode cK8_done 489 = .ok (.aload_n 0, 1) := by decide +kernel
theorem dK8_done_490 : decode cK8_done 490 = .ok (.iconst 1, 1) := by decide +kernel
theorem dK8_done_491 : decode cK8_done 491 = .ok (.iconst 1, 1) := by decide +kernel
theorem dK8_done_492 : decode cK8_done 492 = .ok (.bipush 99, 2) := by decide +kernel
theorem dK8_done_494 : decode cK8_done 494 = .ok (.invokevirtual 74, 3) := by decide +kernel
theorem dK8_done_497 : decode cK8_done 497 = .ok (.istore_n 1, 1) := by decide +kernel
theorem dK8_done_498 : decode cK8_done 498 = .ok (.iconst 0, 1) := by decide +kernel
theorem dK8_done_499 : decode cK8_done 499 = .ok (.istore_n 2, 1) := by decide +kernel
theorem dK8_done_500 : decode cK8_done 500 = .ok (.aload_n 0, 1) := by decide +kernel
theorem dK8_done_501 : decode cK8_done 501 = .ok (.getfield 60, 3) := by decide +kernel
theorem dK8_done_504 : decode cK8_done 504 = .ok (.iconst 2, 1) := by decide +kernel
theorem dK8_done_505 : decode cK8_done 505 = .ok (.if_icmp .ne 7, 3) := by decide +kernel
theorem dK8_done_508 : decode cK8_done 508 = .ok (.iload_n 1, 1) := by decide +kernel
theorem dK8_done_509 : decode cK8_done 509 = .ok (.ifCond .ge 6, 3) := by decide +kernel
theorem dK8_done_512 : decode cK8_done 512 = .ok (.bipush (-11), 2) := by decide +kernel
theorem dK8_done_514 : decode cK8_done 514 = .ok (.ireturn, 1) := by decide +kernel
theorem dK8_done_515 : decode cK8_done 515 = .ok (.iconst 0, 1) := by decide +kernel
theorem dK8_done_516 : decode cK8_done 516 = .ok (.istore_n 3, 1) := by decide +kernel
theorem dK8_done_517 : decode cK8_done 517 = .ok (.iload_n 3, 1) := by decide +kernel
theorem dK8_done_518 : decode cK8_done 518 = .ok (.iload_n 1, 1) := by decide +kernel
theorem dK8_done_519 : decode cK8_done 519 = .ok (.if_icmp .ge 75, 3) := by decide +kernel
theorem dK8_done_522 : decode cK8_done 522 = .ok (.aload_n 0, 1) := by decide +kernel
theorem dK8_done_523 : decode cK8_done 523 = .ok (.dup, 1) := by decide +kernel
theorem dK8_done_524 : decode cK8_done 524 = .ok (.getfield 150, 3) := by decide +kernel
theorem dK8_done_527 : decode cK8_done 527 = .ok (.iconst 1, 1) := by decide +kernel
theorem dK8_done_528 : decode cK8_done 528 = .ok (.iadd, 1) := by decide +kernel
theorem dK8_done_529 : decode cK8_done 529 = .ok (.putfield 150, 3) := by decide +kernel
theorem dK8_done_532 : decode cK8_done 532 = .ok (.iconst 0, 1) := by decide +kernel
theorem dK8_done_533 : decode cK8_done 533 = .ok (.istore 4, 2) := by decide +kernel
theorem dK8_done_535 : decode cK8_done 535 = .ok (.iload 4, 2) := by decide +kernel
theorem dK8_done_537 : decode cK8_done 537 = .ok (.aload_n 0, 1) := by decide +kernel
theorem dK8_done_538 : decode cK8_done 538 = .ok (.getfield 105, 3) := by decide +kernel
theorem dK8_done_541 : decode cK8_done 541 = .ok (.if_icmp .ge 47, 3) := by decide +kernel
theorem dK8_done_544 : decode cK8_done 544 = .ok (.aload_n 0, 1) := by decide +kernel
theorem dK8_done_545 : decode cK8_done 545 = .ok (.getfield 38, 3) := by decide +kernel
theorem dK8_done_548 : decode cK8_done 548 = .ok (.iload 4, 2) := by decide +kernel
theorem dK8_done_550 : decode cK8_done 550 = .ok (.iaload, 1) := by decide +kernel
theorem dK8_done_551 : decode cK8_done 551 = .ok (.ifCond .ne 31, 3) := by decide +kernel
theorem dK8_done_554 : decode cK8_done 554 = .ok (.aload_n 0, 1) := by decide +kernel
theorem dK8_done_555 : decode cK8_done 555 = .ok (.getfield 41, 3) := by decide +kernel
theorem dK8_done_558 : decode cK8_done 558 = .ok (.iload 4, 2) := by decide +kernel
theorem dK8_done_560 : decode cK8_done 560 = .ok (.iaload, 1) := by decide +kernel
theorem dK8_done_561 : decode cK8_done 561 = .ok (.aload_n 0, 1) := by decide +kernel
theorem dK8_done_562 : decode cK8_done 562 = .ok (.getfield 150, 3) := by decide +kernel
theorem dK8_done_565 : decode cK8_done 565 = .ok (.if_icmp .eq 6, 3) := by decide +kernel
theorem dK8_done_568 : decode cK8_done 568 = .ok (.goto 14, 3) := by decide +kernel
theorem dK8_done_571 : decode cK8_done 571 = .ok (.aload_n 0, 1) := by decide +kernel
theorem dK8_done_572 : decode cK8_done 572 = .ok (.getfield 38, 3) := by decide +kernel
theorem dK8_done_575 : decode cK8_done 575 = .ok (.iload 4, 2) := by decide +kernel
theorem dK8_done_577 : decode cK8_done 577 = .ok (.iconst 2, 1) := by decide +kernel
theorem dK8_done_578 : decode cK8_done 578 = .ok (.iastore, 1) := by decide +kernel
theorem dK8_done_579 : decode cK8_done 579 = .ok (.iinc 2 1, 3) := by decide +kernel
theorem dK8_done_582 : decode cK8_done 582 = .ok (.iinc 4 1, 3) := by decide +kernel
theorem dK8_done_585 : decode cK8_done 585 = .ok (.goto (-50), 3) := by decide +kernel
theorem dK8_done_588 : decode cK8_done 588 = .ok (.iinc 3 1, 3) := by decide +kernel
theorem dK8_done_591 : decode cK8_done 591 = .ok (.goto (-74), 3) := by decide +kernel
theorem dK8_done_594 : decode cK8_done 594 = .ok (.iload_n 2, 1) := by decide +kernel
theorem dK8_done_595 : decode cK8_done 595 = .ok (.ireturn, 1) := by decide +kernel
theorem dK8_done_596 : decode cK8_done 596 = .ok (.bipush (-11), 2) := by decide +kernel
theorem dK8_done_598 : decode cK8_done 598 = .ok (.ireturn, 1) := by decide +kernel
theorem dK8_fresh_0 : decode cK8_fresh 0 = .ok (.aload_n 0, 1) := by decide +kernel
theorem dK8_fresh_1 : decode cK8_fresh 1 = .ok (.getfield 26, 3) := by decide +kernel
theorem dK8_fresh_4 : decode cK8_fresh 4 = .ok (.aload_n 0, 1) := by decide +kernel
theorem dK8_fresh_5 : decode cK8_fresh 5 = .ok (.getfield 105, 3) := by decide +kernel
theorem dK8_fresh_8 : decode cK8_fresh 8 = .ok (.iload_n 1, 1) := by decide +kernel
theorem dK8_fresh_9 : decode cK8_fresh 9 = .ok (.iastore, 1) := by decide +kernel
theorem dK8_fresh_10 : decode cK8_fresh 10 = .ok (.aload_n 0, 1) := by decide +kernel
theorem dK8_fresh_11 : decode cK8_fresh 11 = .ok (.getfield 29, 3) := by decide +kernel
theorem dK8_fresh_14 : decode cK8_fresh 14 = .ok (.aload_n 0, 1) := by decide +kernel
theorem dK8_fresh_15 : decode cK8_fresh 15 = .ok (.getfield 105, 3) := by decide +kernel
theorem dK8_fresh_18 : decode cK8_fresh 18 = .ok (.iload_n 2, 1) := by decide +kernel
theorem dK8_fresh_19 : decode cK8_fresh 19 = .ok (.iastore, 1) := by decide +kernel
theorem dK8_fresh_20 : decode cK8_fresh 20 = .ok (.aload_n 0, 1) := by decide +kernel
theorem dK8_fresh_21 : decode cK8_fresh 21 = .ok (.getfield 32, 3) := by decide +kernel
theorem dK8_fresh_24 : decode cK8_fresh 24 = .ok (.aload_n 0, 1) := by decide +kernel
theorem dK8_fresh_25 : decode cK8_fresh 25 = .ok (.getfield 105, 3) := by decide +kernel
theorem dK8_fresh_28 : decode cK8_fresh 28 = .ok (.iload_n 3, 1) := by decide +kernel
theorem dK8_fresh_29 : decode cK8_fresh 29 = .ok (.iastore, 1) := by decide +kernel
theorem dK8_fresh_30 : decode cK8_fresh 30 = .ok (.aload_n 0, 1) := by decide +kernel
theorem dK8_fresh_31 : decode cK8_fresh 31 = .ok (.getfield 35, 3) := by decide +kernel
theorem dK8_fresh_34 : decode cK8_fresh 34 = .ok (.aload_n 0, 1) := by decide +kernel
theorem dK8_fresh_35 : decode cK8_fresh 35 = .ok (.getfield 105, 3) := by decide +kernel
theorem dK8_fresh_38 : decode cK8_fresh 38 = .ok (.iload 4, 2) := by decide +kernel
theorem dK8_fresh_40 : decode cK8_fresh 40 = .ok (.iastore, 1) := by decide +kernel
theorem dK8_fresh_41 : decode cK8_fresh 41 = .ok (.aload_n 0, 1) := by decide +kernel
theorem dK8_fresh_42 : decode cK8_fresh 42 = .ok (.getfield 38, 3) := by decide +kernel
theorem dK8_fresh_45 : decode cK8_fresh 45 = .ok (.aload_n 0, 1) := by decide +kernel
theorem dK8_fresh_46 : decode cK8_fresh 46 = .ok (.getfield 105, 3) := by decide +kernel
theorem dK8_fresh_49 : decode cK8_fresh 49 = .ok (.iload 5, 2) := by decide +kernel
theorem dK8_fresh_51 : decode cK8_fresh 51 = .ok (.iastore, 1) := by decide +kernel
theorem dK8_fresh_52 : decode cK8_fresh 52 = .ok (.aload_n 0, 1) := by decide +kernel
theorem dK8_fresh_53 : decode cK8_fresh 53 = .ok (.getfield 41, 3) := by decide +kernel
theorem dK8_fresh_56 : decode cK8_fresh 56 = .ok (.aload_n 0, 1) := by decide +kernel
theorem dK8_fresh_57 : decode cK8_fresh 57 = .ok (.getfield 105, 3) := by decide +kernel
theorem dK8_fresh_60 : decode cK8_fresh 60 = .ok (.iconst (-1), 1) := by decide +kernel
theorem dK8_fresh_61 : decode cK8_fresh 61 = .ok (.iastore, 1) := by decide +kernel
theorem dK8_fresh_62 : decode cK8_fresh 62 = .ok (.aload_n 0, 1) := by decide +kernel
theorem dK8_fresh_63 : decode cK8_fresh 63 = .ok (.dup, 1) := by decide +kernel
theorem dK8_fresh_64 : decode cK8_fresh 64 = .ok (.getfield 105, 3) := by decide +kernel
theorem dK8_fresh_67 : decode cK8_fresh 67 = .ok (.dup_x1, 1) := by decide +kernel
theorem dK8_fresh_68 : decode cK8_fresh 68 = .ok (.iconst 1, 1) := by decide +kernel
theorem dK8_fresh_69 : decode cK8_fresh 69 = .ok (.iadd, 1) := by decide +kernel
theorem dK8_fresh_70 : decode cK8_fresh 70 = .ok (.putfield 105, 3) := by decide +kernel
theorem dK8_fresh_73 : decode cK8_fresh 73 = .ok (.ireturn, 1) := by decide +kernel
theorem dK8_heldCash_0 : decode cK8_heldCash 0 = .ok (.lconst 0, 1) := by decide +kernel
theorem dK8_heldCash_1 : decode cK8_heldCash 1 = .ok (.lstore_n 2, 1) := by decide +kernel
theorem dK8_heldCash_2 : decode cK8_heldCash 2 = .ok (.iconst 0, 1) := by decide +kernel
theorem dK8_heldCash_3 : decode cK8_heldCash 3 = .ok (.istore 4, 2) := by decide +kernel
theorem dK8_heldCash_5 : decode cK8_heldCash 5 = .ok (.iload 4, 2) := by decide +kernel
theorem dK8_heldCash_7 : decode cK8_heldCash 7 = .ok (.aload_n 0, 1) := by decide +kernel
theorem dK8_heldCash_8 : decode cK8_heldCash 8 = .ok (.getfield 105, 3) := by decide +kernel
theorem dK8_heldCash_11 : decode cK8_heldCash 11 = .ok (.if_icmp .ge 60, 3) := by decide +kernel
theorem dK8_heldCash_14 : decode cK8_heldCash 14 = .ok (.aload_n 0, 1) := by decide +kernel
theorem dK8_heldCash_15 : decode cK8_heldCash 15 = .ok (.getfield 38, 3) := by decide +kernel
theorem dK8_heldCash_18 : decode cK8_heldCash 18 = .ok (.iload 4, 2) := by decide +kernel
theorem dK8_heldCash_20 : decode cK8_heldCash 20 = .ok (.iaload, 1) := by decide +kernel
theorem dK8_heldCash_21 : decode cK8_heldCash 21 = .ok (.ifCond .ne 44, 3) := by decide +kernel
theorem dK8_heldCash_24 : decode cK8_heldCash 24 = .ok (.aload_n 0, 1) := by decide +kernel
theorem dK8_heldCash_25 : decode cK8_heldCash 25 = .ok (.getfield 26, 3) := by decide +kernel
theorem dK8_heldCash_28 : decode cK8_heldCash 28 = .ok (.iload 4, 2) := by decide +kernel
theorem dK8_heldCash_30 : decode cK8_heldCash 30 = .ok (.iaload, 1) := by decide +kernel
theorem dK8_heldCash_31 : decode cK8_heldCash 31 = .ok (.iload_n 1, 1) := by decide +kernel
theorem dK8_heldCash_32 : decode cK8_heldCash 32 = .ok (.if_icmp .ne 33, 3) := by decide +kernel
theorem dK8_heldCash_35 : decode cK8_heldCash 35 = .ok (.aload_n 0, 1) := by decide +kernel
theorem dK8_heldCash_36 : decode cK8_heldCash 36 = .ok (.getfield 29, 3) := by decide +kernel
theorem dK8_heldCash_39 : decode cK8_heldCash 39 = .ok (.iload 4, 2) := by decide +kernel
theorem dK8_heldCash_41 : decode cK8_heldCash 41 = .ok (.iaload, 1) := by decide +kernel
theorem dK8_heldCash_42 : decode cK8_heldCash 42 = .ok (.ifCond .ne 23, 3) := by decide +kernel
theorem dK8_heldCash_45 : decode cK8_heldCash 45 = .ok (.lload_n 2, 1) := by decide +kernel
theorem dK8_heldCash_46 : decode cK8_heldCash 46 = .ok (.aload_n 0, 1) := by decide +kernel
theorem dK8_heldCash_47 : decode cK8_heldCash 47 = .ok (.getfield 32, 3) := by decide +kernel
theorem dK8_heldCash_50 : decode cK8_heldCash 50 = .ok (.iload 4, 2) := by decide +kernel
theorem dK8_heldCash_52 : decode cK8_heldCash 52 = .ok (.iaload, 1) := by decide +kernel
theorem dK8_heldCash_53 : decode cK8_heldCash 53 = .ok (.i2l, 1) := by decide +kernel
theorem dK8_heldCash_54 : decode cK8_heldCash 54 = .ok (.aload_n 0, 1) := by decide +kernel
theorem dK8_heldCash_55 : decode cK8_heldCash 55 = .ok (.getfield 35, 3) := by decide +kernel
theorem dK8_heldCash_58 : decode cK8_heldCash 58 = .ok (.iload 4, 2) := by decide +kernel
