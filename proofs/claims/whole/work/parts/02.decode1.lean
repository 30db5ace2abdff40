theorem dK2_lessen_12 : decode cK2_lessen 12 = .ok (.aload_n 0, 1) := by decide +kernel
theorem dK2_lessen_13 : decode cK2_lessen 13 = .ok (.getfield 20, 3) := by decide +kernel
theorem dK2_lessen_16 : decode cK2_lessen 16 = .ok (.getfield 95, 3) := by decide +kernel
theorem dK2_lessen_19 : decode cK2_lessen 19 = .ok (.aload_n 1, 1) := by decide +kernel
theorem dK2_lessen_20 : decode cK2_lessen 20 = .ok (.getfield 184, 3) := by decide +kernel
theorem dK2_lessen_23 : decode cK2_lessen 23 = .ok (.aaload, 1) := by decide +kernel
theorem dK2_lessen_24 : decode cK2_lessen 24 = .ok (.astore_n 3, 1) := by decide +kernel
theorem dK2_lessen_25 : decode cK2_lessen 25 = .ok (.aload_n 1, 1) := by decide +kernel
theorem dK2_lessen_26 : decode cK2_lessen 26 = .ok (.getfield 71, 3) := by decide +kernel
theorem dK2_lessen_29 : decode cK2_lessen 29 = .ok (.aload_n 3, 1) := by decide +kernel
theorem dK2_lessen_30 : decode cK2_lessen 30 = .ok (.getfield 104, 3) := by decide +kernel
theorem dK2_lessen_33 : decode cK2_lessen 33 = .ok (.if_icmp .lt 6, 3) := by decide +kernel
theorem dK2_lessen_36 : decode cK2_lessen 36 = .ok (.bipush (-11), 2) := by decide +kernel
theorem dK2_lessen_38 : decode cK2_lessen 38 = .ok (.ireturn, 1) := by decide +kernel
theorem dK2_lessen_39 : decode cK2_lessen 39 = .ok (.aload_n 3, 1) := by decide +kernel
theorem dK2_lessen_40 : decode cK2_lessen 40 = .ok (.getfield 114, 3) := by decide +kernel
theorem dK2_lessen_43 : decode cK2_lessen 43 = .ok (.ifCond .ne 13, 3) := by decide +kernel
theorem dK2_lessen_46 : decode cK2_lessen 46 = .ok (.aload_n 0, 1) := by decide +kernel
theorem dK2_lessen_47 : decode cK2_lessen 47 = .ok (.aload_n 3, 1) := by decide +kernel
theorem dK2_lessen_48 : decode cK2_lessen 48 = .ok (.aload_n 1, 1) := by decide +kernel
theorem dK2_lessen_49 : decode cK2_lessen 49 = .ok (.getfield 71, 3) := by decide +kernel
theorem dK2_lessen_52 : decode cK2_lessen 52 = .ok (.ineg, 1) := by decide +kernel
theorem dK2_lessen_53 : decode cK2_lessen 53 = .ok (.invokevirtual 123, 3) := by decide +kernel
theorem dK2_lessen_56 : decode cK2_lessen 56 = .ok (.aload_n 3, 1) := by decide +kernel
theorem dK2_lessen_57 : decode cK2_lessen 57 = .ok (.dup, 1) := by decide +kernel
theorem dK2_lessen_58 : decode cK2_lessen 58 = .ok (.getfield 104, 3) := by decide +kernel
theorem dK2_lessen_61 : decode cK2_lessen 61 = .ok (.aload_n 1, 1) := by decide +kernel
theorem dK2_lessen_62 : decode cK2_lessen 62 = .ok (.getfield 71, 3) := by decide +kernel
theorem dK2_lessen_65 : decode cK2_lessen 65 = .ok (.isub, 1) := by decide +kernel
theorem dK2_lessen_66 : decode cK2_lessen 66 = .ok (.putfield 104, 3) := by decide +kernel
theorem dK2_lessen_69 : decode cK2_lessen 69 = .ok (.aload_n 3, 1) := by decide +kernel
theorem dK2_lessen_70 : decode cK2_lessen 70 = .ok (.getfield 104, 3) := by decide +kernel
theorem dK2_lessen_73 : decode cK2_lessen 73 = .ok (.ireturn, 1) := by decide +kernel
theorem dK2_refusalOfTarget_0 : decode cK2_refusalOfTarget 0 = .ok (.aload_n 0, 1) := by decide +kernel
theorem dK2_refusalOfTarget_1 : decode cK2_refusalOfTarget 1 = .ok (.getfield 20, 3) := by decide +kernel
theorem dK2_refusalOfTarget_4 : decode cK2_refusalOfTarget 4 = .ok (.aload_n 1, 1) := by decide +kernel
theorem dK2_refusalOfTarget_5 : decode cK2_refusalOfTarget 5 = .ok (.getfield 184, 3) := by decide +kernel
theorem dK2_refusalOfTarget_8 : decode cK2_refusalOfTarget 8 = .ok (.invokevirtual 187, 3) := by decide +kernel
theorem dK2_refusalOfTarget_11 : decode cK2_refusalOfTarget 11 = .ok (.ifCond .ne 6, 3) := by decide +kernel
theorem dK2_refusalOfTarget_14 : decode cK2_refusalOfTarget 14 = .ok (.bipush (-12), 2) := by decide +kernel
theorem dK2_refusalOfTarget_16 : decode cK2_refusalOfTarget 16 = .ok (.ireturn, 1) := by decide +kernel
theorem dK2_refusalOfTarget_17 : decode cK2_refusalOfTarget 17 = .ok (.aload_n 0, 1) := by decide +kernel
theorem dK2_refusalOfTarget_18 : decode cK2_refusalOfTarget 18 = .ok (.getfield 20, 3) := by decide +kernel
theorem dK2_refusalOfTarget_21 : decode cK2_refusalOfTarget 21 = .ok (.getfield 95, 3) := by decide +kernel
theorem dK2_refusalOfTarget_24 : decode cK2_refusalOfTarget 24 = .ok (.aload_n 1, 1) := by decide +kernel
theorem dK2_refusalOfTarget_25 : decode cK2_refusalOfTarget 25 = .ok (.getfield 184, 3) := by decide +kernel
theorem dK2_refusalOfTarget_28 : decode cK2_refusalOfTarget 28 = .ok (.aaload, 1) := by decide +kernel
theorem dK2_refusalOfTarget_29 : decode cK2_refusalOfTarget 29 = .ok (.astore_n 2, 1) := by decide +kernel
theorem dK2_refusalOfTarget_30 : decode cK2_refusalOfTarget 30 = .ok (.aload_n 2, 1) := by decide +kernel
theorem dK2_refusalOfTarget_31 : decode cK2_refusalOfTarget 31 = .ok (.getfield 146, 3) := by decide +kernel
theorem dK2_refusalOfTarget_34 : decode cK2_refusalOfTarget 34 = .ok (.aload_n 1, 1) := by decide +kernel
theorem dK2_refusalOfTarget_35 : decode cK2_refusalOfTarget 35 = .ok (.getfield 64, 3) := by decide +kernel
theorem dK2_refusalOfTarget_38 : decode cK2_refusalOfTarget 38 = .ok (.if_icmp .eq 6, 3) := by decide +kernel
theorem dK2_refusalOfTarget_41 : decode cK2_refusalOfTarget 41 = .ok (.bipush (-13), 2) := by decide +kernel
theorem dK2_refusalOfTarget_43 : decode cK2_refusalOfTarget 43 = .ok (.ireturn, 1) := by decide +kernel
theorem dK2_refusalOfTarget_44 : decode cK2_refusalOfTarget 44 = .ok (.aload_n 2, 1) := by decide +kernel
theorem dK2_refusalOfTarget_45 : decode cK2_refusalOfTarget 45 = .ok (.getfield 114, 3) := by decide +kernel
theorem dK2_refusalOfTarget_48 : decode cK2_refusalOfTarget 48 = .ok (.iconst 2, 1) := by decide +kernel
theorem dK2_refusalOfTarget_49 : decode cK2_refusalOfTarget 49 = .ok (.if_icmp .ne 8, 3) := by decide +kernel
theorem dK2_refusalOfTarget_52 : decode cK2_refusalOfTarget 52 = .ok (.bipush (-14), 2) := by decide +kernel
theorem dK2_refusalOfTarget_54 : decode cK2_refusalOfTarget 54 = .ok (.goto 4, 3) := by decide +kernel
theorem dK2_refusalOfTarget_57 : decode cK2_refusalOfTarget 57 = .ok (.iconst 0, 1) := by decide +kernel
theorem dK2_refusalOfTarget_58 : decode cK2_refusalOfTarget 58 = .ok (.ireturn, 1) := by decide +kernel
theorem dK2_passTime_0 : decode cK2_passTime 0 = .ok (.iconst 0, 1) := by decide +kernel
theorem dK2_passTime_1 : decode cK2_passTime 1 = .ok (.istore_n 2, 1) := by decide +kernel
theorem dK2_passTime_2 : decode cK2_passTime 2 = .ok (.iconst 0, 1) := by decide +kernel
theorem dK2_passTime_3 : decode cK2_passTime 3 = .ok (.istore_n 3, 1) := by decide +kernel
theorem dK2_passTime_4 : decode cK2_passTime 4 = .ok (.iload_n 3, 1) := by decide +kernel
theorem dK2_passTime_5 : decode cK2_passTime 5 = .ok (.iload_n 1, 1) := by decide +kernel
theorem dK2_passTime_6 : decode cK2_passTime 6 = .ok (.if_icmp .ge 26, 3) := by decide +kernel
theorem dK2_passTime_9 : decode cK2_passTime 9 = .ok (.aload_n 0, 1) := by decide +kernel
theorem dK2_passTime_10 : decode cK2_passTime 10 = .ok (.dup, 1) := by decide +kernel
theorem dK2_passTime_11 : decode cK2_passTime 11 = .ok (.getfield 117, 3) := by decide +kernel
theorem dK2_passTime_14 : decode cK2_passTime 14 = .ok (.iconst 1, 1) := by decide +kernel
theorem dK2_passTime_15 : decode cK2_passTime 15 = .ok (.iadd, 1) := by decide +kernel
theorem dK2_passTime_16 : decode cK2_passTime 16 = .ok (.putfield 117, 3) := by decide +kernel
theorem dK2_passTime_19 : decode cK2_passTime 19 = .ok (.iload_n 2, 1) := by decide +kernel
theorem dK2_passTime_20 : decode cK2_passTime 20 = .ok (.aload_n 0, 1) := by decide +kernel
theorem dK2_passTime_21 : decode cK2_passTime 21 = .ok (.invokevirtual 191, 3) := by decide +kernel
theorem dK2_passTime_24 : decode cK2_passTime 24 = .ok (.iadd, 1) := by decide +kernel
theorem dK2_passTime_25 : decode cK2_passTime 25 = .ok (.istore_n 2, 1) := by decide +kernel
theorem dK2_passTime_26 : decode cK2_passTime 26 = .ok (.iinc 3 1, 3) := by decide +kernel
theorem dK2_passTime_29 : decode cK2_passTime 29 = .ok (.goto (-25), 3) := by decide +kernel
theorem dK2_passTime_32 : decode cK2_passTime 32 = .ok (.iload_n 2, 1) := by decide +kernel
theorem dK2_passTime_33 : decode cK2_passTime 33 = .ok (.ireturn, 1) := by decide +kernel
theorem dK2_endOrdersOfNow_0 : decode cK2_endOrdersOfNow 0 = .ok (.iconst 0, 1) := by decide +kernel
theorem dK2_endOrdersOfNow_1 : decode cK2_endOrdersOfNow 1 = .ok (.istore_n 1, 1) := by decide +kernel
theorem dK2_endOrdersOfNow_2 : decode cK2_endOrdersOfNow 2 = .ok (.iconst 0, 1) := by decide +kernel
theorem dK2_endOrdersOfNow_3 : decode cK2_endOrdersOfNow 3 = .ok (.istore_n 2, 1) := by decide +kernel
theorem dK2_endOrdersOfNow_4 : decode cK2_endOrdersOfNow 4 = .ok (.iload_n 2, 1) := by decide +kernel
theorem dK2_endOrdersOfNow_5 : decode cK2_endOrdersOfNow 5 = .ok (.aload_n 0, 1) := by decide +kernel
theorem dK2_endOrdersOfNow_6 : decode cK2_endOrdersOfNow 6 = .ok (.getfield 20, 3) := by decide +kernel
theorem dK2_endOrdersOfNow_9 : decode cK2_endOrdersOfNow 9 = .ok (.getfield 195, 3) := by decide +kernel
theorem dK2_endOrdersOfNow_12 : decode cK2_endOrdersOfNow 12 = .ok (.if_icmp .ge 45, 3) := by decide +kernel
theorem dK2_endOrdersOfNow_15 : decode cK2_endOrdersOfNow 15 = .ok (.aload_n 0, 1) := by decide +kernel
theorem dK2_endOrdersOfNow_16 : decode cK2_endOrdersOfNow 16 = .ok (.getfield 20, 3) := by decide +kernel
theorem dK2_endOrdersOfNow_19 : decode cK2_endOrdersOfNow 19 = .ok (.getfield 95, 3) := by decide +kernel
theorem dK2_endOrdersOfNow_22 : decode cK2_endOrdersOfNow 22 = .ok (.iload_n 2, 1) := by decide +kernel
theorem dK2_endOrdersOfNow_23 : decode cK2_endOrdersOfNow 23 = .ok (.aaload, 1) := by decide +kernel
theorem dK2_endOrdersOfNow_24 : decode cK2_endOrdersOfNow 24 = .ok (.astore_n 3, 1) := by decide +kernel
theorem dK2_endOrdersOfNow_25 : decode cK2_endOrdersOfNow 25 = .ok (.aload_n 3, 1) := by decide +kernel
theorem dK2_endOrdersOfNow_26 : decode cK2_endOrdersOfNow 26 = .ok (.getfield 114, 3) := by decide +kernel
theorem dK2_endOrdersOfNow_29 : decode cK2_endOrdersOfNow 29 = .ok (.ifCond .ne 22, 3) := by decide +kernel
theorem dK2_endOrdersOfNow_32 : decode cK2_endOrdersOfNow 32 = .ok (.aload_n 3, 1) := by decide +kernel
theorem dK2_endOrdersOfNow_33 : decode cK2_endOrdersOfNow 33 = .ok (.getfield 120, 3) := by decide +kernel
theorem dK2_endOrdersOfNow_36 : decode cK2_endOrdersOfNow 36 = .ok (.aload_n 0, 1) := by decide +kernel
theorem dK2_endOrdersOfNow_37 : decode cK2_endOrdersOfNow 37 = .ok (.getfield 117, 3) := by decide +kernel
theorem dK2_endOrdersOfNow_40 : decode cK2_endOrdersOfNow 40 = .ok (.if_icmp .ne 11, 3) := by decide +kernel
theorem dK2_endOrdersOfNow_43 : decode cK2_endOrdersOfNow 43 = .ok (.aload_n 0, 1) := by decide +kernel
theorem dK2_endOrdersOfNow_44 : decode cK2_endOrdersOfNow 44 = .ok (.aload_n 3, 1) := by decide +kernel
theorem dK2_endOrdersOfNow_45 : decode cK2_endOrdersOfNow 45 = .ok (.invokevirtual 147, 3) := by decide +kernel
theorem dK2_endOrdersOfNow_48 : decode cK2_endOrdersOfNow 48 = .ok (.iinc 1 1, 3) := by decide +kernel
theorem dK2_endOrdersOfNow_51 : decode cK2_endOrdersOfNow 51 = .ok (.iinc 2 1, 3) := by decide +kernel
theorem dK2_endOrdersOfNow_54 : decode cK2_endOrdersOfNow 54 = .ok (.goto (-50), 3) := by decide +kernel
theorem dK2_endOrdersOfNow_57 : decode cK2_endOrdersOfNow 57 = .ok (.iload_n 1, 1) := by decide +kernel
theorem dK2_endOrdersOfNow_58 : decode cK2_endOrdersOfNow 58 = .ok (.ireturn, 1) := by decide +kernel
theorem dK2_wakeStops_0 : decode cK2_wakeStops 0 = .ok (.iconst 0, 1) := by decide +kernel
theorem dK2_wakeStops_1 : decode cK2_wakeStops 1 = .ok (.istore_n 1, 1) := by decide +kernel
theorem dK2_wakeStops_2 : decode cK2_wakeStops 2 = .ok (.iload_n 1, 1) := by decide +kernel
theorem dK2_wakeStops_3 : decode cK2_wakeStops 3 = .ok (.bipush 40, 2) := by decide +kernel
theorem dK2_wakeStops_5 : decode cK2_wakeStops 5 = .ok (.if_icmp .ge 76, 3) := by decide +kernel
theorem dK2_wakeStops_8 : decode cK2_wakeStops 8 = .ok (.aload_n 0, 1) := by decide +kernel
theorem dK2_wakeStops_9 : decode cK2_wakeStops 9 = .ok (.getfield 20, 3) := by decide +kernel
theorem dK2_wakeStops_12 : decode cK2_wakeStops 12 = .ok (.aload_n 0, 1) := by decide +kernel
theorem dK2_wakeStops_13 : decode cK2_wakeStops 13 = .ok (.getfield 168, 3) := by decide +kernel
theorem dK2_wakeStops_16 : decode cK2_wakeStops 16 = .ok (.invokevirtual 198, 3) := by decide +kernel
theorem dK2_wakeStops_19 : decode cK2_wakeStops 19 = .ok (.astore_n 2, 1) := by decide +kernel
theorem dK2_wakeStops_20 : decode cK2_wakeStops 20 = .ok (.aload_n 2, 1) := by decide +kernel
theorem dK2_wakeStops_21 : decode cK2_wakeStops 21 = .ok (.ifnonnull 4, 3) := by decide +kernel
theorem dK2_wakeStops_24 : decode cK2_wakeStops 24 = .ok (.return_, 1) := by decide +kernel
theorem dK2_wakeStops_25 : decode cK2_wakeStops 25 = .ok (.aload_n 2, 1) := by decide +kernel
theorem dK2_wakeStops_26 : decode cK2_wakeStops 26 = .ok (.iconst 2, 1) := by decide +kernel
theorem dK2_wakeStops_27 : decode cK2_wakeStops 27 = .ok (.putfield 114, 3) := by decide +kernel
theorem dK2_wakeStops_30 : decode cK2_wakeStops 30 = .ok (.aload_n 2, 1) := by decide +kernel
theorem dK2_wakeStops_31 : decode cK2_wakeStops 31 = .ok (.getfield 145, 3) := by decide +kernel
theorem dK2_wakeStops_34 : decode cK2_wakeStops 34 = .ok (.iconst 1, 1) := by decide +kernel
theorem dK2_wakeStops_35 : decode cK2_wakeStops 35 = .ok (.if_icmp .ne 18, 3) := by decide +kernel
theorem dK2_wakeStops_38 : decode cK2_wakeStops 38 = .ok (.aload_n 0, 1) := by decide +kernel
theorem dK2_wakeStops_39 : decode cK2_wakeStops 39 = .ok (.getfield 11, 3) := by decide +kernel
theorem dK2_wakeStops_42 : decode cK2_wakeStops 42 = .ok (.aload_n 2, 1) := by decide +kernel
theorem dK2_wakeStops_43 : decode cK2_wakeStops 43 = .ok (.getfield 146, 3) := by decide +kernel
theorem dK2_wakeStops_46 : decode cK2_wakeStops 46 = .ok (.aaload, 1) := by decide +kernel
theorem dK2_wakeStops_47 : decode cK2_wakeStops 47 = .ok (.invokevirtual 133, 3) := by decide +kernel
theorem dK2_wakeStops_50 : decode cK2_wakeStops 50 = .ok (.goto 8, 3) := by decide +kernel
theorem dK2_wakeStops_53 : decode cK2_wakeStops 53 = .ok (.aload_n 2, 1) := by decide +kernel
theorem dK2_wakeStops_54 : decode cK2_wakeStops 54 = .ok (.getfield 104, 3) := by decide +kernel
theorem dK2_wakeStops_57 : decode cK2_wakeStops 57 = .ok (.i2l, 1) := by decide +kernel
theorem dK2_wakeStops_58 : decode cK2_wakeStops 58 = .ok (.lstore_n 3, 1) := by decide +kernel
theorem dK2_wakeStops_59 : decode cK2_wakeStops 59 = .ok (.aload_n 0, 1) := by decide +kernel
theorem dK2_wakeStops_60 : decode cK2_wakeStops 60 = .ok (.aload_n 2, 1) := by decide +kernel
theorem dK2_wakeStops_61 : decode cK2_wakeStops 61 = .ok (.iconst 0, 1) := by decide +kernel
theorem dK2_wakeStops_62 : decode cK2_wakeStops 62 = .ok (.lload_n 3, 1) := by decide +kernel
theorem dK2_wakeStops_63 : decode cK2_wakeStops 63 = .ok (.aload_n 2, 1) := by decide +kernel
theorem dK2_wakeStops_64 : decode cK2_wakeStops 64 = .ok (.getfield 104, 3) := by decide +kernel
theorem dK2_wakeStops_67 : decode cK2_wakeStops 67 = .ok (.i2l, 1) := by decide +kernel
theorem dK2_wakeStops_68 : decode cK2_wakeStops 68 = .ok (.invokestatic 165, 3) := by decide +kernel
theorem dK2_wakeStops_71 : decode cK2_wakeStops 71 = .ok (.l2i, 1) := by decide +kernel
theorem dK2_wakeStops_72 : decode cK2_wakeStops 72 = .ok (.invokevirtual 107, 3) := by decide +kernel
theorem dK2_wakeStops_75 : decode cK2_wakeStops 75 = .ok (.iinc 1 1, 3) := by decide +kernel
theorem dK2_wakeStops_78 : decode cK2_wakeStops 78 = .ok (.goto (-76), 3) := by decide +kernel
theorem dK2_wakeStops_81 : decode cK2_wakeStops 81 = .ok (.return_, 1) := by decide +kernel
theorem dK3_init_0 : decode cK3_init 0 = .ok (.aload_n 0, 1) := by decide +kernel
theorem dK3_init_1 : decode cK3_init 1 = .ok (.invokespecial 1, 3) := by decide +kernel
theorem dK3_init_4 : decode cK3_init 4 = .ok (.return_, 1) := by decide +kernel
theorem dK4_init_0 : decode cK4_init 0 = .ok (.aload_n 0, 1) := by decide +kernel
theorem dK4_init_1 : decode cK4_init 1 = .ok (.invokespecial 3, 3) := by decide +kernel
theorem dK4_init_4 : decode cK4_init 4 = .ok (.aload_n 0, 1) := by decide +kernel
theorem dK4_init_5 : decode cK4_init 5 = .ok (.bipush 40, 2) := by decide +kernel
theorem dK4_init_7 : decode cK4_init 7 = .ok (.anewarray 9, 3) := by decide +kernel
theorem dK4_init_10 : decode cK4_init 10 = .ok (.putfield 11, 3) := by decide +kernel
theorem dK4_init_13 : decode cK4_init 13 = .ok (.iconst 0, 1) := by decide +kernel
theorem dK4_init_14 : decode cK4_init 14 = .ok (.istore_n 1, 1) := by decide +kernel
theorem dK4_init_15 : decode cK4_init 15 = .ok (.iload_n 1, 1) := by decide +kernel
theorem dK4_init_16 : decode cK4_init 16 = .ok (.bipush 40, 2) := by decide +kernel
theorem dK4_init_18 : decode cK4_init 18 = .ok (.if_icmp .ge 22, 3) := by decide +kernel
theorem dK4_init_21 : decode cK4_init 21 = .ok (.aload_n 0, 1) := by decide +kernel
theorem dK4_init_22 : decode cK4_init 22 = .ok (.getfield 11, 3) := by decide +kernel
theorem dK4_init_25 : decode cK4_init 25 = .ok (.iload_n 1, 1) := by decide +kernel
theorem dK4_init_26 : decode cK4_init 26 = .ok (.new 9, 3) := by decide +kernel
theorem dK4_init_29 : decode cK4_init 29 = .ok (.dup, 1) := by decide +kernel
theorem dK4_init_30 : decode cK4_init 30 = .ok (.invokespecial 17, 3) := by decide +kernel
theorem dK4_init_33 : decode cK4_init 33 = .ok (.aastore, 1) := by decide +kernel
theorem dK4_init_34 : decode cK4_init 34 = .ok (.iinc 1 1, 3) := by decide +kernel
theorem dK4_init_37 : decode cK4_init 37 = .ok (.goto (-22), 3) := by decide +kernel
theorem dK4_init_40 : decode cK4_init 40 = .ok (.return_, 1) := by decide +kernel
theorem dK4_has_0 : decode cK4_has 0 = .ok (.iload_n 1, 1) := by decide +kernel
theorem dK4_has_1 : decode cK4_has 1 = .ok (.ifCond .lt 15, 3) := by decide +kernel
theorem dK4_has_4 : decode cK4_has 4 = .ok (.iload_n 1, 1) := by decide +kernel
theorem dK4_has_5 : decode cK4_has 5 = .ok (.aload_n 0, 1) := by decide +kernel
theorem dK4_has_6 : decode cK4_has 6 = .ok (.getfield 18, 3) := by decide +kernel
theorem dK4_has_9 : decode cK4_has 9 = .ok (.if_icmp .ge 7, 3) := by decide +kernel
theorem dK4_has_12 : decode cK4_has 12 = .ok (.iconst 1, 1) := by decide +kernel
theorem dK4_has_13 : decode cK4_has 13 = .ok (.goto 4, 3) := by decide +kernel
theorem dK4_has_16 : decode cK4_has 16 = .ok (.iconst 0, 1) := by decide +kernel
theorem dK4_has_17 : decode cK4_has 17 = .ok (.ireturn, 1) := by decide +kernel
theorem dK4_isFull_0 : decode cK4_isFull 0 = .ok (.aload_n 0, 1) := by decide +kernel
theorem dK4_isFull_1 : decode cK4_isFull 1 = .ok (.getfield 18, 3) := by decide +kernel
theorem dK4_isFull_4 : decode cK4_isFull 4 = .ok (.bipush 40, 2) := by decide +kernel
theorem dK4_isFull_6 : decode cK4_isFull 6 = .ok (.if_icmp .lt 7, 3) := by decide +kernel
theorem dK4_isFull_9 : decode cK4_isFull 9 = .ok (.iconst 1, 1) := by decide +kernel
theorem dK4_isFull_10 : decode cK4_isFull 10 = .ok (.goto 4, 3) := by decide +kernel
theorem dK4_isFull_13 : decode cK4_isFull 13 = .ok (.iconst 0, 1) := by decide +kernel
theorem dK4_isFull_14 : decode cK4_isFull 14 = .ok (.ireturn, 1) := by decide +kernel
theorem dK4_enter_0 : decode cK4_enter 0 = .ok (.aload_n 0, 1) := by decide +kernel
theorem dK4_enter_1 : decode cK4_enter 1 = .ok (.getfield 18, 3) := by decide +kernel
theorem dK4_enter_4 : decode cK4_enter 4 = .ok (.istore_n 2, 1) := by decide +kernel
theorem dK4_enter_5 : decode cK4_enter 5 = .ok (.aload_n 0, 1) := by decide +kernel
theorem dK4_enter_6 : decode cK4_enter 6 = .ok (.getfield 11, 3) := by decide +kernel
theorem dK4_enter_9 : decode cK4_enter 9 = .ok (.iload_n 2, 1) := by decide +kernel
theorem dK4_enter_10 : decode cK4_enter 10 = .ok (.aaload, 1) := by decide +kernel
theorem dK4_enter_11 : decode cK4_enter 11 = .ok (.astore_n 3, 1) := by decide +kernel
theorem dK4_enter_12 : decode cK4_enter 12 = .ok (.aload_n 3, 1) := by decide +kernel
theorem dK4_enter_13 : decode cK4_enter 13 = .ok (.aload_n 1, 1) := by decide +kernel
theorem dK4_enter_14 : decode cK4_enter 14 = .ok (.getfield 22, 3) := by decide +kernel
theorem dK4_enter_17 : decode cK4_enter 17 = .ok (.putfield 27, 3) := by decide +kernel
theorem dK4_enter_20 : decode cK4_enter 20 = .ok (.aload_n 3, 1) := by decide +kernel
theorem dK4_enter_21 : decode cK4_enter 21 = .ok (.aload_n 1, 1) := by decide +kernel
theorem dK4_enter_22 : decode cK4_enter 22 = .ok (.getfield 28, 3) := by decide +kernel
theorem dK4_enter_25 : decode cK4_enter 25 = .ok (.putfield 31, 3) := by decide +kernel
theorem dK4_enter_28 : decode cK4_enter 28 = .ok (.aload_n 3, 1) := by decide +kernel
theorem dK4_enter_29 : decode cK4_enter 29 = .ok (.aload_n 1, 1) := by decide +kernel
theorem dK4_enter_30 : decode cK4_enter 30 = .ok (.getfield 32, 3) := by decide +kernel
theorem dK4_enter_33 : decode cK4_enter 33 = .ok (.putfield 35, 3) := by decide +kernel
theorem dK4_enter_36 : decode cK4_enter 36 = .ok (.aload_n 3, 1) := by decide +kernel
theorem dK4_enter_37 : decode cK4_enter 37 = .ok (.aload_n 1, 1) := by decide +kernel
theorem dK4_enter_38 : decode cK4_enter 38 = .ok (.getfield 38, 3) := by decide +kernel
theorem dK4_enter_41 : decode cK4_enter 41 = .ok (.putfield 41, 3) := by decide +kernel
theorem dK4_enter_44 : decode cK4_enter 44 = .ok (.aload_n 3, 1) := by decide +kernel
theorem dK4_enter_45 : decode cK4_enter 45 = .ok (.iconst 2, 1) := by decide +kernel
theorem dK4_enter_46 : decode cK4_enter 46 = .ok (.putfield 42, 3) := by decide +kernel
theorem dK4_enter_49 : decode cK4_enter 49 = .ok (.aload_n 3, 1) := by decide +kernel
theorem dK4_enter_50 : decode cK4_enter 50 = .ok (.iconst (-1), 1) := by decide +kernel
theorem dK4_enter_51 : decode cK4_enter 51 = .ok (.putfield 45, 3) := by decide +kernel
theorem dK4_enter_54 : decode cK4_enter 54 = .ok (.aload_n 0, 1) := by decide +kernel
theorem dK4_enter_55 : decode cK4_enter 55 = .ok (.dup, 1) := by decide +kernel
theorem dK4_enter_56 : decode cK4_enter 56 = .ok (.getfield 18, 3) := by decide +kernel
theorem dK4_enter_59 : decode cK4_enter 59 = .ok (.iconst 1, 1) := by decide +kernel
theorem dK4_enter_60 : decode cK4_enter 60 = .ok (.iadd, 1) := by decide +kernel
theorem dK4_enter_61 : decode cK4_enter 61 = .ok (.putfield 18, 3) := by decide +kernel
theorem dK4_enter_64 : decode cK4_enter 64 = .ok (.iload_n 2, 1) := by decide +kernel
theorem dK4_enter_65 : decode cK4_enter 65 = .ok (.ireturn, 1) := by decide +kernel
theorem dK4_firstMatch_0 : decode cK4_firstMatch 0 = .ok (.aconst_null, 1) := by decide +kernel
theorem dK4_firstMatch_1 : decode cK4_firstMatch 1 = .ok (.astore_n 3, 1) := by decide +kernel
theorem dK4_firstMatch_2 : decode cK4_firstMatch 2 = .ok (.iconst 0, 1) := by decide +kernel
theorem dK4_firstMatch_3 : decode cK4_firstMatch 3 = .ok (.istore 4, 2) := by decide +kernel
theorem dK4_firstMatch_5 : decode cK4_firstMatch 5 = .ok (.iload 4, 2) := by decide +kernel
theorem dK4_firstMatch_7 : decode cK4_firstMatch 7 = .ok (.aload_n 0, 1) := by decide +kernel
theorem dK4_firstMatch_8 : decode cK4_firstMatch 8 = .ok (.getfield 18, 3) := by decide +kernel
theorem dK4_firstMatch_11 : decode cK4_firstMatch 11 = .ok (.if_icmp .ge 51, 3) := by decide +kernel
theorem dK4_firstMatch_14 : decode cK4_firstMatch 14 = .ok (.aload_n 0, 1) := by decide +kernel
theorem dK4_firstMatch_15 : decode cK4_firstMatch 15 = .ok (.getfield 11, 3) := by decide +kernel
theorem dK4_firstMatch_18 : decode cK4_firstMatch 18 = .ok (.iload 4, 2) := by decide +kernel
theorem dK4_firstMatch_20 : decode cK4_firstMatch 20 = .ok (.aaload, 1) := by decide +kernel
theorem dK4_firstMatch_21 : decode cK4_firstMatch 21 = .ok (.astore 5, 2) := by decide +kernel
theorem dK4_firstMatch_23 : decode cK4_firstMatch 23 = .ok (.aload 5, 2) := by decide +kernel
theorem dK4_firstMatch_25 : decode cK4_firstMatch 25 = .ok (.iload_n 1, 1) := by decide +kernel
theorem dK4_firstMatch_26 : decode cK4_firstMatch 26 = .ok (.iload_n 2, 1) := by decide +kernel
theorem dK4_firstMatch_27 : decode cK4_firstMatch 27 = .ok (.invokestatic 48, 3) := by decide +kernel
theorem dK4_firstMatch_30 : decode cK4_firstMatch 30 = .ok (.ifCond .eq 26, 3) := by decide +kernel
theorem dK4_firstMatch_33 : decode cK4_firstMatch 33 = .ok (.aload_n 3, 1) := by decide +kernel
theorem dK4_firstMatch_34 : decode cK4_firstMatch 34 = .ok (.ifnull 19, 3) := by decide +kernel
theorem dK4_firstMatch_37 : decode cK4_firstMatch 37 = .ok (.iload_n 1, 1) := by decide +kernel
theorem dK4_firstMatch_38 : decode cK4_firstMatch 38 = .ok (.aload 5, 2) := by decide +kernel
theorem dK4_firstMatch_40 : decode cK4_firstMatch 40 = .ok (.getfield 41, 3) := by decide +kernel
theorem dK4_firstMatch_43 : decode cK4_firstMatch 43 = .ok (.aload_n 3, 1) := by decide +kernel
theorem dK4_firstMatch_44 : decode cK4_firstMatch 44 = .ok (.getfield 41, 3) := by decide +kernel
theorem dK4_firstMatch_47 : decode cK4_firstMatch 47 = .ok (.invokestatic 52, 3) := by decide +kernel
theorem dK4_firstMatch_50 : decode cK4_firstMatch 50 = .ok (.ifCond .eq 6, 3) := by decide +kernel
theorem dK4_firstMatch_53 : decode cK4_firstMatch 53 = .ok (.aload 5, 2) := by decide +kernel
theorem dK4_firstMatch_55 : decode cK4_firstMatch 55 = .ok (.astore_n 3, 1) := by decide +kernel
theorem dK4_firstMatch_56 : decode cK4_firstMatch 56 = .ok (.iinc 4 1, 3) := by decide +kernel
theorem dK4_firstMatch_59 : decode cK4_firstMatch 59 = .ok (.goto (-54), 3) := by decide +kernel
theorem dK4_firstMatch_62 : decode cK4_firstMatch 62 = .ok (.aload_n 3, 1) := by decide +kernel
theorem dK4_firstMatch_63 : decode cK4_firstMatch 63 = .ok (.areturn, 1) := by decide +kernel
theorem dK4_matchesOfOthers_0 : decode cK4_matchesOfOthers 0 = .ok (.iconst 0, 1) := by decide +kernel
theorem dK4_matchesOfOthers_1 : decode cK4_matchesOfOthers 1 = .ok (.istore 4, 2) := by decide +kernel
theorem dK4_matchesOfOthers_3 : decode cK4_matchesOfOthers 3 = .ok (.iconst 0, 1) := by decide +kernel
theorem dK4_matchesOfOthers_4 : decode cK4_matchesOfOthers 4 = .ok (.istore 5, 2) := by decide +kernel
theorem dK4_matchesOfOthers_6 : decode cK4_matchesOfOthers 6 = .ok (.iload 5, 2) := by decide +kernel
theorem dK4_matchesOfOthers_8 : decode cK4_matchesOfOthers 8 = .ok (.aload_n 0, 1) := by decide +kernel
theorem dK4_matchesOfOthers_9 : decode cK4_matchesOfOthers 9 = .ok (.getfield 18, 3) := by decide +kernel
theorem dK4_matchesOfOthers_12 : decode cK4_matchesOfOthers 12 = .ok (.if_icmp .ge 53, 3) := by decide +kernel
theorem dK4_matchesOfOthers_15 : decode cK4_matchesOfOthers 15 = .ok (.aload_n 0, 1) := by decide +kernel
theorem dK4_matchesOfOthers_16 : decode cK4_matchesOfOthers 16 = .ok (.getfield 11, 3) := by decide +kernel
theorem dK4_matchesOfOthers_19 : decode cK4_matchesOfOthers 19 = .ok (.iload 5, 2) := by decide +kernel
theorem dK4_matchesOfOthers_21 : decode cK4_matchesOfOthers 21 = .ok (.aaload, 1) := by decide +kernel
theorem dK4_matchesOfOthers_22 : decode cK4_matchesOfOthers 22 = .ok (.getfield 27, 3) := by decide +kernel
theorem dK4_matchesOfOthers_25 : decode cK4_matchesOfOthers 25 = .ok (.iload_n 3, 1) := by decide +kernel
theorem dK4_matchesOfOthers_26 : decode cK4_matchesOfOthers 26 = .ok (.if_icmp .eq 33, 3) := by decide +kernel
theorem dK4_matchesOfOthers_29 : decode cK4_matchesOfOthers 29 = .ok (.aload_n 0, 1) := by decide +kernel
theorem dK4_matchesOfOthers_30 : decode cK4_matchesOfOthers 30 = .ok (.getfield 11, 3) := by decide +kernel
theorem dK4_matchesOfOthers_33 : decode cK4_matchesOfOthers 33 = .ok (.iload 5, 2) := by decide +kernel
theorem dK4_matchesOfOthers_35 : decode cK4_matchesOfOthers 35 = .ok (.aaload, 1) := by decide +kernel
theorem dK4_matchesOfOthers_36 : decode cK4_matchesOfOthers 36 = .ok (.iload_n 1, 1) := by decide +kernel
theorem dK4_matchesOfOthers_37 : decode cK4_matchesOfOthers 37 = .ok (.iload_n 2, 1) := by decide +kernel
theorem dK4_matchesOfOthers_38 : decode cK4_matchesOfOthers 38 = .ok (.invokestatic 48, 3) := by decide +kernel
theorem dK4_matchesOfOthers_41 : decode cK4_matchesOfOthers 41 = .ok (.ifCond .eq 18, 3) := by decide +kernel
theorem dK4_matchesOfOthers_44 : decode cK4_matchesOfOthers 44 = .ok (.iload 4, 2) := by decide +kernel
theorem dK4_matchesOfOthers_46 : decode cK4_matchesOfOthers 46 = .ok (.aload_n 0, 1) := by decide +kernel
theorem dK4_matchesOfOthers_47 : decode cK4_matchesOfOthers 47 = .ok (.getfield 11, 3) := by decide +kernel
theorem dK4_matchesOfOthers_50 : decode cK4_matchesOfOthers 50 = .ok (.iload 5, 2) := by decide +kernel
theorem dK4_matchesOfOthers_52 : decode cK4_matchesOfOthers 52 = .ok (.aaload, 1) := by decide +kernel
theorem dK4_matchesOfOthers_53 : decode cK4_matchesOfOthers 53 = .ok (.getfield 35, 3) := by decide +kernel
theorem dK4_matchesOfOthers_56 : decode cK4_matchesOfOthers 56 = .ok (.iadd, 1) := by decide +kernel
theorem dK4_matchesOfOthers_57 : decode cK4_matchesOfOthers 57 = .ok (.istore 4, 2) := by decide +kernel
theorem dK4_matchesOfOthers_59 : decode cK4_matchesOfOthers 59 = .ok (.iinc 5 1, 3) := by decide +kernel
theorem dK4_matchesOfOthers_62 : decode cK4_matchesOfOthers 62 = .ok (.goto (-56), 3) := by decide +kernel
theorem dK4_matchesOfOthers_65 : decode cK4_matchesOfOthers 65 = .ok (.iload 4, 2) := by decide +kernel
theorem dK4_matchesOfOthers_67 : decode cK4_matchesOfOthers 67 = .ok (.ireturn, 1) := by decide +kernel
theorem dK4_isMatch_0 : decode cK4_isMatch 0 = .ok (.aload_n 0, 1) := by decide +kernel
theorem dK4_isMatch_1 : decode cK4_isMatch 1 = .ok (.iload_n 1, 1) := by decide +kernel
theorem dK4_isMatch_2 : decode cK4_isMatch 2 = .ok (.invokestatic 56, 3) := by decide +kernel
theorem dK4_isMatch_5 : decode cK4_isMatch 5 = .ok (.ifCond .eq 23, 3) := by decide +kernel
theorem dK4_isMatch_8 : decode cK4_isMatch 8 = .ok (.iload_n 2, 1) := by decide +kernel
theorem dK4_isMatch_9 : decode cK4_isMatch 9 = .ok (.ifCond .eq 15, 3) := by decide +kernel
theorem dK4_isMatch_12 : decode cK4_isMatch 12 = .ok (.iload_n 1, 1) := by decide +kernel
theorem dK4_isMatch_13 : decode cK4_isMatch 13 = .ok (.iload_n 2, 1) := by decide +kernel
theorem dK4_isMatch_14 : decode cK4_isMatch 14 = .ok (.aload_n 0, 1) := by decide +kernel
theorem dK4_isMatch_15 : decode cK4_isMatch 15 = .ok (.getfield 41, 3) := by decide +kernel
theorem dK4_isMatch_18 : decode cK4_isMatch 18 = .ok (.invokestatic 52, 3) := by decide +kernel
theorem dK4_isMatch_21 : decode cK4_isMatch 21 = .ok (.ifCond .ne 7, 3) := by decide +kernel
theorem dK4_isMatch_24 : decode cK4_isMatch 24 = .ok (.iconst 1, 1) := by decide +kernel
theorem dK4_isMatch_25 : decode cK4_isMatch 25 = .ok (.goto 4, 3) := by decide +kernel
theorem dK4_isMatch_28 : decode cK4_isMatch 28 = .ok (.iconst 0, 1) := by decide +kernel
theorem dK4_isMatch_29 : decode cK4_isMatch 29 = .ok (.ireturn, 1) := by decide +kernel
theorem dK4_isInBook_0 : decode cK4_isInBook 0 = .ok (.aload_n 0, 1) := by decide +kernel
theorem dK4_isInBook_1 : decode cK4_isInBook 1 = .ok (.getfield 42, 3) := by decide +kernel
theorem dK4_isInBook_4 : decode cK4_isInBook 4 = .ok (.ifCond .ne 15, 3) := by decide +kernel
theorem dK4_isInBook_7 : decode cK4_isInBook 7 = .ok (.aload_n 0, 1) := by decide +kernel
theorem dK4_isInBook_8 : decode cK4_isInBook 8 = .ok (.getfield 31, 3) := by decide +kernel
theorem dK4_isInBook_11 : decode cK4_isInBook 11 = .ok (.iload_n 1, 1) := by decide +kernel
theorem dK4_isInBook_12 : decode cK4_isInBook 12 = .ok (.if_icmp .ne 7, 3) := by decide +kernel
theorem dK4_isInBook_15 : decode cK4_isInBook 15 = .ok (.iconst 1, 1) := by decide +kernel
theorem dK4_isInBook_16 : decode cK4_isInBook 16 = .ok (.goto 4, 3) := by decide +kernel
theorem dK4_isInBook_19 : decode cK4_isInBook 19 = .ok (.iconst 0, 1) := by decide +kernel
theorem dK4_isInBook_20 : decode cK4_isInBook 20 = .ok (.ireturn, 1) := by decide +kernel
theorem dK4_isBetter_0 : decode cK4_isBetter 0 = .ok (.iload_n 0, 1) := by decide +kernel
theorem dK4_isBetter_1 : decode cK4_isBetter 1 = .ok (.iconst 1, 1) := by decide +kernel
theorem dK4_isBetter_2 : decode cK4_isBetter 2 = .ok (.if_icmp .ne 16, 3) := by decide +kernel
theorem dK4_isBetter_5 : decode cK4_isBetter 5 = .ok (.iload_n 1, 1) := by decide +kernel
theorem dK4_isBetter_6 : decode cK4_isBetter 6 = .ok (.iload_n 2, 1) := by decide +kernel
theorem dK4_isBetter_7 : decode cK4_isBetter 7 = .ok (.if_icmp .ge 7, 3) := by decide +kernel
theorem dK4_isBetter_10 : decode cK4_isBetter 10 = .ok (.iconst 1, 1) := by decide +kernel
theorem dK4_isBetter_11 : decode cK4_isBetter 11 = .ok (.goto 17, 3) := by decide +kernel
theorem dK4_isBetter_14 : decode cK4_isBetter 14 = .ok (.iconst 0, 1) := by decide +kernel
theorem dK4_isBetter_15 : decode cK4_isBetter 15 = .ok (.goto 13, 3) := by decide +kernel
theorem dK4_isBetter_18 : decode cK4_isBetter 18 = .ok (.iload_n 1, 1) := by decide +kernel
theorem dK4_isBetter_19 : decode cK4_isBetter 19 = .ok (.iload_n 2, 1) := by decide +kernel
theorem dK4_isBetter_20 : decode cK4_isBetter 20 = .ok (.if_icmp .le 7, 3) := by decide +kernel
theorem dK4_isBetter_23 : decode cK4_isBetter 23 = .ok (.iconst 1, 1) := by decide +kernel
theorem dK4_isBetter_24 : decode cK4_isBetter 24 = .ok (.goto 4, 3) := by decide +kernel
theorem dK4_isBetter_27 : decode cK4_isBetter 27 = .ok (.iconst 0, 1) := by decide +kernel
theorem dK4_isBetter_28 : decode cK4_isBetter 28 = .ok (.ireturn, 1) := by decide +kernel
theorem dK4_firstWakingStop_0 : decode cK4_firstWakingStop 0 = .ok (.iconst 0, 1) := by decide +kernel
theorem dK4_firstWakingStop_1 : decode cK4_firstWakingStop 1 = .ok (.istore_n 2, 1) := by decide +kernel
theorem dK4_firstWakingStop_2 : decode cK4_firstWakingStop 2 = .ok (.iload_n 2, 1) := by decide +kernel
theorem dK4_firstWakingStop_3 : decode cK4_firstWakingStop 3 = .ok (.aload_n 0, 1) := by decide +kernel
theorem dK4_firstWakingStop_4 : decode cK4_firstWakingStop 4 = .ok (.getfield 18, 3) := by decide +kernel
theorem dK4_firstWakingStop_7 : decode cK4_firstWakingStop 7 = .ok (.if_icmp .ge 42, 3) := by decide +kernel
theorem dK4_firstWakingStop_10 : decode cK4_firstWakingStop 10 = .ok (.aload_n 0, 1) := by decide +kernel
theorem dK4_firstWakingStop_11 : decode cK4_firstWakingStop 11 = .ok (.getfield 11, 3) := by decide +kernel
theorem dK4_firstWakingStop_14 : decode cK4_firstWakingStop 14 = .ok (.iload_n 2, 1) := by decide +kernel
theorem dK4_firstWakingStop_15 : decode cK4_firstWakingStop 15 = .ok (.aaload, 1) := by decide +kernel
theorem dK4_firstWakingStop_16 : decode cK4_firstWakingStop 16 = .ok (.getfield 42, 3) := by decide +kernel
theorem dK4_firstWakingStop_19 : decode cK4_firstWakingStop 19 = .ok (.iconst 1, 1) := by decide +kernel
theorem dK4_firstWakingStop_20 : decode cK4_firstWakingStop 20 = .ok (.if_icmp .ne 23, 3) := by decide +kernel
theorem dK4_firstWakingStop_23 : decode cK4_firstWakingStop 23 = .ok (.aload_n 0, 1) := by decide +kernel
theorem dK4_firstWakingStop_24 : decode cK4_firstWakingStop 24 = .ok (.getfield 11, 3) := by decide +kernel
theorem dK4_firstWakingStop_27 : decode cK4_firstWakingStop 27 = .ok (.iload_n 2, 1) := by decide +kernel
theorem dK4_firstWakingStop_28 : decode cK4_firstWakingStop 28 = .ok (.aaload, 1) := by decide +kernel
theorem dK4_firstWakingStop_29 : decode cK4_firstWakingStop 29 = .ok (.iload_n 1, 1) := by decide +kernel
theorem dK4_firstWakingStop_30 : decode cK4_firstWakingStop 30 = .ok (.invokestatic 60, 3) := by decide +kernel
theorem dK4_firstWakingStop_33 : decode cK4_firstWakingStop 33 = .ok (.ifCond .eq 10, 3) := by decide +kernel
theorem dK4_firstWakingStop_36 : decode cK4_firstWakingStop 36 = .ok (.aload_n 0, 1) := by decide +kernel
theorem dK4_firstWakingStop_37 : decode cK4_firstWakingStop 37 = .ok (.getfield 11, 3) := by decide +kernel
theorem dK4_firstWakingStop_40 : decode cK4_firstWakingStop 40 = .ok (.iload_n 2, 1) := by decide +kernel
theorem dK4_firstWakingStop_41 : decode cK4_firstWakingStop 41 = .ok (.aaload, 1) := by decide +kernel
theorem dK4_firstWakingStop_42 : decode cK4_firstWakingStop 42 = .ok (.areturn, 1) := by decide +kernel
theorem dK4_firstWakingStop_43 : decode cK4_firstWakingStop 43 = .ok (.iinc 2 1, 3) := by decide +kernel
theorem dK4_firstWakingStop_46 : decode cK4_firstWakingStop 46 = .ok (.goto (-44), 3) := by decide +kernel
theorem dK4_firstWakingStop_49 : decode cK4_firstWakingStop 49 = .ok (.aconst_null, 1) := by decide +kernel
theorem dK4_firstWakingStop_50 : decode cK4_firstWakingStop 50 = .ok (.areturn, 1) := by decide +kernel
theorem dK4_wakes_0 : decode cK4_wakes 0 = .ok (.iload_n 1, 1) := by decide +kernel
theorem dK4_wakes_1 : decode cK4_wakes 1 = .ok (.ifCond .eq 33, 3) := by decide +kernel
theorem dK4_wakes_4 : decode cK4_wakes 4 = .ok (.aload_n 0, 1) := by decide +kernel
theorem dK4_wakes_5 : decode cK4_wakes 5 = .ok (.getfield 31, 3) := by decide +kernel
theorem dK4_wakes_8 : decode cK4_wakes 8 = .ok (.ifCond .ne 14, 3) := by decide +kernel
theorem dK4_wakes_11 : decode cK4_wakes 11 = .ok (.iload_n 1, 1) := by decide +kernel
theorem dK4_wakes_12 : decode cK4_wakes 12 = .ok (.aload_n 0, 1) := by decide +kernel
theorem dK4_wakes_13 : decode cK4_wakes 13 = .ok (.getfield 41, 3) := by decide +kernel
theorem dK4_wakes_16 : decode cK4_wakes 16 = .ok (.if_icmp .lt 18, 3) := by decide +kernel
theorem dK4_wakes_19 : decode cK4_wakes 19 = .ok (.goto 11, 3) := by decide +kernel
theorem dK4_wakes_22 : decode cK4_wakes 22 = .ok (.iload_n 1, 1) := by decide +kernel
theorem dK4_wakes_23 : decode cK4_wakes 23 = .ok (.aload_n 0, 1) := by decide +kernel
theorem dK4_wakes_24 : decode cK4_wakes 24 = .ok (.getfield 41, 3) := by decide +kernel
theorem dK4_wakes_27 : decode cK4_wakes 27 = .ok (.if_icmp .gt 7, 3) := by decide +kernel
theorem dK4_wakes_30 : decode cK4_wakes 30 = .ok (.iconst 1, 1) := by decide +kernel
theorem dK4_wakes_31 : decode cK4_wakes 31 = .ok (.goto 4, 3) := by decide +kernel
theorem dK4_wakes_34 : decode cK4_wakes 34 = .ok (.iconst 0, 1) := by decide +kernel
theorem dK4_wakes_35 : decode cK4_wakes 35 = .ok (.ireturn, 1) := by decide +kernel
theorem dK4_waitingOf_0 : decode cK4_waitingOf 0 = .ok (.iconst 0, 1) := by decide +kernel
theorem dK4_waitingOf_1 : decode cK4_waitingOf 1 = .ok (.istore_n 2, 1) := by decide +kernel
theorem dK4_waitingOf_2 : decode cK4_waitingOf 2 = .ok (.iconst 0, 1) := by decide +kernel
theorem dK4_waitingOf_3 : decode cK4_waitingOf 3 = .ok (.istore_n 3, 1) := by decide +kernel
theorem dK4_waitingOf_4 : decode cK4_waitingOf 4 = .ok (.iload_n 3, 1) := by decide +kernel
theorem dK4_waitingOf_5 : decode cK4_waitingOf 5 = .ok (.aload_n 0, 1) := by decide +kernel
theorem dK4_waitingOf_6 : decode cK4_waitingOf 6 = .ok (.getfield 18, 3) := by decide +kernel
theorem dK4_waitingOf_9 : decode cK4_waitingOf 9 = .ok (.if_icmp .ge 38, 3) := by decide +kernel
theorem dK4_waitingOf_12 : decode cK4_waitingOf 12 = .ok (.aload_n 0, 1) := by decide +kernel
theorem dK4_waitingOf_13 : decode cK4_waitingOf 13 = .ok (.getfield 11, 3) := by decide +kernel
theorem dK4_waitingOf_16 : decode cK4_waitingOf 16 = .ok (.iload_n 3, 1) := by decide +kernel
theorem dK4_waitingOf_17 : decode cK4_waitingOf 17 = .ok (.aaload, 1) := by decide +kernel
theorem dK4_waitingOf_18 : decode cK4_waitingOf 18 = .ok (.getfield 27, 3) := by decide +kernel
theorem dK4_waitingOf_21 : decode cK4_waitingOf 21 = .ok (.iload_n 1, 1) := by decide +kernel
theorem dK4_waitingOf_22 : decode cK4_waitingOf 22 = .ok (.if_icmp .ne 19, 3) := by decide +kernel
theorem dK4_waitingOf_25 : decode cK4_waitingOf 25 = .ok (.aload_n 0, 1) := by decide +kernel
theorem dK4_waitingOf_26 : decode cK4_waitingOf 26 = .ok (.getfield 11, 3) := by decide +kernel
theorem dK4_waitingOf_29 : decode cK4_waitingOf 29 = .ok (.iload_n 3, 1) := by decide +kernel
theorem dK4_waitingOf_30 : decode cK4_waitingOf 30 = .ok (.aaload, 1) := by decide +kernel
theorem dK4_waitingOf_31 : decode cK4_waitingOf 31 = .ok (.getfield 42, 3) := by decide +kernel
theorem dK4_waitingOf_34 : decode cK4_waitingOf 34 = .ok (.iconst 2, 1) := by decide +kernel
theorem dK4_waitingOf_35 : decode cK4_waitingOf 35 = .ok (.if_icmp .eq 6, 3) := by decide +kernel
theorem dK4_waitingOf_38 : decode cK4_waitingOf 38 = .ok (.iinc 2 1, 3) := by decide +kernel
theorem dK4_waitingOf_41 : decode cK4_waitingOf 41 = .ok (.iinc 3 1, 3) := by decide +kernel
theorem dK4_waitingOf_44 : decode cK4_waitingOf 44 = .ok (.goto (-40), 3) := by decide +kernel
theorem dK4_waitingOf_47 : decode cK4_waitingOf 47 = .ok (.iload_n 2, 1) := by decide +kernel
theorem dK4_waitingOf_48 : decode cK4_waitingOf 48 = .ok (.ireturn, 1) := by decide +kernel
theorem dK4_sleepingStops_0 : decode cK4_sleepingStops 0 = .ok (.iconst 0, 1) := by decide +kernel
theorem dK4_sleepingStops_1 : decode cK4_sleepingStops 1 = .ok (.istore_n 1, 1) := by decide +kernel
theorem dK4_sleepingStops_2 : decode cK4_sleepingStops 2 = .ok (.iconst 0, 1) := by decide +kernel
theorem dK4_sleepingStops_3 : decode cK4_sleepingStops 3 = .ok (.istore_n 2, 1) := by decide +kernel
theorem dK4_sleepingStops_4 : decode cK4_sleepingStops 4 = .ok (.iload_n 2, 1) := by decide +kernel
theorem dK4_sleepingStops_5 : decode cK4_sleepingStops 5 = .ok (.aload_n 0, 1) := by decide +kernel
theorem dK4_sleepingStops_6 : decode cK4_sleepingStops 6 = .ok (.getfield 18, 3) := by decide +kernel
theorem dK4_sleepingStops_9 : decode cK4_sleepingStops 9 = .ok (.if_icmp .ge 25, 3) := by decide +kernel
theorem dK4_sleepingStops_12 : decode cK4_sleepingStops 12 = .ok (.aload_n 0, 1) := by decide +kernel
theorem dK4_sleepingStops_13 : decode cK4_sleepingStops 13 = .ok (.getfield 11, 3) := by decide +kernel
theorem dK4_sleepingStops_16 : decode cK4_sleepingStops 16 = .ok (.iload_n 2, 1) := by decide +kernel
theorem dK4_sleepingStops_17 : decode cK4_sleepingStops 17 = .ok (.aaload, 1) := by decide +kernel
theorem dK4_sleepingStops_18 : decode cK4_sleepingStops 18 = .ok (.getfield 42, 3) := by decide +kernel
theorem dK4_sleepingStops_21 : decode cK4_sleepingStops 21 = .ok (.iconst 1, 1) := by decide +kernel
theorem dK4_sleepingStops_22 : decode cK4_sleepingStops 22 = .ok (.if_icmp .ne 6, 3) := by decide +kernel
theorem dK4_sleepingStops_25 : decode cK4_sleepingStops 25 = .ok (.iinc 1 1, 3) := by decide +kernel
theorem dK4_sleepingStops_28 : decode cK4_sleepingStops 28 = .ok (.iinc 2 1, 3) := by decide +kernel
theorem dK4_sleepingStops_31 : decode cK4_sleepingStops 31 = .ok (.goto (-27), 3) := by decide +kernel
theorem dK4_sleepingStops_34 : decode cK4_sleepingStops 34 = .ok (.iload_n 1, 1) := by decide +kernel
theorem dK4_sleepingStops_35 : decode cK4_sleepingStops 35 = .ok (.ireturn, 1) := by decide +kernel
theorem dK4_priceAt_0 : decode cK4_priceAt 0 = .ok (.iload_n 2, 1) := by decide +kernel
theorem dK4_priceAt_1 : decode cK4_priceAt 1 = .ok (.ifCond .lt 9, 3) := by decide +kernel
theorem dK4_priceAt_4 : decode cK4_priceAt 4 = .ok (.iload_n 2, 1) := by decide +kernel
theorem dK4_priceAt_5 : decode cK4_priceAt 5 = .ok (.bipush 40, 2) := by decide +kernel
theorem dK4_priceAt_7 : decode cK4_priceAt 7 = .ok (.if_icmp .lt 5, 3) := by decide +kernel
theorem dK4_priceAt_10 : decode cK4_priceAt 10 = .ok (.iconst (-1), 1) := by decide +kernel
theorem dK4_priceAt_11 : decode cK4_priceAt 11 = .ok (.ireturn, 1) := by decide +kernel
theorem dK4_priceAt_12 : decode cK4_priceAt 12 = .ok (.aload_n 0, 1) := by decide +kernel
theorem dK4_priceAt_13 : decode cK4_priceAt 13 = .ok (.iload_n 1, 1) := by decide +kernel
theorem dK4_priceAt_14 : decode cK4_priceAt 14 = .ok (.iconst (-1), 1) := by decide +kernel
theorem dK4_priceAt_15 : decode cK4_priceAt 15 = .ok (.invokevirtual 63, 3) := by decide +kernel
theorem dK4_priceAt_18 : decode cK4_priceAt 18 = .ok (.istore_n 3, 1) := by decide +kernel
theorem dK4_priceAt_19 : decode cK4_priceAt 19 = .ok (.iconst 0, 1) := by decide +kernel
theorem dK4_priceAt_20 : decode cK4_priceAt 20 = .ok (.istore 4, 2) := by decide +kernel
theorem dK4_priceAt_22 : decode cK4_priceAt 22 = .ok (.iload 4, 2) := by decide +kernel
theorem dK4_priceAt_24 : decode cK4_priceAt 24 = .ok (.iload_n 2, 1) := by decide +kernel
theorem dK4_priceAt_25 : decode cK4_priceAt 25 = .ok (.if_icmp .ge 21, 3) := by decide +kernel
theorem dK4_priceAt_28 : decode cK4_priceAt 28 = .ok (.iload_n 3, 1) := by decide +kernel
theorem dK4_priceAt_29 : decode cK4_priceAt 29 = .ok (.iconst (-1), 1) := by decide +kernel
theorem dK4_priceAt_30 : decode cK4_priceAt 30 = .ok (.if_icmp .eq 16, 3) := by decide +kernel
theorem dK4_priceAt_33 : decode cK4_priceAt 33 = .ok (.aload_n 0, 1) := by decide +kernel
theorem dK4_priceAt_34 : decode cK4_priceAt 34 = .ok (.iload_n 1, 1) := by decide +kernel
theorem dK4_priceAt_35 : decode cK4_priceAt 35 = .ok (.iload_n 3, 1) := by decide +kernel
theorem dK4_priceAt_36 : decode cK4_priceAt 36 = .ok (.invokevirtual 63, 3) := by decide +kernel
theorem dK4_priceAt_39 : decode cK4_priceAt 39 = .ok (.istore_n 3, 1) := by decide +kernel
theorem dK4_priceAt_40 : decode cK4_priceAt 40 = .ok (.iinc 4 1, 3) := by decide +kernel
theorem dK4_priceAt_43 : decode cK4_priceAt 43 = .ok (.goto (-21), 3) := by decide +kernel
theorem dK4_priceAt_46 : decode cK4_priceAt 46 = .ok (.iload_n 3, 1) := by decide +kernel
theorem dK4_priceAt_47 : decode cK4_priceAt 47 = .ok (.ireturn, 1) := by decide +kernel
theorem dK4_nextPrice_0 : decode cK4_nextPrice 0 = .ok (.iconst (-1), 1) := by decide +kernel
theorem dK4_nextPrice_1 : decode cK4_nextPrice 1 = .ok (.istore_n 3, 1) := by decide +kernel
theorem dK4_nextPrice_2 : decode cK4_nextPrice 2 = .ok (.iconst 0, 1) := by decide +kernel
theorem dK4_nextPrice_3 : decode cK4_nextPrice 3 = .ok (.istore 4, 2) := by decide +kernel
theorem dK4_nextPrice_5 : decode cK4_nextPrice 5 = .ok (.iload 4, 2) := by decide +kernel
theorem dK4_nextPrice_7 : decode cK4_nextPrice 7 = .ok (.aload_n 0, 1) := by decide +kernel
theorem dK4_nextPrice_8 : decode cK4_nextPrice 8 = .ok (.getfield 18, 3) := by decide +kernel
theorem dK4_nextPrice_11 : decode cK4_nextPrice 11 = .ok (.if_icmp .ge 80, 3) := by decide +kernel
theorem dK4_nextPrice_14 : decode cK4_nextPrice 14 = .ok (.aload_n 0, 1) := by decide +kernel
theorem dK4_nextPrice_15 : decode cK4_nextPrice 15 = .ok (.getfield 11, 3) := by decide +kernel
theorem dK4_nextPrice_18 : decode cK4_nextPrice 18 = .ok (.iload 4, 2) := by decide +kernel
theorem dK4_nextPrice_20 : decode cK4_nextPrice 20 = .ok (.aaload, 1) := by decide +kernel
theorem dK4_nextPrice_21 : decode cK4_nextPrice 21 = .ok (.getfield 41, 3) := by decide +kernel
theorem dK4_nextPrice_24 : decode cK4_nextPrice 24 = .ok (.istore 5, 2) := by decide +kernel
theorem dK4_nextPrice_26 : decode cK4_nextPrice 26 = .ok (.iload_n 2, 1) := by decide +kernel
theorem dK4_nextPrice_27 : decode cK4_nextPrice 27 = .ok (.iconst (-1), 1) := by decide +kernel
theorem dK4_nextPrice_28 : decode cK4_nextPrice 28 = .ok (.if_icmp .eq 13, 3) := by decide +kernel
theorem dK4_nextPrice_31 : decode cK4_nextPrice 31 = .ok (.iload_n 1, 1) := by decide +kernel
theorem dK4_nextPrice_32 : decode cK4_nextPrice 32 = .ok (.iload_n 2, 1) := by decide +kernel
theorem dK4_nextPrice_33 : decode cK4_nextPrice 33 = .ok (.iload 5, 2) := by decide +kernel
theorem dK4_nextPrice_35 : decode cK4_nextPrice 35 = .ok (.invokestatic 52, 3) := by decide +kernel
theorem dK4_nextPrice_38 : decode cK4_nextPrice 38 = .ok (.ifCond .eq 7, 3) := by decide +kernel
theorem dK4_nextPrice_41 : decode cK4_nextPrice 41 = .ok (.iconst 1, 1) := by decide +kernel
theorem dK4_nextPrice_42 : decode cK4_nextPrice 42 = .ok (.goto 4, 3) := by decide +kernel
theorem dK4_nextPrice_45 : decode cK4_nextPrice 45 = .ok (.iconst 0, 1) := by decide +kernel
theorem dK4_nextPrice_46 : decode cK4_nextPrice 46 = .ok (.istore 6, 2) := by decide +kernel
theorem dK4_nextPrice_48 : decode cK4_nextPrice 48 = .ok (.aload_n 0, 1) := by decide +kernel
theorem dK4_nextPrice_49 : decode cK4_nextPrice 49 = .ok (.getfield 11, 3) := by decide +kernel
theorem dK4_nextPrice_52 : decode cK4_nextPrice 52 = .ok (.iload 4, 2) := by decide +kernel
theorem dK4_nextPrice_54 : decode cK4_nextPrice 54 = .ok (.aaload, 1) := by decide +kernel
theorem dK4_nextPrice_55 : decode cK4_nextPrice 55 = .ok (.iload_n 1, 1) := by decide +kernel
theorem dK4_nextPrice_56 : decode cK4_nextPrice 56 = .ok (.invokestatic 56, 3) := by decide +kernel
theorem dK4_nextPrice_59 : decode cK4_nextPrice 59 = .ok (.ifCond .eq 26, 3) := by decide +kernel
theorem dK4_nextPrice_62 : decode cK4_nextPrice 62 = .ok (.iload 6, 2) := by decide +kernel
theorem dK4_nextPrice_64 : decode cK4_nextPrice 64 = .ok (.ifCond .eq 21, 3) := by decide +kernel
theorem dK4_nextPrice_67 : decode cK4_nextPrice 67 = .ok (.iload_n 3, 1) := by decide +kernel
theorem dK4_nextPrice_68 : decode cK4_nextPrice 68 = .ok (.iconst (-1), 1) := by decide +kernel
theorem dK4_nextPrice_69 : decode cK4_nextPrice 69 = .ok (.if_icmp .eq 13, 3) := by decide +kernel
theorem dK4_nextPrice_72 : decode cK4_nextPrice 72 = .ok (.iload_n 1, 1) := by decide +kernel
theorem dK4_nextPrice_73 : decode cK4_nextPrice 73 = .ok (.iload 5, 2) := by decide +kernel
theorem dK4_nextPrice_75 : decode cK4_nextPrice 75 = .ok (.iload_n 3, 1) := by decide +kernel
theorem dK4_nextPrice_76 : decode cK4_nextPrice 76 = .ok (.invokestatic 52, 3) := by decide +kernel
theorem dK4_nextPrice_79 : decode cK4_nextPrice 79 = .ok (.ifCond .eq 6, 3) := by decide +kernel
theorem dK4_nextPrice_82 : decode cK4_nextPrice 82 = .ok (.iload 5, 2) := by decide +kernel
theorem dK4_nextPrice_84 : decode cK4_nextPrice 84 = .ok (.istore_n 3, 1) := by decide +kernel
theorem dK4_nextPrice_85 : decode cK4_nextPrice 85 = .ok (.iinc 4 1, 3) := by decide +kernel
theorem dK4_nextPrice_88 : decode cK4_nextPrice 88 = .ok (.goto (-83), 3) := by decide +kernel
theorem dK4_nextPrice_91 : decode cK4_nextPrice 91 = .ok (.iload_n 3, 1) := by decide +kernel
theorem dK4_nextPrice_92 : decode cK4_nextPrice 92 = .ok (.ireturn, 1) := by decide +kernel
theorem dK4_leftAt_0 : decode cK4_leftAt 0 = .ok (.iconst 0, 1) := by decide +kernel
theorem dK4_leftAt_1 : decode cK4_leftAt 1 = .ok (.istore_n 3, 1) := by decide +kernel
theorem dK4_leftAt_2 : decode cK4_leftAt 2 = .ok (.iconst 0, 1) := by decide +kernel
theorem dK4_leftAt_3 : decode cK4_leftAt 3 = .ok (.istore 4, 2) := by decide +kernel
theorem dK4_leftAt_5 : decode cK4_leftAt 5 = .ok (.iload 4, 2) := by decide +kernel
theorem dK4_leftAt_7 : decode cK4_leftAt 7 = .ok (.aload_n 0, 1) := by decide +kernel
theorem dK4_leftAt_8 : decode cK4_leftAt 8 = .ok (.getfield 18, 3) := by decide +kernel
theorem dK4_leftAt_11 : decode cK4_leftAt 11 = .ok (.if_icmp .ge 50, 3) := by decide +kernel
theorem dK4_leftAt_14 : decode cK4_leftAt 14 = .ok (.aload_n 0, 1) := by decide +kernel
theorem dK4_leftAt_15 : decode cK4_leftAt 15 = .ok (.getfield 11, 3) := by decide +kernel
theorem dK4_leftAt_18 : decode cK4_leftAt 18 = .ok (.iload 4, 2) := by decide +kernel
theorem dK4_leftAt_20 : decode cK4_leftAt 20 = .ok (.aaload, 1) := by decide +kernel
theorem dK4_leftAt_21 : decode cK4_leftAt 21 = .ok (.iload_n 1, 1) := by decide +kernel
theorem dK4_leftAt_22 : decode cK4_leftAt 22 = .ok (.invokestatic 56, 3) := by decide +kernel
theorem dK4_leftAt_25 : decode cK4_leftAt 25 = .ok (.ifCond .eq 30, 3) := by decide +kernel
theorem dK4_leftAt_28 : decode cK4_leftAt 28 = .ok (.aload_n 0, 1) := by decide +kernel
theorem dK4_leftAt_29 : decode cK4_leftAt 29 = .ok (.getfield 11, 3) := by decide +kernel
theorem dK4_leftAt_32 : decode cK4_leftAt 32 = .ok (.iload 4, 2) := by decide +kernel
theorem dK4_leftAt_34 : decode cK4_leftAt 34 = .ok (.aaload, 1) := by decide +kernel
theorem dK4_leftAt_35 : decode cK4_leftAt 35 = .ok (.getfield 41, 3) := by decide +kernel
theorem dK4_leftAt_38 : decode cK4_leftAt 38 = .ok (.iload_n 2, 1) := by decide +kernel
theorem dK4_leftAt_39 : decode cK4_leftAt 39 = .ok (.if_icmp .ne 16, 3) := by decide +kernel
theorem dK4_leftAt_42 : decode cK4_leftAt 42 = .ok (.iload_n 3, 1) := by decide +kernel
theorem dK4_leftAt_43 : decode cK4_leftAt 43 = .ok (.aload_n 0, 1) := by decide +kernel
theorem dK4_leftAt_44 : decode cK4_leftAt 44 = .ok (.getfield 11, 3) := by decide +kernel
theorem dK4_leftAt_47 : decode cK4_leftAt 47 = .ok (.iload 4, 2) := by decide +kernel
theorem dK4_leftAt_49 : decode cK4_leftAt 49 = .ok (.aaload, 1) := by decide +kernel
theorem dK4_leftAt_50 : decode cK4_leftAt 50 = .ok (.getfield 35, 3) := by decide +kernel
theorem dK4_leftAt_53 : decode cK4_leftAt 53 = .ok (.iadd, 1) := by decide +kernel
theorem dK4_leftAt_54 : decode cK4_leftAt 54 = .ok (.istore_n 3, 1) := by decide +kernel
theorem dK4_leftAt_55 : decode cK4_leftAt 55 = .ok (.iinc 4 1, 3) := by decide +kernel
theorem dK4_leftAt_58 : decode cK4_leftAt 58 = .ok (.goto (-53), 3) := by decide +kernel
theorem dK4_leftAt_61 : decode cK4_leftAt 61 = .ok (.iload_n 3, 1) := by decide +kernel
theorem dK4_leftAt_62 : decode cK4_leftAt 62 = .ok (.ireturn, 1) := by decide +kernel
theorem dK4_ordersAt_0 : decode cK4_ordersAt 0 = .ok (.iconst 0, 1) := by decide +kernel
theorem dK4_ordersAt_1 : decode cK4_ordersAt 1 = .ok (.istore_n 3, 1) := by decide +kernel
theorem dK4_ordersAt_2 : decode cK4_ordersAt 2 = .ok (.iconst 0, 1) := by decide +kernel
theorem dK4_ordersAt_3 : decode cK4_ordersAt 3 = .ok (.istore 4, 2) := by decide +kernel
theorem dK4_ordersAt_5 : decode cK4_ordersAt 5 = .ok (.iload 4, 2) := by decide +kernel
theorem dK4_ordersAt_7 : decode cK4_ordersAt 7 = .ok (.aload_n 0, 1) := by decide +kernel
theorem dK4_ordersAt_8 : decode cK4_ordersAt 8 = .ok (.getfield 18, 3) := by decide +kernel
theorem dK4_ordersAt_11 : decode cK4_ordersAt 11 = .ok (.if_icmp .ge 40, 3) := by decide +kernel
theorem dK4_ordersAt_14 : decode cK4_ordersAt 14 = .ok (.aload_n 0, 1) := by decide +kernel
theorem dK4_ordersAt_15 : decode cK4_ordersAt 15 = .ok (.getfield 11, 3) := by decide +kernel
theorem dK4_ordersAt_18 : decode cK4_ordersAt 18 = .ok (.iload 4, 2) := by decide +kernel
theorem dK4_ordersAt_20 : decode cK4_ordersAt 20 = .ok (.aaload, 1) := by decide +kernel
theorem dK4_ordersAt_21 : decode cK4_ordersAt 21 = .ok (.iload_n 1, 1) := by decide +kernel
theorem dK4_ordersAt_22 : decode cK4_ordersAt 22 = .ok (.invokestatic 56, 3) := by decide +kernel
theorem dK4_ordersAt_25 : decode cK4_ordersAt 25 = .ok (.ifCond .eq 20, 3) := by decide +kernel
theorem dK4_ordersAt_28 : decode cK4_ordersAt 28 = .ok (.aload_n 0, 1) := by decide +kernel
theorem dK4_ordersAt_29 : decode cK4_ordersAt 29 = .ok (.getfield 11, 3) := by decide +kernel
theorem dK4_ordersAt_32 : decode cK4_ordersAt 32 = .ok (.iload 4, 2) := by decide +kernel
theorem dK4_ordersAt_34 : decode cK4_ordersAt 34 = .ok (.aaload, 1) := by decide +kernel
theorem dK4_ordersAt_35 : decode cK4_ordersAt 35 = .ok (.getfield 41, 3) := by decide +kernel
theorem dK4_ordersAt_38 : decode cK4_ordersAt 38 = .ok (.iload_n 2, 1) := by decide +kernel
theorem dK4_ordersAt_39 : decode cK4_ordersAt 39 = .ok (.if_icmp .ne 6, 3) := by decide +kernel
theorem dK4_ordersAt_42 : decode cK4_ordersAt 42 = .ok (.iinc 3 1, 3) := by decide +kernel
theorem dK4_ordersAt_45 : decode cK4_ordersAt 45 = .ok (.iinc 4 1, 3) := by decide +kernel
theorem dK4_ordersAt_48 : decode cK4_ordersAt 48 = .ok (.goto (-43), 3) := by decide +kernel
theorem dK4_ordersAt_51 : decode cK4_ordersAt 51 = .ok (.iload_n 3, 1) := by decide +kernel
theorem dK4_ordersAt_52 : decode cK4_ordersAt 52 = .ok (.ireturn, 1) := by decide +kernel
theorem dK5_init_0 : decode cK5_init 0 = .ok (.aload_n 0, 1) := by decide +kernel
theorem dK5_init_1 : decode cK5_init 1 = .ok (.invokespecial 3, 3) := by decide +kernel
theorem dK5_init_4 : decode cK5_init 4 = .ok (.aload_n 0, 1) := by decide +kernel
theorem dK5_init_5 : decode cK5_init 5 = .ok (.bipush 40, 2) := by decide +kernel
theorem dK5_init_7 : decode cK5_init 7 = .ok (.newarray .int, 2) := by decide +kernel
theorem dK5_init_9 : decode cK5_init 9 = .ok (.putfield 9, 3) := by decide +kernel
theorem dK5_init_12 : decode cK5_init 12 = .ok (.aload_n 0, 1) := by decide +kernel
theorem dK5_init_13 : decode cK5_init 13 = .ok (.bipush 7, 2) := by decide +kernel
theorem dK5_init_15 : decode cK5_init 15 = .ok (.newarray .int, 2) := by decide +kernel
theorem dK5_init_17 : decode cK5_init 17 = .ok (.putfield 15, 3) := by decide +kernel
theorem dK5_init_20 : decode cK5_init 20 = .ok (.aload_n 0, 1) := by decide +kernel
theorem dK5_init_21 : decode cK5_init 21 = .ok (.bipush 7, 2) := by decide +kernel
theorem dK5_init_23 : decode cK5_init 23 = .ok (.newarray .int, 2) := by decide +kernel
theorem dK5_init_25 : decode cK5_init 25 = .ok (.putfield 18, 3) := by decide +kernel
theorem dK5_init_28 : decode cK5_init 28 = .ok (.return_, 1) := by decide +kernel
theorem dK5_add_0 : decode cK5_add 0 = .ok (.aload_n 0, 1) := by decide +kernel
theorem dK5_add_1 : decode cK5_add 1 = .ok (.getfield 21, 3) := by decide +kernel
theorem dK5_add_4 : decode cK5_add 4 = .ok (.iload_n 1, 1) := by decide +kernel
theorem dK5_add_5 : decode cK5_add 5 = .ok (.invokestatic 25, 3) := by decide +kernel
theorem dK5_add_8 : decode cK5_add 8 = .ok (.iadd, 1) := by decide +kernel
theorem dK5_add_9 : decode cK5_add 9 = .ok (.bipush 40, 2) := by decide +kernel
theorem dK5_add_11 : decode cK5_add 11 = .ok (.if_icmp .le 6, 3) := by decide +kernel
theorem dK5_add_14 : decode cK5_add 14 = .ok (.bipush (-3), 2) := by decide +kernel
theorem dK5_add_16 : decode cK5_add 16 = .ok (.ireturn, 1) := by decide +kernel
theorem dK5_add_17 : decode cK5_add 17 = .ok (.bipush 24, 2) := by decide +kernel
theorem dK5_add_19 : decode cK5_add 19 = .ok (.istore_n 2, 1) := by decide +kernel
theorem dK5_add_20 : decode cK5_add 20 = .ok (.iload_n 2, 1) := by decide +kernel
theorem dK5_add_21 : decode cK5_add 21 = .ok (.ifCond .lt 50, 3) := by decide +kernel
theorem dK5_add_24 : decode cK5_add 24 = .ok (.iload_n 1, 1) := by decide +kernel
theorem dK5_add_25 : decode cK5_add 25 = .ok (.iload_n 2, 1) := by decide +kernel
theorem dK5_add_26 : decode cK5_add 26 = .ok (.iushr, 1) := by decide +kernel
theorem dK5_add_27 : decode cK5_add 27 = .ok (.sipush 255, 3) := by decide +kernel
theorem dK5_add_30 : decode cK5_add 30 = .ok (.iand, 1) := by decide +kernel
theorem dK5_add_31 : decode cK5_add 31 = .ok (.istore_n 3, 1) := by decide +kernel
theorem dK5_add_32 : decode cK5_add 32 = .ok (.iload_n 3, 1) := by decide +kernel
theorem dK5_add_33 : decode cK5_add 33 = .ok (.ifCond .eq 32, 3) := by decide +kernel
theorem dK5_add_36 : decode cK5_add 36 = .ok (.aload_n 0, 1) := by decide +kernel
theorem dK5_add_37 : decode cK5_add 37 = .ok (.getfield 21, 3) := by decide +kernel
theorem dK5_add_40 : decode cK5_add 40 = .ok (.bipush 40, 2) := by decide +kernel
theorem dK5_add_42 : decode cK5_add 42 = .ok (.if_icmp .ge 23, 3) := by decide +kernel
theorem dK5_add_45 : decode cK5_add 45 = .ok (.aload_n 0, 1) := by decide +kernel
theorem dK5_add_46 : decode cK5_add 46 = .ok (.getfield 9, 3) := by decide +kernel
theorem dK5_add_49 : decode cK5_add 49 = .ok (.aload_n 0, 1) := by decide +kernel
theorem dK5_add_50 : decode cK5_add 50 = .ok (.getfield 21, 3) := by decide +kernel
theorem dK5_add_53 : decode cK5_add 53 = .ok (.iload_n 3, 1) := by decide +kernel
theorem dK5_add_54 : decode cK5_add 54 = .ok (.iastore, 1) := by decide +kernel
theorem dK5_add_55 : decode cK5_add 55 = .ok (.aload_n 0, 1) := by decide +kernel
theorem dK5_add_56 : decode cK5_add 56 = .ok (.dup, 1) := by decide +kernel
theorem dK5_add_57 : decode cK5_add 57 = .ok (.getfield 21, 3) := by decide +kernel
theorem dK5_add_60 : decode cK5_add 60 = .ok (.iconst 1, 1) := by decide +kernel
theorem dK5_add_61 : decode cK5_add 61 = .ok (.iadd, 1) := by decide +kernel
theorem dK5_add_62 : decode cK5_add 62 = .ok (.putfield 21, 3) := by decide +kernel
theorem dK5_add_65 : decode cK5_add 65 = .ok (.iinc 2 (-8), 3) := by decide +kernel
theorem dK5_add_68 : decode cK5_add 68 = .ok (.goto (-48), 3) := by decide +kernel
theorem dK5_add_71 : decode cK5_add 71 = .ok (.aload_n 0, 1) := by decide +kernel
theorem dK5_add_72 : decode cK5_add 72 = .ok (.getfield 21, 3) := by decide +kernel
theorem dK5_add_75 : decode cK5_add 75 = .ok (.ireturn, 1) := by decide +kernel
theorem dK5_signsOf_0 : decode cK5_signsOf 0 = .ok (.iconst 0, 1) := by decide +kernel
theorem dK5_signsOf_1 : decode cK5_signsOf 1 = .ok (.istore_n 1, 1) := by decide +kernel
theorem dK5_signsOf_2 : decode cK5_signsOf 2 = .ok (.bipush 24, 2) := by decide +kernel
theorem dK5_signsOf_4 : decode cK5_signsOf 4 = .ok (.istore_n 2, 1) := by decide +kernel
theorem dK5_signsOf_5 : decode cK5_signsOf 5 = .ok (.iload_n 2, 1) := by decide +kernel
theorem dK5_signsOf_6 : decode cK5_signsOf 6 = .ok (.ifCond .lt 22, 3) := by decide +kernel
theorem dK5_signsOf_9 : decode cK5_signsOf 9 = .ok (.iload_n 0, 1) := by decide +kernel
theorem dK5_signsOf_10 : decode cK5_signsOf 10 = .ok (.iload_n 2, 1) := by decide +kernel
theorem dK5_signsOf_11 : decode cK5_signsOf 11 = .ok (.iushr, 1) := by decide +kernel
theorem dK5_signsOf_12 : decode cK5_signsOf 12 = .ok (.sipush 255, 3) := by decide +kernel
theorem dK5_signsOf_15 : decode cK5_signsOf 15 = .ok (.iand, 1) := by decide +kernel
theorem dK5_signsOf_16 : decode cK5_signsOf 16 = .ok (.ifCond .eq 6, 3) := by decide +kernel
theorem dK5_signsOf_19 : decode cK5_signsOf 19 = .ok (.iinc 1 1, 3) := by decide +kernel
theorem dK5_signsOf_22 : decode cK5_signsOf 22 = .ok (.iinc 2 (-8), 3) := by decide +kernel
theorem dK5_signsOf_25 : decode cK5_signsOf 25 = .ok (.goto (-20), 3) := by decide +kernel
theorem dK5_signsOf_28 : decode cK5_signsOf 28 = .ok (.iload_n 1, 1) := by decide +kernel
theorem dK5_signsOf_29 : decode cK5_signsOf 29 = .ok (.ireturn, 1) := by decide +kernel
theorem dK5_clear_0 : decode cK5_clear 0 = .ok (.aload_n 0, 1) := by decide +kernel
theorem dK5_clear_1 : decode cK5_clear 1 = .ok (.iconst 0, 1) := by decide +kernel
theorem dK5_clear_2 : decode cK5_clear 2 = .ok (.putfield 21, 3) := by decide +kernel
theorem dK5_clear_5 : decode cK5_clear 5 = .ok (.return_, 1) := by decide +kernel
theorem dK5_cutIntoWords_0 : decode cK5_cutIntoWords 0 = .ok (.aload_n 0, 1) := by decide +kernel
theorem dK5_cutIntoWords_1 : decode cK5_cutIntoWords 1 = .ok (.iconst 0, 1) := by decide +kernel
theorem dK5_cutIntoWords_2 : decode cK5_cutIntoWords 2 = .ok (.putfield 29, 3) := by decide +kernel
theorem dK5_cutIntoWords_5 : decode cK5_cutIntoWords 5 = .ok (.iconst 0, 1) := by decide +kernel
theorem dK5_cutIntoWords_6 : decode cK5_cutIntoWords 6 = .ok (.istore_n 1, 1) := by decide +kernel
theorem dK5_cutIntoWords_7 : decode cK5_cutIntoWords 7 = .ok (.iconst 0, 1) := by decide +kernel
theorem dK5_cutIntoWords_8 : decode cK5_cutIntoWords 8 = .ok (.istore_n 2, 1) := by decide +kernel
theorem dK5_cutIntoWords_9 : decode cK5_cutIntoWords 9 = .ok (.iload_n 2, 1) := by decide +kernel
theorem dK5_cutIntoWords_10 : decode cK5_cutIntoWords 10 = .ok (.aload_n 0, 1) := by decide +kernel
theorem dK5_cutIntoWords_11 : decode cK5_cutIntoWords 11 = .ok (.getfield 21, 3) := by decide +kernel
theorem dK5_cutIntoWords_14 : decode cK5_cutIntoWords 14 = .ok (.if_icmp .gt 81, 3) := by decide +kernel
theorem dK5_cutIntoWords_17 : decode cK5_cutIntoWords 17 = .ok (.iload_n 2, 1) := by decide +kernel
theorem dK5_cutIntoWords_18 : decode cK5_cutIntoWords 18 = .ok (.aload_n 0, 1) := by decide +kernel
theorem dK5_cutIntoWords_19 : decode cK5_cutIntoWords 19 = .ok (.getfield 21, 3) := by decide +kernel
theorem dK5_cutIntoWords_22 : decode cK5_cutIntoWords 22 = .ok (.if_icmp .ge 17, 3) := by decide +kernel
theorem dK5_cutIntoWords_25 : decode cK5_cutIntoWords 25 = .ok (.aload_n 0, 1) := by decide +kernel
theorem dK5_cutIntoWords_26 : decode cK5_cutIntoWords 26 = .ok (.getfield 9, 3) := by decide +kernel
theorem dK5_cutIntoWords_29 : decode cK5_cutIntoWords 29 = .ok (.iload_n 2, 1) := by decide +kernel
theorem dK5_cutIntoWords_30 : decode cK5_cutIntoWords 30 = .ok (.iaload, 1) := by decide +kernel
theorem dK5_cutIntoWords_31 : decode cK5_cutIntoWords 31 = .ok (.bipush 32, 2) := by decide +kernel
theorem dK5_cutIntoWords_33 : decode cK5_cutIntoWords 33 = .ok (.if_icmp .eq 6, 3) := by decide +kernel
theorem dK5_cutIntoWords_36 : decode cK5_cutIntoWords 36 = .ok (.goto 53, 3) := by decide +kernel
theorem dK5_cutIntoWords_39 : decode cK5_cutIntoWords 39 = .ok (.iload_n 2, 1) := by decide +kernel
theorem dK5_cutIntoWords_40 : decode cK5_cutIntoWords 40 = .ok (.iload_n 1, 1) := by decide +kernel
theorem dK5_cutIntoWords_41 : decode cK5_cutIntoWords 41 = .ok (.if_icmp .eq 12, 3) := by decide +kernel
theorem dK5_cutIntoWords_44 : decode cK5_cutIntoWords 44 = .ok (.aload_n 0, 1) := by decide +kernel
theorem dK5_cutIntoWords_45 : decode cK5_cutIntoWords 45 = .ok (.getfield 29, 3) := by decide +kernel
theorem dK5_cutIntoWords_48 : decode cK5_cutIntoWords 48 = .ok (.bipush 7, 2) := by decide +kernel
theorem dK5_cutIntoWords_50 : decode cK5_cutIntoWords 50 = .ok (.if_icmp .lt 5, 3) := by decide +kernel
theorem dK5_cutIntoWords_53 : decode cK5_cutIntoWords 53 = .ok (.iconst 0, 1) := by decide +kernel
theorem dK5_cutIntoWords_54 : decode cK5_cutIntoWords 54 = .ok (.ireturn, 1) := by decide +kernel
theorem dK5_cutIntoWords_55 : decode cK5_cutIntoWords 55 = .ok (.aload_n 0, 1) := by decide +kernel
theorem dK5_cutIntoWords_56 : decode cK5_cutIntoWords 56 = .ok (.getfield 15, 3) := by decide +kernel
theorem dK5_cutIntoWords_59 : decode cK5_cutIntoWords 59 = .ok (.aload_n 0, 1) := by decide +kernel
theorem dK5_cutIntoWords_60 : decode cK5_cutIntoWords 60 = .ok (.getfield 29, 3) := by decide +kernel
theorem dK5_cutIntoWords_63 : decode cK5_cutIntoWords 63 = .ok (.iload_n 1, 1) := by decide +kernel
theorem dK5_cutIntoWords_64 : decode cK5_cutIntoWords 64 = .ok (.iastore, 1) := by decide +kernel
theorem dK5_cutIntoWords_65 : decode cK5_cutIntoWords 65 = .ok (.aload_n 0, 1) := by decide +kernel
theorem dK5_cutIntoWords_66 : decode cK5_cutIntoWords 66 = .ok (.getfield 18, 3) := by decide +kernel
theorem dK5_cutIntoWords_69 : decode cK5_cutIntoWords 69 = .ok (.aload_n 0, 1) := by decide +kernel
theorem dK5_cutIntoWords_70 : decode cK5_cutIntoWords 70 = .ok (.getfield 29, 3) := by decide +kernel
theorem dK5_cutIntoWords_73 : decode cK5_cutIntoWords 73 = .ok (.iload_n 2, 1) := by decide +kernel
theorem dK5_cutIntoWords_74 : decode cK5_cutIntoWords 74 = .ok (.iastore, 1) := by decide +kernel
theorem dK5_cutIntoWords_75 : decode cK5_cutIntoWords 75 = .ok (.aload_n 0, 1) := by decide +kernel
theorem dK5_cutIntoWords_76 : decode cK5_cutIntoWords 76 = .ok (.dup, 1) := by decide +kernel
theorem dK5_cutIntoWords_77 : decode cK5_cutIntoWords 77 = .ok (.getfield 29, 3) := by decide +kernel
theorem dK5_cutIntoWords_80 : decode cK5_cutIntoWords 80 = .ok (.iconst 1, 1) := by decide +kernel
theorem dK5_cutIntoWords_81 : decode cK5_cutIntoWords 81 = .ok (.iadd, 1) := by decide +kernel
theorem dK5_cutIntoWords_82 : decode cK5_cutIntoWords 82 = .ok (.putfield 29, 3) := by decide +kernel
theorem dK5_cutIntoWords_85 : decode cK5_cutIntoWords 85 = .ok (.iload_n 2, 1) := by decide +kernel
theorem dK5_cutIntoWords_86 : decode cK5_cutIntoWords 86 = .ok (.iconst 1, 1) := by decide +kernel
theorem dK5_cutIntoWords_87 : decode cK5_cutIntoWords 87 = .ok (.iadd, 1) := by decide +kernel
theorem dK5_cutIntoWords_88 : decode cK5_cutIntoWords 88 = .ok (.istore_n 1, 1) := by decide +kernel
theorem dK5_cutIntoWords_89 : decode cK5_cutIntoWords 89 = .ok (.iinc 2 1, 3) := by decide +kernel
theorem dK5_cutIntoWords_92 : decode cK5_cutIntoWords 92 = .ok (.goto (-83), 3) := by decide +kernel
theorem dK5_cutIntoWords_95 : decode cK5_cutIntoWords 95 = .ok (.iconst 1, 1) := by decide +kernel
theorem dK5_cutIntoWords_96 : decode cK5_cutIntoWords 96 = .ok (.ireturn, 1) := by decide +kernel
theorem dK5_says_0 : decode cK5_says 0 = .ok (.iload_n 1, 1) := by decide +kernel
theorem dK5_says_1 : decode cK5_says 1 = .ok (.ifCond .lt 31, 3) := by decide +kernel
theorem dK5_says_4 : decode cK5_says 4 = .ok (.iload_n 1, 1) := by decide +kernel
theorem dK5_says_5 : decode cK5_says 5 = .ok (.aload_n 0, 1) := by decide +kernel
theorem dK5_says_6 : decode cK5_says 6 = .ok (.getfield 29, 3) := by decide +kernel
theorem dK5_says_9 : decode cK5_says 9 = .ok (.if_icmp .ge 23, 3) := by decide +kernel
theorem dK5_says_12 : decode cK5_says 12 = .ok (.aload_n 0, 1) := by decide +kernel
theorem dK5_says_13 : decode cK5_says 13 = .ok (.getfield 18, 3) := by decide +kernel
theorem dK5_says_16 : decode cK5_says 16 = .ok (.iload_n 1, 1) := by decide +kernel
theorem dK5_says_17 : decode cK5_says 17 = .ok (.iaload, 1) := by decide +kernel
theorem dK5_says_18 : decode cK5_says 18 = .ok (.aload_n 0, 1) := by decide +kernel
theorem dK5_says_19 : decode cK5_says 19 = .ok (.getfield 15, 3) := by decide +kernel
theorem dK5_says_22 : decode cK5_says 22 = .ok (.iload_n 1, 1) := by decide +kernel
theorem dK5_says_23 : decode cK5_says 23 = .ok (.iaload, 1) := by decide +kernel
theorem dK5_says_24 : decode cK5_says 24 = .ok (.isub, 1) := by decide +kernel
theorem dK5_says_25 : decode cK5_says 25 = .ok (.aload_n 2, 1) := by decide +kernel
theorem dK5_says_26 : decode cK5_says 26 = .ok (.invokevirtual 32, 3) := by decide +kernel
theorem dK5_says_29 : decode cK5_says 29 = .ok (.if_icmp .eq 5, 3) := by decide +kernel
theorem dK5_says_32 : decode cK5_says 32 = .ok (.iconst 0, 1) := by decide +kernel
theorem dK5_says_33 : decode cK5_says 33 = .ok (.ireturn, 1) := by decide +kernel
theorem dK5_says_34 : decode cK5_says 34 = .ok (.iconst 0, 1) := by decide +kernel
theorem dK5_says_35 : decode cK5_says 35 = .ok (.istore_n 3, 1) := by decide +kernel
theorem dK5_says_36 : decode cK5_says 36 = .ok (.iload_n 3, 1) := by decide +kernel
theorem dK5_says_37 : decode cK5_says 37 = .ok (.aload_n 2, 1) := by decide +kernel
theorem dK5_says_38 : decode cK5_says 38 = .ok (.invokevirtual 32, 3) := by decide +kernel
theorem dK5_says_41 : decode cK5_says 41 = .ok (.if_icmp .ge 32, 3) := by decide +kernel
theorem dK5_says_44 : decode cK5_says 44 = .ok (.aload_n 0, 1) := by decide +kernel
theorem dK5_says_45 : decode cK5_says 45 = .ok (.getfield 9, 3) := by decide +kernel
theorem dK5_says_48 : decode cK5_says 48 = .ok (.aload_n 0, 1) := by decide +kernel
theorem dK5_says_49 : decode cK5_says 49 = .ok (.getfield 15, 3) := by decide +kernel
theorem dK5_says_52 : decode cK5_says 52 = .ok (.iload_n 1, 1) := by decide +kernel
theorem dK5_says_53 : decode cK5_says 53 = .ok (.iaload, 1) := by decide +kernel
theorem dK5_says_54 : decode cK5_says 54 = .ok (.iload_n 3, 1) := by decide +kernel
theorem dK5_says_55 : decode cK5_says 55 = .ok (.iadd, 1) := by decide +kernel
theorem dK5_says_56 : decode cK5_says 56 = .ok (.iaload, 1) := by decide +kernel
theorem dK5_says_57 : decode cK5_says 57 = .ok (.aload_n 2, 1) := by decide +kernel
theorem dK5_says_58 : decode cK5_says 58 = .ok (.iload_n 3, 1) := by decide +kernel
theorem dK5_says_59 : decode cK5_says 59 = .ok (.invokevirtual 38, 3) := by decide +kernel
theorem dK5_says_62 : decode cK5_says 62 = .ok (.if_icmp .eq 5, 3) := by decide +kernel
theorem dK5_says_65 : decode cK5_says 65 = .ok (.iconst 0, 1) := by decide +kernel
theorem dK5_says_66 : decode cK5_says 66 = .ok (.ireturn, 1) := by decide +kernel
theorem dK5_says_67 : decode cK5_says 67 = .ok (.iinc 3 1, 3) := by decide +kernel
theorem dK5_says_70 : decode cK5_says 70 = .ok (.goto (-34), 3) := by decide +kernel
theorem dK5_says_73 : decode cK5_says 73 = .ok (.iconst 1, 1) := by decide +kernel
theorem dK5_says_74 : decode cK5_says 74 = .ok (.ireturn, 1) := by decide +kernel
theorem dK5_numberFrom_0 : decode cK5_numberFrom 0 = .ok (.aload_n 0, 1) := by decide +kernel
theorem dK5_numberFrom_1 : decode cK5_numberFrom 1 = .ok (.iload_n 1, 1) := by decide +kernel
theorem dK5_numberFrom_2 : decode cK5_numberFrom 2 = .ok (.invokevirtual 42, 3) := by decide +kernel
theorem dK5_numberFrom_5 : decode cK5_numberFrom 5 = .ok (.istore 4, 2) := by decide +kernel
theorem dK5_numberFrom_7 : decode cK5_numberFrom 7 = .ok (.iload 4, 2) := by decide +kernel
theorem dK5_numberFrom_9 : decode cK5_numberFrom 9 = .ok (.iload_n 2, 1) := by decide +kernel
theorem dK5_numberFrom_10 : decode cK5_numberFrom 10 = .ok (.if_icmp .lt 14, 3) := by decide +kernel
theorem dK5_numberFrom_13 : decode cK5_numberFrom 13 = .ok (.iload 4, 2) := by decide +kernel
theorem dK5_numberFrom_15 : decode cK5_numberFrom 15 = .ok (.iload_n 3, 1) := by decide +kernel
theorem dK5_numberFrom_16 : decode cK5_numberFrom 16 = .ok (.if_icmp .gt 8, 3) := by decide +kernel
theorem dK5_numberFrom_19 : decode cK5_numberFrom 19 = .ok (.iload 4, 2) := by decide +kernel
theorem dK5_numberFrom_21 : decode cK5_numberFrom 21 = .ok (.goto 4, 3) := by decide +kernel
theorem dK5_numberFrom_24 : decode cK5_numberFrom 24 = .ok (.iconst (-1), 1) := by decide +kernel
theorem dK5_numberFrom_25 : decode cK5_numberFrom 25 = .ok (.ireturn, 1) := by decide +kernel
theorem dK5_number_0 : decode cK5_number 0 = .ok (.iload_n 1, 1) := by decide +kernel
theorem dK5_number_1 : decode cK5_number 1 = .ok (.ifCond .lt 29, 3) := by decide +kernel
theorem dK5_number_4 : decode cK5_number 4 = .ok (.iload_n 1, 1) := by decide +kernel
theorem dK5_number_5 : decode cK5_number 5 = .ok (.aload_n 0, 1) := by decide +kernel
theorem dK5_number_6 : decode cK5_number 6 = .ok (.getfield 29, 3) := by decide +kernel
theorem dK5_number_9 : decode cK5_number 9 = .ok (.if_icmp .ge 21, 3) := by decide +kernel
theorem dK5_number_12 : decode cK5_number 12 = .ok (.aload_n 0, 1) := by decide +kernel
theorem dK5_number_13 : decode cK5_number 13 = .ok (.getfield 18, 3) := by decide +kernel
theorem dK5_number_16 : decode cK5_number 16 = .ok (.iload_n 1, 1) := by decide +kernel
theorem dK5_number_17 : decode cK5_number 17 = .ok (.iaload, 1) := by decide +kernel
theorem dK5_number_18 : decode cK5_number 18 = .ok (.aload_n 0, 1) := by decide +kernel
theorem dK5_number_19 : decode cK5_number 19 = .ok (.getfield 15, 3) := by decide +kernel
theorem dK5_number_22 : decode cK5_number 22 = .ok (.iload_n 1, 1) := by decide +kernel
theorem dK5_number_23 : decode cK5_number 23 = .ok (.iaload, 1) := by decide +kernel
theorem dK5_number_24 : decode cK5_number 24 = .ok (.isub, 1) := by decide +kernel
theorem dK5_number_25 : decode cK5_number 25 = .ok (.bipush 7, 2) := by decide +kernel
theorem dK5_number_27 : decode cK5_number 27 = .ok (.if_icmp .le 5, 3) := by decide +kernel
theorem dK5_number_30 : decode cK5_number 30 = .ok (.iconst (-1), 1) := by decide +kernel
theorem dK5_number_31 : decode cK5_number 31 = .ok (.ireturn, 1) := by decide +kernel
theorem dK5_number_32 : decode cK5_number 32 = .ok (.iconst 0, 1) := by decide +kernel
theorem dK5_number_33 : decode cK5_number 33 = .ok (.istore_n 2, 1) := by decide +kernel
theorem dK5_number_34 : decode cK5_number 34 = .ok (.aload_n 0, 1) := by decide +kernel
theorem dK5_number_35 : decode cK5_number 35 = .ok (.getfield 15, 3) := by decide +kernel
theorem dK5_number_38 : decode cK5_number 38 = .ok (.iload_n 1, 1) := by decide +kernel
theorem dK5_number_39 : decode cK5_number 39 = .ok (.iaload, 1) := by decide +kernel
theorem dK5_number_40 : decode cK5_number 40 = .ok (.istore_n 3, 1) := by decide +kernel
theorem dK5_number_41 : decode cK5_number 41 = .ok (.iload_n 3, 1) := by decide +kernel
theorem dK5_number_42 : decode cK5_number 42 = .ok (.aload_n 0, 1) := by decide +kernel
theorem dK5_number_43 : decode cK5_number 43 = .ok (.getfield 18, 3) := by decide +kernel
theorem dK5_number_46 : decode cK5_number 46 = .ok (.iload_n 1, 1) := by decide +kernel
theorem dK5_number_47 : decode cK5_number 47 = .ok (.iaload, 1) := by decide +kernel
theorem dK5_number_48 : decode cK5_number 48 = .ok (.if_icmp .ge 48, 3) := by decide +kernel
theorem dK5_number_51 : decode cK5_number 51 = .ok (.aload_n 0, 1) := by decide +kernel
theorem dK5_number_52 : decode cK5_number 52 = .ok (.getfield 9, 3) := by decide +kernel
theorem dK5_number_55 : decode cK5_number 55 = .ok (.iload_n 3, 1) := by decide +kernel
theorem dK5_number_56 : decode cK5_number 56 = .ok (.iaload, 1) := by decide +kernel
theorem dK5_number_57 : decode cK5_number 57 = .ok (.bipush 48, 2) := by decide +kernel
theorem dK5_number_59 : decode cK5_number 59 = .ok (.if_icmp .lt 14, 3) := by decide +kernel
theorem dK5_number_62 : decode cK5_number 62 = .ok (.aload_n 0, 1) := by decide +kernel
theorem dK5_number_63 : decode cK5_number 63 = .ok (.getfield 9, 3) := by decide +kernel
theorem dK5_number_66 : decode cK5_number 66 = .ok (.iload_n 3, 1) := by decide +kernel
theorem dK5_number_67 : decode cK5_number 67 = .ok (.iaload, 1) := by decide +kernel
theorem dK5_number_68 : decode cK5_number 68 = .ok (.bipush 57, 2) := by decide +kernel
theorem dK5_number_70 : decode cK5_number 70 = .ok (.if_icmp .le 5, 3) := by decide +kernel
theorem dK5_number_73 : decode cK5_number 73 = .ok (.iconst (-1), 1) := by decide +kernel
theorem dK5_number_74 : decode cK5_number 74 = .ok (.ireturn, 1) := by decide +kernel
theorem dK5_number_75 : decode cK5_number 75 = .ok (.iload_n 2, 1) := by decide +kernel
theorem dK5_number_76 : decode cK5_number 76 = .ok (.bipush 10, 2) := by decide +kernel
theorem dK5_number_78 : decode cK5_number 78 = .ok (.imul, 1) := by decide +kernel
theorem dK5_number_79 : decode cK5_number 79 = .ok (.aload_n 0, 1) := by decide +kernel
theorem dK5_number_80 : decode cK5_number 80 = .ok (.getfield 9, 3) := by decide +kernel
theorem dK5_number_83 : decode cK5_number 83 = .ok (.iload_n 3, 1) := by decide +kernel
theorem dK5_number_84 : decode cK5_number 84 = .ok (.iaload, 1) := by decide +kernel
theorem dK5_number_85 : decode cK5_number 85 = .ok (.iadd, 1) := by decide +kernel
theorem dK5_number_86 : decode cK5_number 86 = .ok (.bipush 48, 2) := by decide +kernel
theorem dK5_number_88 : decode cK5_number 88 = .ok (.isub, 1) := by decide +kernel
theorem dK5_number_89 : decode cK5_number 89 = .ok (.istore_n 2, 1) := by decide +kernel
theorem dK5_number_90 : decode cK5_number 90 = .ok (.iinc 3 1, 3) := by decide +kernel
theorem dK5_number_93 : decode cK5_number 93 = .ok (.goto (-52), 3) := by decide +kernel
theorem dK5_number_96 : decode cK5_number 96 = .ok (.iload_n 2, 1) := by decide +kernel
theorem dK5_number_97 : decode cK5_number 97 = .ok (.ireturn, 1) := by decide +kernel
theorem dK6_init_0 : decode cK6_init 0 = .ok (.aload_n 0, 1) := by decide +kernel
theorem dK6_init_1 : decode cK6_init 1 = .ok (.invokespecial 3, 3) := by decide +kernel
theorem dK6_init_4 : decode cK6_init 4 = .ok (.aload_n 0, 1) := by decide +kernel
theorem dK6_init_5 : decode cK6_init 5 = .ok (.sipush 200, 3) := by decide +kernel
theorem dK6_init_8 : decode cK6_init 8 = .ok (.newarray .int, 2) := by decide +kernel
theorem dK6_init_10 : decode cK6_init 10 = .ok (.putfield 9, 3) := by decide +kernel
theorem dK6_init_13 : decode cK6_init 13 = .ok (.aload_n 0, 1) := by decide +kernel
theorem dK6_init_14 : decode cK6_init 14 = .ok (.sipush 200, 3) := by decide +kernel
theorem dK6_init_17 : decode cK6_init 17 = .ok (.newarray .int, 2) := by decide +kernel
theorem dK6_init_19 : decode cK6_init 19 = .ok (.putfield 15, 3) := by decide +kernel
theorem dK6_init_22 : decode cK6_init 22 = .ok (.aload_n 0, 1) := by decide +kernel
theorem dK6_init_23 : decode cK6_init 23 = .ok (.sipush 200, 3) := by decide +kernel
theorem dK6_init_26 : decode cK6_init 26 = .ok (.newarray .int, 2) := by decide +kernel
theorem dK6_init_28 : decode cK6_init 28 = .ok (.putfield 18, 3) := by decide +kernel
theorem dK6_init_31 : decode cK6_init 31 = .ok (.aload_n 0, 1) := by decide +kernel
theorem dK6_init_32 : decode cK6_init 32 = .ok (.sipush 200, 3) := by decide +kernel
theorem dK6_init_35 : decode cK6_init 35 = .ok (.newarray .int, 2) := by decide +kernel
theorem dK6_init_37 : decode cK6_init 37 = .ok (.putfield 21, 3) := by decide +kernel
theorem dK6_init_40 : decode cK6_init 40 = .ok (.return_, 1) := by decide +kernel
theorem dK6_add_0 : decode cK6_add 0 = .ok (.aload_n 0, 1) := by decide +kernel
theorem dK6_add_1 : decode cK6_add 1 = .ok (.getfield 24, 3) := by decide +kernel
theorem dK6_add_4 : decode cK6_add 4 = .ok (.sipush 200, 3) := by decide +kernel
theorem dK6_add_7 : decode cK6_add 7 = .ok (.irem, 1) := by decide +kernel
theorem dK6_add_8 : decode cK6_add 8 = .ok (.istore 5, 2) := by decide +kernel
theorem dK6_add_10 : decode cK6_add 10 = .ok (.aload_n 0, 1) := by decide +kernel
theorem dK6_add_11 : decode cK6_add 11 = .ok (.getfield 9, 3) := by decide +kernel
theorem dK6_add_14 : decode cK6_add 14 = .ok (.iload 5, 2) := by decide +kernel
theorem dK6_add_16 : decode cK6_add 16 = .ok (.iload_n 1, 1) := by decide +kernel
theorem dK6_add_17 : decode cK6_add 17 = .ok (.iastore, 1) := by decide +kernel
theorem dK6_add_18 : decode cK6_add 18 = .ok (.aload_n 0, 1) := by decide +kernel
theorem dK6_add_19 : decode cK6_add 19 = .ok (.getfield 15, 3) := by decide +kernel
theorem dK6_add_22 : decode cK6_add 22 = .ok (.iload 5, 2) := by decide +kernel
theorem dK6_add_24 : decode cK6_add 24 = .ok (.iload_n 2, 1) := by decide +kernel
theorem dK6_add_25 : decode cK6_add 25 = .ok (.iastore, 1) := by decide +kernel
theorem dK6_add_26 : decode cK6_add 26 = .ok (.aload_n 0, 1) := by decide +kernel
theorem dK6_add_27 : decode cK6_add 27 = .ok (.getfield 18, 3) := by decide +kernel
theorem dK6_add_30 : decode cK6_add 30 = .ok (.iload 5, 2) := by decide +kernel
theorem dK6_add_32 : decode cK6_add 32 = .ok (.iload_n 3, 1) := by decide +kernel
theorem dK6_add_33 : decode cK6_add 33 = .ok (.iastore, 1) := by decide +kernel
theorem dK6_add_34 : decode cK6_add 34 = .ok (.aload_n 0, 1) := by decide +kernel
theorem dK6_add_35 : decode cK6_add 35 = .ok (.getfield 21, 3) := by decide +kernel
theorem dK6_add_38 : decode cK6_add 38 = .ok (.iload 5, 2) := by decide +kernel
theorem dK6_add_40 : decode cK6_add 40 = .ok (.iload 4, 2) := by decide +kernel
theorem dK6_add_42 : decode cK6_add 42 = .ok (.iastore, 1) := by decide +kernel
theorem dK6_add_43 : decode cK6_add 43 = .ok (.aload_n 0, 1) := by decide +kernel
theorem dK6_add_44 : decode cK6_add 44 = .ok (.dup, 1) := by decide +kernel
theorem dK6_add_45 : decode cK6_add 45 = .ok (.getfield 24, 3) := by decide +kernel
theorem dK6_add_48 : decode cK6_add 48 = .ok (.iconst 1, 1) := by decide +kernel
theorem dK6_add_49 : decode cK6_add 49 = .ok (.iadd, 1) := by decide +kernel
theorem dK6_add_50 : decode cK6_add 50 = .ok (.putfield 24, 3) := by decide +kernel
theorem dK6_add_53 : decode cK6_add 53 = .ok (.return_, 1) := by decide +kernel
theorem dK6_look_0 : decode cK6_look 0 = .ok (.iload_n 1, 1) := by decide +kernel
theorem dK6_look_1 : decode cK6_look 1 = .ok (.ifCond .lt 23, 3) := by decide +kernel
theorem dK6_look_4 : decode cK6_look 4 = .ok (.iload_n 1, 1) := by decide +kernel
theorem dK6_look_5 : decode cK6_look 5 = .ok (.aload_n 0, 1) := by decide +kernel
theorem dK6_look_6 : decode cK6_look 6 = .ok (.getfield 24, 3) := by decide +kernel
theorem dK6_look_9 : decode cK6_look 9 = .ok (.if_icmp .ge 15, 3) := by decide +kernel
theorem dK6_look_12 : decode cK6_look 12 = .ok (.iload_n 1, 1) := by decide +kernel
theorem dK6_look_13 : decode cK6_look 13 = .ok (.aload_n 0, 1) := by decide +kernel
theorem dK6_look_14 : decode cK6_look 14 = .ok (.getfield 24, 3) := by decide +kernel
theorem dK6_look_17 : decode cK6_look 17 = .ok (.sipush 200, 3) := by decide +kernel
theorem dK6_look_20 : decode cK6_look 20 = .ok (.isub, 1) := by decide +kernel
theorem dK6_look_21 : decode cK6_look 21 = .ok (.if_icmp .ge 5, 3) := by decide +kernel
theorem dK6_look_24 : decode cK6_look 24 = .ok (.iconst (-1), 1) := by decide +kernel
theorem dK6_look_25 : decode cK6_look 25 = .ok (.ireturn, 1) := by decide +kernel
theorem dK6_look_26 : decode cK6_look 26 = .ok (.iload_n 1, 1) := by decide +kernel
theorem dK6_look_27 : decode cK6_look 27 = .ok (.sipush 200, 3) := by decide +kernel
theorem dK6_look_30 : decode cK6_look 30 = .ok (.irem, 1) := by decide +kernel
theorem dK6_look_31 : decode cK6_look 31 = .ok (.istore_n 3, 1) := by decide +kernel
theorem dK6_look_32 : decode cK6_look 32 = .ok (.iload_n 2, 1) := by decide +kernel
theorem dK6_look_33 : decode cK6_look 33 = .ok (.tableswitch 59 0 3 #[31, 38, 45, 52], 31) := by decide +kernel
theorem dK6_look_64 : decode cK6_look 64 = .ok (.aload_n 0, 1) := by decide +kernel
theorem dK6_look_65 : decode cK6_look 65 = .ok (.getfield 9, 3) := by decide +kernel
theorem dK6_look_68 : decode cK6_look 68 = .ok (.iload_n 3, 1) := by decide +kernel
theorem dK6_look_69 : decode cK6_look 69 = .ok (.iaload, 1) := by decide +kernel
theorem dK6_look_70 : decode cK6_look 70 = .ok (.ireturn, 1) := by decide +kernel
theorem dK6_look_71 : decode cK6_look 71 = .ok (.aload_n 0, 1) := by decide +kernel
theorem dK6_look_72 : decode cK6_look 72 = .ok (.getfield 15, 3) := by decide +kernel
theorem dK6_look_75 : decode cK6_look 75 = .ok (.iload_n 3, 1) := by decide +kernel
theorem dK6_look_76 : decode cK6_look 76 = .ok (.iaload, 1) := by decide +kernel
theorem dK6_look_77 : decode cK6_look 77 = .ok (.ireturn, 1) := by decide +kernel
theorem dK6_look_78 : decode cK6_look 78 = .ok (.aload_n 0, 1) := by decide +kernel
theorem dK6_look_79 : decode cK6_look 79 = .ok (.getfield 18, 3) := by decide +kernel
theorem dK6_look_82 : decode cK6_look 82 = .ok (.iload_n 3, 1) := by decide +kernel
theorem dK6_look_83 : decode cK6_look 83 = .ok (.iaload, 1) := by decide +kernel
theorem dK6_look_84 : decode cK6_look 84 = .ok (.ireturn, 1) := by decide +kernel
theorem dK6_look_85 : decode cK6_look 85 = .ok (.aload_n 0, 1) := by decide +kernel
theorem dK6_look_86 : decode cK6_look 86 = .ok (.getfield 21, 3) := by decide +kernel
theorem dK6_look_89 : decode cK6_look 89 = .ok (.iload_n 3, 1) := by decide +kernel
theorem dK6_look_90 : decode cK6_look 90 = .ok (.iaload, 1) := by decide +kernel
theorem dK6_look_91 : decode cK6_look 91 = .ok (.ireturn, 1) := by decide +kernel
theorem dK6_look_92 : decode cK6_look 92 = .ok (.iconst (-1), 1) := by decide +kernel
theorem dK6_look_93 : decode cK6_look 93 = .ok (.ireturn, 1) := by decide +kernel
theorem dK7_init_0 : decode cK7_init 0 = .ok (.aload_n 0, 1) := by decide +kernel
theorem dK7_init_1 : decode cK7_init 1 = .ok (.invokespecial 1, 3) := by decide +kernel
theorem dK7_init_4 : decode cK7_init 4 = .ok (.aload_n 0, 1) := by decide +kernel
theorem dK7_init_5 : decode cK7_init 5 = .ok (.new 7, 3) := by decide +kernel
theorem dK7_init_8 : decode cK7_init 8 = .ok (.dup, 1) := by decide +kernel
theorem dK7_init_9 : decode cK7_init 9 = .ok (.invokespecial 9, 3) := by decide +kernel
theorem dK7_init_12 : decode cK7_init 12 = .ok (.putfield 10, 3) := by decide +kernel
theorem dK7_init_15 : decode cK7_init 15 = .ok (.aload_n 0, 1) := by decide +kernel
theorem dK7_init_16 : decode cK7_init 16 = .ok (.new 16, 3) := by decide +kernel
theorem dK7_init_19 : decode cK7_init 19 = .ok (.dup, 1) := by decide +kernel
theorem dK7_init_20 : decode cK7_init 20 = .ok (.invokespecial 18, 3) := by decide +kernel
theorem dK7_init_23 : decode cK7_init 23 = .ok (.putfield 19, 3) := by decide +kernel
theorem dK7_init_26 : decode cK7_init 26 = .ok (.aload_n 0, 1) := by decide +kernel
theorem dK7_init_27 : decode cK7_init 27 = .ok (.new 23, 3) := by decide +kernel
theorem dK7_init_30 : decode cK7_init 30 = .ok (.dup, 1) := by decide +kernel
theorem dK7_init_31 : decode cK7_init 31 = .ok (.invokespecial 25, 3) := by decide +kernel
theorem dK7_init_34 : decode cK7_init 34 = .ok (.putfield 26, 3) := by decide +kernel
theorem dK7_init_37 : decode cK7_init 37 = .ok (.aload_n 0, 1) := by decide +kernel
theorem dK7_init_38 : decode cK7_init 38 = .ok (.iconst 0, 1) := by decide +kernel
theorem dK7_init_39 : decode cK7_init 39 = .ok (.putfield 30, 3) := by decide +kernel
theorem dK7_init_42 : decode cK7_init 42 = .ok (.return_, 1) := by decide +kernel
theorem dK7_feed_0 : decode cK7_feed 0 = .ok (.aload_n 0, 1) := by decide +kernel
theorem dK7_feed_1 : decode cK7_feed 1 = .ok (.getfield 10, 3) := by decide +kernel
theorem dK7_feed_4 : decode cK7_feed 4 = .ok (.iload_n 1, 1) := by decide +kernel
theorem dK7_feed_5 : decode cK7_feed 5 = .ok (.invokevirtual 34, 3) := by decide +kernel
theorem dK7_feed_8 : decode cK7_feed 8 = .ok (.ireturn, 1) := by decide +kernel
theorem dK7_line_0 : decode cK7_line 0 = .ok (.aload_n 0, 1) := by decide +kernel
theorem dK7_line_1 : decode cK7_line 1 = .ok (.getfield 19, 3) := by decide +kernel
theorem dK7_line_4 : decode cK7_line 4 = .ok (.aload_n 0, 1) := by decide +kernel
theorem dK7_line_5 : decode cK7_line 5 = .ok (.getfield 10, 3) := by decide +kernel
theorem dK7_line_8 : decode cK7_line 8 = .ok (.invokevirtual 38, 3) := by decide +kernel
theorem dK7_line_11 : decode cK7_line 11 = .ok (.aload_n 0, 1) := by decide +kernel
theorem dK7_line_12 : decode cK7_line 12 = .ok (.getfield 10, 3) := by decide +kernel
theorem dK7_line_15 : decode cK7_line 15 = .ok (.invokevirtual 42, 3) := by decide +kernel
theorem dK7_line_18 : decode cK7_line 18 = .ok (.aload_n 0, 1) := by decide +kernel
theorem dK7_line_19 : decode cK7_line 19 = .ok (.getfield 26, 3) := by decide +kernel
theorem dK7_line_22 : decode cK7_line 22 = .ok (.aload_n 0, 1) := by decide +kernel
theorem dK7_line_23 : decode cK7_line 23 = .ok (.getfield 19, 3) := by decide +kernel
theorem dK7_line_26 : decode cK7_line 26 = .ok (.invokevirtual 45, 3) := by decide +kernel
theorem dK7_line_29 : decode cK7_line 29 = .ok (.istore_n 1, 1) := by decide +kernel
theorem dK7_line_30 : decode cK7_line 30 = .ok (.iload_n 1, 1) := by decide +kernel
theorem dK7_line_31 : decode cK7_line 31 = .ok (.ifCond .ge 16, 3) := by decide +kernel
theorem dK7_line_34 : decode cK7_line 34 = .ok (.aload_n 0, 1) := by decide +kernel
theorem dK7_line_35 : decode cK7_line 35 = .ok (.dup, 1) := by decide +kernel
theorem dK7_line_36 : decode cK7_line 36 = .ok (.getfield 30, 3) := by decide +kernel
