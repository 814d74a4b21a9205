theorem dX11_balance_8 : decode cX11_balance 8 = .ok (.getfield 20, 3) := by decide +kernel
theorem dX11_balance_11 : decode cX11_balance 11 = .ok (.getfield 301, 3) := by decide +kernel
theorem dX11_balance_14 : decode cX11_balance 14 = .ok (.iload_n 1, 1) := by decide +kernel
theorem dX11_balance_15 : decode cX11_balance 15 = .ok (.iaload, 1) := by decide +kernel
theorem dX11_balance_16 : decode cX11_balance 16 = .ok (.goto 6, 3) := by decide +kernel
theorem dX11_balance_19 : decode cX11_balance 19 = .ok (.ldc_w 304, 3) := by decide +kernel
theorem dX11_balance_22 : decode cX11_balance 22 = .ok (.ireturn, 1) := by decide +kernel
theorem dX11_settled_0 : decode cX11_settled 0 = .ok (.iload_n 1, 1) := by decide +kernel
theorem dX11_settled_1 : decode cX11_settled 1 = .ok (.iconst 0, 1) := by decide +kernel
theorem dX11_settled_2 : decode cX11_settled 2 = .ok (.iconst 1, 1) := by decide +kernel
theorem dX11_settled_3 : decode cX11_settled 3 = .ok (.invokestatic 62, 3) := by decide +kernel
theorem dX11_settled_6 : decode cX11_settled 6 = .ok (.ifCond .ne 5, 3) := by decide +kernel
theorem dX11_settled_9 : decode cX11_settled 9 = .ok (.iconst (-1), 1) := by decide +kernel
theorem dX11_settled_10 : decode cX11_settled 10 = .ok (.ireturn, 1) := by decide +kernel
theorem dX11_settled_11 : decode cX11_settled 11 = .ok (.aload_n 0, 1) := by decide +kernel
theorem dX11_settled_12 : decode cX11_settled 12 = .ok (.getfield 51, 3) := by decide +kernel
theorem dX11_settled_15 : decode cX11_settled 15 = .ok (.aload_n 0, 1) := by decide +kernel
theorem dX11_settled_16 : decode cX11_settled 16 = .ok (.getfield 20, 3) := by decide +kernel
theorem dX11_settled_19 : decode cX11_settled 19 = .ok (.getfield 301, 3) := by decide +kernel
theorem dX11_settled_22 : decode cX11_settled 22 = .ok (.invokevirtual 305, 3) := by decide +kernel
theorem dX11_settled_25 : decode cX11_settled 25 = .ok (.istore_n 2, 1) := by decide +kernel
theorem dX11_settled_26 : decode cX11_settled 26 = .ok (.iload_n 1, 1) := by decide +kernel
theorem dX11_settled_27 : decode cX11_settled 27 = .ok (.iconst 1, 1) := by decide +kernel
theorem dX11_settled_28 : decode cX11_settled 28 = .ok (.if_icmp .ne 7, 3) := by decide +kernel
theorem dX11_settled_31 : decode cX11_settled 31 = .ok (.iload_n 2, 1) := by decide +kernel
theorem dX11_settled_32 : decode cX11_settled 32 = .ok (.goto 7, 3) := by decide +kernel
theorem dX11_settled_35 : decode cX11_settled 35 = .ok (.bipush 6, 2) := by decide +kernel
theorem dX11_settled_37 : decode cX11_settled 37 = .ok (.iload_n 2, 1) := by decide +kernel
theorem dX11_settled_38 : decode cX11_settled 38 = .ok (.isub, 1) := by decide +kernel
theorem dX11_settled_39 : decode cX11_settled 39 = .ok (.ireturn, 1) := by decide +kernel
theorem dX11_group_0 : decode cX11_group 0 = .ok (.iload_n 1, 1) := by decide +kernel
theorem dX11_group_1 : decode cX11_group 1 = .ok (.invokestatic 298, 3) := by decide +kernel
theorem dX11_group_4 : decode cX11_group 4 = .ok (.ifCond .eq 21, 3) := by decide +kernel
theorem dX11_group_7 : decode cX11_group 7 = .ok (.aload_n 0, 1) := by decide +kernel
theorem dX11_group_8 : decode cX11_group 8 = .ok (.getfield 51, 3) := by decide +kernel
theorem dX11_group_11 : decode cX11_group 11 = .ok (.iload_n 1, 1) := by decide +kernel
theorem dX11_group_12 : decode cX11_group 12 = .ok (.aload_n 0, 1) := by decide +kernel
theorem dX11_group_13 : decode cX11_group 13 = .ok (.getfield 20, 3) := by decide +kernel
theorem dX11_group_16 : decode cX11_group 16 = .ok (.getfield 301, 3) := by decide +kernel
theorem dX11_group_19 : decode cX11_group 19 = .ok (.invokevirtual 309, 3) := by decide +kernel
theorem dX11_group_22 : decode cX11_group 22 = .ok (.goto 4, 3) := by decide +kernel
theorem dX11_group_25 : decode cX11_group 25 = .ok (.iconst (-1), 1) := by decide +kernel
theorem dX11_group_26 : decode cX11_group 26 = .ok (.ireturn, 1) := by decide +kernel
theorem dX11_trip_0 : decode cX11_trip 0 = .ok (.iload_n 1, 1) := by decide +kernel
theorem dX11_trip_1 : decode cX11_trip 1 = .ok (.iconst (-1), 1) := by decide +kernel
theorem dX11_trip_2 : decode cX11_trip 2 = .ok (.if_icmp .ne 14, 3) := by decide +kernel
theorem dX11_trip_5 : decode cX11_trip 5 = .ok (.aload_n 0, 1) := by decide +kernel
theorem dX11_trip_6 : decode cX11_trip 6 = .ok (.getfield 20, 3) := by decide +kernel
theorem dX11_trip_9 : decode cX11_trip 9 = .ok (.getfield 313, 3) := by decide +kernel
theorem dX11_trip_12 : decode cX11_trip 12 = .ok (.invokevirtual 317, 3) := by decide +kernel
theorem dX11_trip_15 : decode cX11_trip 15 = .ok (.ireturn, 1) := by decide +kernel
theorem dX11_trip_16 : decode cX11_trip 16 = .ok (.iload_n 1, 1) := by decide +kernel
theorem dX11_trip_17 : decode cX11_trip 17 = .ok (.iconst 0, 1) := by decide +kernel
theorem dX11_trip_18 : decode cX11_trip 18 = .ok (.bipush 30, 2) := by decide +kernel
theorem dX11_trip_20 : decode cX11_trip 20 = .ok (.invokestatic 62, 3) := by decide +kernel
theorem dX11_trip_23 : decode cX11_trip 23 = .ok (.ifCond .eq 23, 3) := by decide +kernel
theorem dX11_trip_26 : decode cX11_trip 26 = .ok (.iload_n 2, 1) := by decide +kernel
theorem dX11_trip_27 : decode cX11_trip 27 = .ok (.iload_n 1, 1) := by decide +kernel
theorem dX11_trip_28 : decode cX11_trip 28 = .ok (.bipush 30, 2) := by decide +kernel
theorem dX11_trip_30 : decode cX11_trip 30 = .ok (.invokestatic 62, 3) := by decide +kernel
theorem dX11_trip_33 : decode cX11_trip 33 = .ok (.ifCond .eq 13, 3) := by decide +kernel
theorem dX11_trip_36 : decode cX11_trip 36 = .ok (.iload_n 3, 1) := by decide +kernel
theorem dX11_trip_37 : decode cX11_trip 37 = .ok (.iconst 1, 1) := by decide +kernel
theorem dX11_trip_38 : decode cX11_trip 38 = .ok (.bipush 9, 2) := by decide +kernel
theorem dX11_trip_40 : decode cX11_trip 40 = .ok (.invokestatic 62, 3) := by decide +kernel
theorem dX11_trip_43 : decode cX11_trip 43 = .ok (.ifCond .ne 6, 3) := by decide +kernel
theorem dX11_trip_46 : decode cX11_trip 46 = .ok (.bipush (-2), 2) := by decide +kernel
theorem dX11_trip_48 : decode cX11_trip 48 = .ok (.ireturn, 1) := by decide +kernel
theorem dX11_trip_49 : decode cX11_trip 49 = .ok (.aload_n 0, 1) := by decide +kernel
theorem dX11_trip_50 : decode cX11_trip 50 = .ok (.getfield 20, 3) := by decide +kernel
theorem dX11_trip_53 : decode cX11_trip 53 = .ok (.getfield 313, 3) := by decide +kernel
theorem dX11_trip_56 : decode cX11_trip 56 = .ok (.iload_n 1, 1) := by decide +kernel
theorem dX11_trip_57 : decode cX11_trip 57 = .ok (.iload_n 2, 1) := by decide +kernel
theorem dX11_trip_58 : decode cX11_trip 58 = .ok (.iload_n 3, 1) := by decide +kernel
theorem dX11_trip_59 : decode cX11_trip 59 = .ok (.invokevirtual 322, 3) := by decide +kernel
theorem dX11_trip_62 : decode cX11_trip 62 = .ok (.ireturn, 1) := by decide +kernel
theorem dX11_stock_0 : decode cX11_stock 0 = .ok (.iconst 0, 1) := by decide +kernel
theorem dX11_stock_1 : decode cX11_stock 1 = .ok (.istore_n 2, 1) := by decide +kernel
theorem dX11_stock_2 : decode cX11_stock 2 = .ok (.iconst (-1), 1) := by decide +kernel
theorem dX11_stock_3 : decode cX11_stock 3 = .ok (.istore_n 3, 1) := by decide +kernel
theorem dX11_stock_4 : decode cX11_stock 4 = .ok (.iconst 0, 1) := by decide +kernel
theorem dX11_stock_5 : decode cX11_stock 5 = .ok (.istore 4, 2) := by decide +kernel
theorem dX11_stock_7 : decode cX11_stock 7 = .ok (.iload 4, 2) := by decide +kernel
theorem dX11_stock_9 : decode cX11_stock 9 = .ok (.bipush 30, 2) := by decide +kernel
theorem dX11_stock_11 : decode cX11_stock 11 = .ok (.if_icmp .gt 29, 3) := by decide +kernel
theorem dX11_stock_14 : decode cX11_stock 14 = .ok (.aload_n 0, 1) := by decide +kernel
theorem dX11_stock_15 : decode cX11_stock 15 = .ok (.iload 4, 2) := by decide +kernel
theorem dX11_stock_17 : decode cX11_stock 17 = .ok (.invokevirtual 325, 3) := by decide +kernel
theorem dX11_stock_20 : decode cX11_stock 20 = .ok (.istore 5, 2) := by decide +kernel
theorem dX11_stock_22 : decode cX11_stock 22 = .ok (.iload 5, 2) := by decide +kernel
theorem dX11_stock_24 : decode cX11_stock 24 = .ok (.iload_n 2, 1) := by decide +kernel
theorem dX11_stock_25 : decode cX11_stock 25 = .ok (.if_icmp .le 9, 3) := by decide +kernel
theorem dX11_stock_28 : decode cX11_stock 28 = .ok (.iload 5, 2) := by decide +kernel
theorem dX11_stock_30 : decode cX11_stock 30 = .ok (.istore_n 2, 1) := by decide +kernel
theorem dX11_stock_31 : decode cX11_stock 31 = .ok (.iload 4, 2) := by decide +kernel
theorem dX11_stock_33 : decode cX11_stock 33 = .ok (.istore_n 3, 1) := by decide +kernel
theorem dX11_stock_34 : decode cX11_stock 34 = .ok (.iinc 4 1, 3) := by decide +kernel
theorem dX11_stock_37 : decode cX11_stock 37 = .ok (.goto (-30), 3) := by decide +kernel
theorem dX11_stock_40 : decode cX11_stock 40 = .ok (.iload_n 1, 1) := by decide +kernel
theorem dX11_stock_41 : decode cX11_stock 41 = .ok (.ifCond .eq 7, 3) := by decide +kernel
theorem dX11_stock_44 : decode cX11_stock 44 = .ok (.iload_n 3, 1) := by decide +kernel
theorem dX11_stock_45 : decode cX11_stock 45 = .ok (.goto 4, 3) := by decide +kernel
theorem dX11_stock_48 : decode cX11_stock 48 = .ok (.iload_n 2, 1) := by decide +kernel
theorem dX11_stock_49 : decode cX11_stock 49 = .ok (.ireturn, 1) := by decide +kernel
theorem dX11_wheelsOut_0 : decode cX11_wheelsOut 0 = .ok (.aload_n 0, 1) := by decide +kernel
theorem dX11_wheelsOut_1 : decode cX11_wheelsOut 1 = .ok (.getfield 20, 3) := by decide +kernel
theorem dX11_wheelsOut_4 : decode cX11_wheelsOut 4 = .ok (.getfield 313, 3) := by decide +kernel
theorem dX11_wheelsOut_7 : decode cX11_wheelsOut 7 = .ok (.astore_n 2, 1) := by decide +kernel
theorem dX11_wheelsOut_8 : decode cX11_wheelsOut 8 = .ok (.iconst 0, 1) := by decide +kernel
theorem dX11_wheelsOut_9 : decode cX11_wheelsOut 9 = .ok (.istore_n 3, 1) := by decide +kernel
theorem dX11_wheelsOut_10 : decode cX11_wheelsOut 10 = .ok (.iconst 0, 1) := by decide +kernel
theorem dX11_wheelsOut_11 : decode cX11_wheelsOut 11 = .ok (.istore 4, 2) := by decide +kernel
theorem dX11_wheelsOut_13 : decode cX11_wheelsOut 13 = .ok (.iload 4, 2) := by decide +kernel
theorem dX11_wheelsOut_15 : decode cX11_wheelsOut 15 = .ok (.aload_n 2, 1) := by decide +kernel
theorem dX11_wheelsOut_16 : decode cX11_wheelsOut 16 = .ok (.getfield 328, 3) := by decide +kernel
theorem dX11_wheelsOut_19 : decode cX11_wheelsOut 19 = .ok (.if_icmp .ge 40, 3) := by decide +kernel
theorem dX11_wheelsOut_22 : decode cX11_wheelsOut 22 = .ok (.iload_n 1, 1) := by decide +kernel
theorem dX11_wheelsOut_23 : decode cX11_wheelsOut 23 = .ok (.aload_n 2, 1) := by decide +kernel
theorem dX11_wheelsOut_24 : decode cX11_wheelsOut 24 = .ok (.iload 4, 2) := by decide +kernel
theorem dX11_wheelsOut_26 : decode cX11_wheelsOut 26 = .ok (.iconst 0, 1) := by decide +kernel
theorem dX11_wheelsOut_27 : decode cX11_wheelsOut 27 = .ok (.invokevirtual 331, 3) := by decide +kernel
theorem dX11_wheelsOut_30 : decode cX11_wheelsOut 30 = .ok (.aload_n 2, 1) := by decide +kernel
theorem dX11_wheelsOut_31 : decode cX11_wheelsOut 31 = .ok (.iload 4, 2) := by decide +kernel
theorem dX11_wheelsOut_33 : decode cX11_wheelsOut 33 = .ok (.iconst 1, 1) := by decide +kernel
theorem dX11_wheelsOut_34 : decode cX11_wheelsOut 34 = .ok (.invokevirtual 331, 3) := by decide +kernel
theorem dX11_wheelsOut_37 : decode cX11_wheelsOut 37 = .ok (.invokestatic 62, 3) := by decide +kernel
theorem dX11_wheelsOut_40 : decode cX11_wheelsOut 40 = .ok (.ifCond .eq 13, 3) := by decide +kernel
theorem dX11_wheelsOut_43 : decode cX11_wheelsOut 43 = .ok (.iload_n 3, 1) := by decide +kernel
theorem dX11_wheelsOut_44 : decode cX11_wheelsOut 44 = .ok (.aload_n 2, 1) := by decide +kernel
theorem dX11_wheelsOut_45 : decode cX11_wheelsOut 45 = .ok (.iload 4, 2) := by decide +kernel
theorem dX11_wheelsOut_47 : decode cX11_wheelsOut 47 = .ok (.iconst 2, 1) := by decide +kernel
theorem dX11_wheelsOut_48 : decode cX11_wheelsOut 48 = .ok (.invokevirtual 331, 3) := by decide +kernel
theorem dX11_wheelsOut_51 : decode cX11_wheelsOut 51 = .ok (.iadd, 1) := by decide +kernel
theorem dX11_wheelsOut_52 : decode cX11_wheelsOut 52 = .ok (.istore_n 3, 1) := by decide +kernel
theorem dX11_wheelsOut_53 : decode cX11_wheelsOut 53 = .ok (.iinc 4 1, 3) := by decide +kernel
theorem dX11_wheelsOut_56 : decode cX11_wheelsOut 56 = .ok (.goto (-43), 3) := by decide +kernel
theorem dX11_wheelsOut_59 : decode cX11_wheelsOut 59 = .ok (.iload_n 3, 1) := by decide +kernel
theorem dX11_wheelsOut_60 : decode cX11_wheelsOut 60 = .ok (.ireturn, 1) := by decide +kernel
theorem dX11_seen_0 : decode cX11_seen 0 = .ok (.iload_n 1, 1) := by decide +kernel
theorem dX11_seen_1 : decode cX11_seen 1 = .ok (.iconst (-1), 1) := by decide +kernel
theorem dX11_seen_2 : decode cX11_seen 2 = .ok (.if_icmp .ne 14, 3) := by decide +kernel
theorem dX11_seen_5 : decode cX11_seen 5 = .ok (.aload_n 0, 1) := by decide +kernel
theorem dX11_seen_6 : decode cX11_seen 6 = .ok (.getfield 20, 3) := by decide +kernel
theorem dX11_seen_9 : decode cX11_seen 9 = .ok (.getfield 334, 3) := by decide +kernel
theorem dX11_seen_12 : decode cX11_seen 12 = .ok (.invokevirtual 317, 3) := by decide +kernel
theorem dX11_seen_15 : decode cX11_seen 15 = .ok (.ireturn, 1) := by decide +kernel
theorem dX11_seen_16 : decode cX11_seen 16 = .ok (.iload_n 1, 1) := by decide +kernel
theorem dX11_seen_17 : decode cX11_seen 17 = .ok (.iconst 0, 1) := by decide +kernel
theorem dX11_seen_18 : decode cX11_seen 18 = .ok (.iconst 3, 1) := by decide +kernel
theorem dX11_seen_19 : decode cX11_seen 19 = .ok (.invokestatic 62, 3) := by decide +kernel
theorem dX11_seen_22 : decode cX11_seen 22 = .ok (.ifCond .eq 18, 3) := by decide +kernel
theorem dX11_seen_25 : decode cX11_seen 25 = .ok (.aload_n 0, 1) := by decide +kernel
theorem dX11_seen_26 : decode cX11_seen 26 = .ok (.iload_n 2, 1) := by decide +kernel
theorem dX11_seen_27 : decode cX11_seen 27 = .ok (.invokevirtual 89, 3) := by decide +kernel
theorem dX11_seen_30 : decode cX11_seen 30 = .ok (.ifCond .eq 10, 3) := by decide +kernel
theorem dX11_seen_33 : decode cX11_seen 33 = .ok (.iload_n 3, 1) := by decide +kernel
theorem dX11_seen_34 : decode cX11_seen 34 = .ok (.invokestatic 123, 3) := by decide +kernel
theorem dX11_seen_37 : decode cX11_seen 37 = .ok (.ifCond .ne 6, 3) := by decide +kernel
theorem dX11_seen_40 : decode cX11_seen 40 = .ok (.bipush (-2), 2) := by decide +kernel
theorem dX11_seen_42 : decode cX11_seen 42 = .ok (.ireturn, 1) := by decide +kernel
theorem dX11_seen_43 : decode cX11_seen 43 = .ok (.aload_n 0, 1) := by decide +kernel
theorem dX11_seen_44 : decode cX11_seen 44 = .ok (.getfield 20, 3) := by decide +kernel
theorem dX11_seen_47 : decode cX11_seen 47 = .ok (.getfield 334, 3) := by decide +kernel
theorem dX11_seen_50 : decode cX11_seen 50 = .ok (.iload_n 1, 1) := by decide +kernel
theorem dX11_seen_51 : decode cX11_seen 51 = .ok (.iload_n 2, 1) := by decide +kernel
theorem dX11_seen_52 : decode cX11_seen 52 = .ok (.iload_n 3, 1) := by decide +kernel
theorem dX11_seen_53 : decode cX11_seen 53 = .ok (.invokevirtual 322, 3) := by decide +kernel
theorem dX11_seen_56 : decode cX11_seen 56 = .ok (.ireturn, 1) := by decide +kernel
theorem dX11_histories_0 : decode cX11_histories 0 = .ok (.aload_n 0, 1) := by decide +kernel
theorem dX11_histories_1 : decode cX11_histories 1 = .ok (.invokevirtual 337, 3) := by decide +kernel
theorem dX11_histories_4 : decode cX11_histories 4 = .ok (.istore_n 2, 1) := by decide +kernel
theorem dX11_histories_5 : decode cX11_histories 5 = .ok (.iconst 1, 1) := by decide +kernel
theorem dX11_histories_6 : decode cX11_histories 6 = .ok (.istore_n 3, 1) := by decide +kernel
theorem dX11_histories_7 : decode cX11_histories 7 = .ok (.iconst 0, 1) := by decide +kernel
theorem dX11_histories_8 : decode cX11_histories 8 = .ok (.istore 4, 2) := by decide +kernel
theorem dX11_histories_10 : decode cX11_histories 10 = .ok (.iload 4, 2) := by decide +kernel
theorem dX11_histories_12 : decode cX11_histories 12 = .ok (.iload_n 2, 1) := by decide +kernel
theorem dX11_histories_13 : decode cX11_histories 13 = .ok (.if_icmp .ge 14, 3) := by decide +kernel
theorem dX11_histories_16 : decode cX11_histories 16 = .ok (.iload_n 3, 1) := by decide +kernel
theorem dX11_histories_17 : decode cX11_histories 17 = .ok (.bipush 9, 2) := by decide +kernel
theorem dX11_histories_19 : decode cX11_histories 19 = .ok (.imul, 1) := by decide +kernel
theorem dX11_histories_20 : decode cX11_histories 20 = .ok (.istore_n 3, 1) := by decide +kernel
theorem dX11_histories_21 : decode cX11_histories 21 = .ok (.iinc 4 1, 3) := by decide +kernel
theorem dX11_histories_24 : decode cX11_histories 24 = .ok (.goto (-14), 3) := by decide +kernel
theorem dX11_histories_27 : decode cX11_histories 27 = .ok (.aload_n 0, 1) := by decide +kernel
theorem dX11_histories_28 : decode cX11_histories 28 = .ok (.getfield 24, 3) := by decide +kernel
theorem dX11_histories_31 : decode cX11_histories 31 = .ok (.getfield 66, 3) := by decide +kernel
theorem dX11_histories_34 : decode cX11_histories 34 = .ok (.invokestatic 258, 3) := by decide +kernel
theorem dX11_histories_37 : decode cX11_histories 37 = .ok (.istore 4, 2) := by decide +kernel
theorem dX11_histories_39 : decode cX11_histories 39 = .ok (.aload_n 0, 1) := by decide +kernel
theorem dX11_histories_40 : decode cX11_histories 40 = .ok (.getfield 20, 3) := by decide +kernel
theorem dX11_histories_43 : decode cX11_histories 43 = .ok (.invokevirtual 262, 3) := by decide +kernel
theorem dX11_histories_46 : decode cX11_histories 46 = .ok (.istore 5, 2) := by decide +kernel
theorem dX11_histories_48 : decode cX11_histories 48 = .ok (.iconst 0, 1) := by decide +kernel
theorem dX11_histories_49 : decode cX11_histories 49 = .ok (.istore 6, 2) := by decide +kernel
theorem dX11_histories_51 : decode cX11_histories 51 = .ok (.iconst 0, 1) := by decide +kernel
theorem dX11_histories_52 : decode cX11_histories 52 = .ok (.istore 7, 2) := by decide +kernel
theorem dX11_histories_54 : decode cX11_histories 54 = .ok (.iload 7, 2) := by decide +kernel
theorem dX11_histories_56 : decode cX11_histories 56 = .ok (.iload_n 3, 1) := by decide +kernel
theorem dX11_histories_57 : decode cX11_histories 57 = .ok (.if_icmp .ge 33, 3) := by decide +kernel
theorem dX11_histories_60 : decode cX11_histories 60 = .ok (.aload_n 0, 1) := by decide +kernel
theorem dX11_histories_61 : decode cX11_histories 61 = .ok (.iload 7, 2) := by decide +kernel
theorem dX11_histories_63 : decode cX11_histories 63 = .ok (.iload_n 3, 1) := by decide +kernel
theorem dX11_histories_64 : decode cX11_histories 64 = .ok (.iload 4, 2) := by decide +kernel
theorem dX11_histories_66 : decode cX11_histories 66 = .ok (.iload 5, 2) := by decide +kernel
theorem dX11_histories_68 : decode cX11_histories 68 = .ok (.invokevirtual 340, 3) := by decide +kernel
theorem dX11_histories_71 : decode cX11_histories 71 = .ok (.ifCond .eq 13, 3) := by decide +kernel
theorem dX11_histories_74 : decode cX11_histories 74 = .ok (.iload_n 1, 1) := by decide +kernel
theorem dX11_histories_75 : decode cX11_histories 75 = .ok (.ifCond .eq 6, 3) := by decide +kernel
theorem dX11_histories_78 : decode cX11_histories 78 = .ok (.iload 7, 2) := by decide +kernel
theorem dX11_histories_80 : decode cX11_histories 80 = .ok (.ireturn, 1) := by decide +kernel
theorem dX11_histories_81 : decode cX11_histories 81 = .ok (.iinc 6 1, 3) := by decide +kernel
theorem dX11_histories_84 : decode cX11_histories 84 = .ok (.iinc 7 1, 3) := by decide +kernel
theorem dX11_histories_87 : decode cX11_histories 87 = .ok (.goto (-33), 3) := by decide +kernel
theorem dX11_histories_90 : decode cX11_histories 90 = .ok (.iload_n 1, 1) := by decide +kernel
theorem dX11_histories_91 : decode cX11_histories 91 = .ok (.ifCond .eq 7, 3) := by decide +kernel
theorem dX11_histories_94 : decode cX11_histories 94 = .ok (.iconst (-1), 1) := by decide +kernel
theorem dX11_histories_95 : decode cX11_histories 95 = .ok (.goto 5, 3) := by decide +kernel
theorem dX11_histories_98 : decode cX11_histories 98 = .ok (.iload 6, 2) := by decide +kernel
theorem dX11_histories_100 : decode cX11_histories 100 = .ok (.ireturn, 1) := by decide +kernel
theorem dX11_lastMomentSeen_0 : decode cX11_lastMomentSeen 0 = .ok (.iconst 0, 1) := by decide +kernel
theorem dX11_lastMomentSeen_1 : decode cX11_lastMomentSeen 1 = .ok (.istore_n 1, 1) := by decide +kernel
theorem dX11_lastMomentSeen_2 : decode cX11_lastMomentSeen 2 = .ok (.iconst 0, 1) := by decide +kernel
theorem dX11_lastMomentSeen_3 : decode cX11_lastMomentSeen 3 = .ok (.istore_n 2, 1) := by decide +kernel
theorem dX11_lastMomentSeen_4 : decode cX11_lastMomentSeen 4 = .ok (.iload_n 2, 1) := by decide +kernel
theorem dX11_lastMomentSeen_5 : decode cX11_lastMomentSeen 5 = .ok (.aload_n 0, 1) := by decide +kernel
theorem dX11_lastMomentSeen_6 : decode cX11_lastMomentSeen 6 = .ok (.getfield 20, 3) := by decide +kernel
theorem dX11_lastMomentSeen_9 : decode cX11_lastMomentSeen 9 = .ok (.getfield 334, 3) := by decide +kernel
theorem dX11_lastMomentSeen_12 : decode cX11_lastMomentSeen 12 = .ok (.getfield 328, 3) := by decide +kernel
theorem dX11_lastMomentSeen_15 : decode cX11_lastMomentSeen 15 = .ok (.if_icmp .ge 26, 3) := by decide +kernel
theorem dX11_lastMomentSeen_18 : decode cX11_lastMomentSeen 18 = .ok (.iload_n 1, 1) := by decide +kernel
theorem dX11_lastMomentSeen_19 : decode cX11_lastMomentSeen 19 = .ok (.aload_n 0, 1) := by decide +kernel
theorem dX11_lastMomentSeen_20 : decode cX11_lastMomentSeen 20 = .ok (.getfield 20, 3) := by decide +kernel
theorem dX11_lastMomentSeen_23 : decode cX11_lastMomentSeen 23 = .ok (.getfield 334, 3) := by decide +kernel
theorem dX11_lastMomentSeen_26 : decode cX11_lastMomentSeen 26 = .ok (.iload_n 2, 1) := by decide +kernel
theorem dX11_lastMomentSeen_27 : decode cX11_lastMomentSeen 27 = .ok (.iconst 0, 1) := by decide +kernel
theorem dX11_lastMomentSeen_28 : decode cX11_lastMomentSeen 28 = .ok (.invokevirtual 331, 3) := by decide +kernel
theorem dX11_lastMomentSeen_31 : decode cX11_lastMomentSeen 31 = .ok (.invokestatic 344, 3) := by decide +kernel
theorem dX11_lastMomentSeen_34 : decode cX11_lastMomentSeen 34 = .ok (.istore_n 1, 1) := by decide +kernel
theorem dX11_lastMomentSeen_35 : decode cX11_lastMomentSeen 35 = .ok (.iinc 2 1, 3) := by decide +kernel
theorem dX11_lastMomentSeen_38 : decode cX11_lastMomentSeen 38 = .ok (.goto (-34), 3) := by decide +kernel
theorem dX11_lastMomentSeen_41 : decode cX11_lastMomentSeen 41 = .ok (.iload_n 1, 1) := by decide +kernel
theorem dX11_lastMomentSeen_42 : decode cX11_lastMomentSeen 42 = .ok (.ireturn, 1) := by decide +kernel
theorem dX11_fitsAllSeen_0 : decode cX11_fitsAllSeen 0 = .ok (.aload_n 0, 1) := by decide +kernel
theorem dX11_fitsAllSeen_1 : decode cX11_fitsAllSeen 1 = .ok (.getfield 24, 3) := by decide +kernel
theorem dX11_fitsAllSeen_4 : decode cX11_fitsAllSeen 4 = .ok (.getfield 66, 3) := by decide +kernel
theorem dX11_fitsAllSeen_7 : decode cX11_fitsAllSeen 7 = .ok (.invokevirtual 69, 3) := by decide +kernel
theorem dX11_fitsAllSeen_10 : decode cX11_fitsAllSeen 10 = .ok (.istore 5, 2) := by decide +kernel
theorem dX11_fitsAllSeen_12 : decode cX11_fitsAllSeen 12 = .ok (.iload_n 3, 1) := by decide +kernel
theorem dX11_fitsAllSeen_13 : decode cX11_fitsAllSeen 13 = .ok (.istore 6, 2) := by decide +kernel
theorem dX11_fitsAllSeen_15 : decode cX11_fitsAllSeen 15 = .ok (.iconst 0, 1) := by decide +kernel
theorem dX11_fitsAllSeen_16 : decode cX11_fitsAllSeen 16 = .ok (.istore 7, 2) := by decide +kernel
theorem dX11_fitsAllSeen_18 : decode cX11_fitsAllSeen 18 = .ok (.iload_n 2, 1) := by decide +kernel
theorem dX11_fitsAllSeen_19 : decode cX11_fitsAllSeen 19 = .ok (.bipush 9, 2) := by decide +kernel
theorem dX11_fitsAllSeen_21 : decode cX11_fitsAllSeen 21 = .ok (.idiv, 1) := by decide +kernel
theorem dX11_fitsAllSeen_22 : decode cX11_fitsAllSeen 22 = .ok (.istore 8, 2) := by decide +kernel
theorem dX11_fitsAllSeen_24 : decode cX11_fitsAllSeen 24 = .ok (.iload 8, 2) := by decide +kernel
theorem dX11_fitsAllSeen_26 : decode cX11_fitsAllSeen 26 = .ok (.ifCond .le 61, 3) := by decide +kernel
theorem dX11_fitsAllSeen_29 : decode cX11_fitsAllSeen 29 = .ok (.aload_n 0, 1) := by decide +kernel
theorem dX11_fitsAllSeen_30 : decode cX11_fitsAllSeen 30 = .ok (.iload 7, 2) := by decide +kernel
theorem dX11_fitsAllSeen_32 : decode cX11_fitsAllSeen 32 = .ok (.iload 6, 2) := by decide +kernel
theorem dX11_fitsAllSeen_34 : decode cX11_fitsAllSeen 34 = .ok (.iload 5, 2) := by decide +kernel
theorem dX11_fitsAllSeen_36 : decode cX11_fitsAllSeen 36 = .ok (.invokevirtual 349, 3) := by decide +kernel
theorem dX11_fitsAllSeen_39 : decode cX11_fitsAllSeen 39 = .ok (.ifCond .ne 5, 3) := by decide +kernel
theorem dX11_fitsAllSeen_42 : decode cX11_fitsAllSeen 42 = .ok (.iconst 0, 1) := by decide +kernel
theorem dX11_fitsAllSeen_43 : decode cX11_fitsAllSeen 43 = .ok (.ireturn, 1) := by decide +kernel
theorem dX11_fitsAllSeen_44 : decode cX11_fitsAllSeen 44 = .ok (.aload_n 0, 1) := by decide +kernel
theorem dX11_fitsAllSeen_45 : decode cX11_fitsAllSeen 45 = .ok (.getfield 37, 3) := by decide +kernel
theorem dX11_fitsAllSeen_48 : decode cX11_fitsAllSeen 48 = .ok (.iload 6, 2) := by decide +kernel
theorem dX11_fitsAllSeen_50 : decode cX11_fitsAllSeen 50 = .ok (.iload 5, 2) := by decide +kernel
theorem dX11_fitsAllSeen_52 : decode cX11_fitsAllSeen 52 = .ok (.iload_n 1, 1) := by decide +kernel
theorem dX11_fitsAllSeen_53 : decode cX11_fitsAllSeen 53 = .ok (.iload 8, 2) := by decide +kernel
theorem dX11_fitsAllSeen_55 : decode cX11_fitsAllSeen 55 = .ok (.idiv, 1) := by decide +kernel
theorem dX11_fitsAllSeen_56 : decode cX11_fitsAllSeen 56 = .ok (.bipush 9, 2) := by decide +kernel
theorem dX11_fitsAllSeen_58 : decode cX11_fitsAllSeen 58 = .ok (.irem, 1) := by decide +kernel
theorem dX11_fitsAllSeen_59 : decode cX11_fitsAllSeen 59 = .ok (.iload 4, 2) := by decide +kernel
theorem dX11_fitsAllSeen_61 : decode cX11_fitsAllSeen 61 = .ok (.invokevirtual 352, 3) := by decide +kernel
theorem dX11_fitsAllSeen_64 : decode cX11_fitsAllSeen 64 = .ok (.istore 6, 2) := by decide +kernel
theorem dX11_fitsAllSeen_66 : decode cX11_fitsAllSeen 66 = .ok (.iload 6, 2) := by decide +kernel
theorem dX11_fitsAllSeen_68 : decode cX11_fitsAllSeen 68 = .ok (.iconst (-1), 1) := by decide +kernel
theorem dX11_fitsAllSeen_69 : decode cX11_fitsAllSeen 69 = .ok (.if_icmp .ne 5, 3) := by decide +kernel
theorem dX11_fitsAllSeen_72 : decode cX11_fitsAllSeen 72 = .ok (.iconst 0, 1) := by decide +kernel
theorem dX11_fitsAllSeen_73 : decode cX11_fitsAllSeen 73 = .ok (.ireturn, 1) := by decide +kernel
theorem dX11_fitsAllSeen_74 : decode cX11_fitsAllSeen 74 = .ok (.iinc 7 1, 3) := by decide +kernel
theorem dX11_fitsAllSeen_77 : decode cX11_fitsAllSeen 77 = .ok (.iload 8, 2) := by decide +kernel
theorem dX11_fitsAllSeen_79 : decode cX11_fitsAllSeen 79 = .ok (.bipush 9, 2) := by decide +kernel
theorem dX11_fitsAllSeen_81 : decode cX11_fitsAllSeen 81 = .ok (.idiv, 1) := by decide +kernel
theorem dX11_fitsAllSeen_82 : decode cX11_fitsAllSeen 82 = .ok (.istore 8, 2) := by decide +kernel
theorem dX11_fitsAllSeen_84 : decode cX11_fitsAllSeen 84 = .ok (.goto (-60), 3) := by decide +kernel
theorem dX11_fitsAllSeen_87 : decode cX11_fitsAllSeen 87 = .ok (.aload_n 0, 1) := by decide +kernel
theorem dX11_fitsAllSeen_88 : decode cX11_fitsAllSeen 88 = .ok (.iload 7, 2) := by decide +kernel
theorem dX11_fitsAllSeen_90 : decode cX11_fitsAllSeen 90 = .ok (.iload 6, 2) := by decide +kernel
theorem dX11_fitsAllSeen_92 : decode cX11_fitsAllSeen 92 = .ok (.iload 5, 2) := by decide +kernel
theorem dX11_fitsAllSeen_94 : decode cX11_fitsAllSeen 94 = .ok (.invokevirtual 349, 3) := by decide +kernel
theorem dX11_fitsAllSeen_97 : decode cX11_fitsAllSeen 97 = .ok (.ireturn, 1) := by decide +kernel
theorem dX11_fitsSeen_0 : decode cX11_fitsSeen 0 = .ok (.aload_n 0, 1) := by decide +kernel
theorem dX11_fitsSeen_1 : decode cX11_fitsSeen 1 = .ok (.getfield 20, 3) := by decide +kernel
theorem dX11_fitsSeen_4 : decode cX11_fitsSeen 4 = .ok (.getfield 334, 3) := by decide +kernel
theorem dX11_fitsSeen_7 : decode cX11_fitsSeen 7 = .ok (.astore 4, 2) := by decide +kernel
theorem dX11_fitsSeen_9 : decode cX11_fitsSeen 9 = .ok (.iconst 0, 1) := by decide +kernel
theorem dX11_fitsSeen_10 : decode cX11_fitsSeen 10 = .ok (.istore 5, 2) := by decide +kernel
theorem dX11_fitsSeen_12 : decode cX11_fitsSeen 12 = .ok (.iload 5, 2) := by decide +kernel
theorem dX11_fitsSeen_14 : decode cX11_fitsSeen 14 = .ok (.aload 4, 2) := by decide +kernel
theorem dX11_fitsSeen_16 : decode cX11_fitsSeen 16 = .ok (.getfield 328, 3) := by decide +kernel
theorem dX11_fitsSeen_19 : decode cX11_fitsSeen 19 = .ok (.if_icmp .ge 56, 3) := by decide +kernel
theorem dX11_fitsSeen_22 : decode cX11_fitsSeen 22 = .ok (.aload 4, 2) := by decide +kernel
theorem dX11_fitsSeen_24 : decode cX11_fitsSeen 24 = .ok (.iload 5, 2) := by decide +kernel
theorem dX11_fitsSeen_26 : decode cX11_fitsSeen 26 = .ok (.iconst 0, 1) := by decide +kernel
theorem dX11_fitsSeen_27 : decode cX11_fitsSeen 27 = .ok (.invokevirtual 331, 3) := by decide +kernel
theorem dX11_fitsSeen_30 : decode cX11_fitsSeen 30 = .ok (.iload_n 1, 1) := by decide +kernel
theorem dX11_fitsSeen_31 : decode cX11_fitsSeen 31 = .ok (.if_icmp .ne 38, 3) := by decide +kernel
theorem dX11_fitsSeen_34 : decode cX11_fitsSeen 34 = .ok (.aload 4, 2) := by decide +kernel
theorem dX11_fitsSeen_36 : decode cX11_fitsSeen 36 = .ok (.iload 5, 2) := by decide +kernel
theorem dX11_fitsSeen_38 : decode cX11_fitsSeen 38 = .ok (.iconst 1, 1) := by decide +kernel
theorem dX11_fitsSeen_39 : decode cX11_fitsSeen 39 = .ok (.invokevirtual 331, 3) := by decide +kernel
theorem dX11_fitsSeen_42 : decode cX11_fitsSeen 42 = .ok (.istore 6, 2) := by decide +kernel
theorem dX11_fitsSeen_44 : decode cX11_fitsSeen 44 = .ok (.iload 6, 2) := by decide +kernel
theorem dX11_fitsSeen_46 : decode cX11_fitsSeen 46 = .ok (.iload_n 3, 1) := by decide +kernel
theorem dX11_fitsSeen_47 : decode cX11_fitsSeen 47 = .ok (.if_icmp .ge 20, 3) := by decide +kernel
theorem dX11_fitsSeen_50 : decode cX11_fitsSeen 50 = .ok (.iload_n 2, 1) := by decide +kernel
theorem dX11_fitsSeen_51 : decode cX11_fitsSeen 51 = .ok (.iload 6, 2) := by decide +kernel
theorem dX11_fitsSeen_53 : decode cX11_fitsSeen 53 = .ok (.invokestatic 356, 3) := by decide +kernel
theorem dX11_fitsSeen_56 : decode cX11_fitsSeen 56 = .ok (.aload 4, 2) := by decide +kernel
theorem dX11_fitsSeen_58 : decode cX11_fitsSeen 58 = .ok (.iload 5, 2) := by decide +kernel
theorem dX11_fitsSeen_60 : decode cX11_fitsSeen 60 = .ok (.iconst 2, 1) := by decide +kernel
theorem dX11_fitsSeen_61 : decode cX11_fitsSeen 61 = .ok (.invokevirtual 331, 3) := by decide +kernel
theorem dX11_fitsSeen_64 : decode cX11_fitsSeen 64 = .ok (.if_icmp .eq 5, 3) := by decide +kernel
theorem dX11_fitsSeen_67 : decode cX11_fitsSeen 67 = .ok (.iconst 0, 1) := by decide +kernel
theorem dX11_fitsSeen_68 : decode cX11_fitsSeen 68 = .ok (.ireturn, 1) := by decide +kernel
theorem dX11_fitsSeen_69 : decode cX11_fitsSeen 69 = .ok (.iinc 5 1, 3) := by decide +kernel
theorem dX11_fitsSeen_72 : decode cX11_fitsSeen 72 = .ok (.goto (-60), 3) := by decide +kernel
theorem dX11_fitsSeen_75 : decode cX11_fitsSeen 75 = .ok (.iconst 1, 1) := by decide +kernel
theorem dX11_fitsSeen_76 : decode cX11_fitsSeen 76 = .ok (.ireturn, 1) := by decide +kernel
theorem dX11_late_0 : decode cX11_late 0 = .ok (.aload_n 0, 1) := by decide +kernel
theorem dX11_late_1 : decode cX11_late 1 = .ok (.iload_n 1, 1) := by decide +kernel
theorem dX11_late_2 : decode cX11_late 2 = .ok (.invokevirtual 89, 3) := by decide +kernel
theorem dX11_late_5 : decode cX11_late 5 = .ok (.ifCond .eq 13, 3) := by decide +kernel
theorem dX11_late_8 : decode cX11_late 8 = .ok (.iload_n 2, 1) := by decide +kernel
theorem dX11_late_9 : decode cX11_late 9 = .ok (.iconst 0, 1) := by decide +kernel
theorem dX11_late_10 : decode cX11_late 10 = .ok (.bipush 10, 2) := by decide +kernel
theorem dX11_late_12 : decode cX11_late 12 = .ok (.invokestatic 62, 3) := by decide +kernel
theorem dX11_late_15 : decode cX11_late 15 = .ok (.ifCond .ne 5, 3) := by decide +kernel
theorem dX11_late_18 : decode cX11_late 18 = .ok (.iconst 0, 1) := by decide +kernel
theorem dX11_late_19 : decode cX11_late 19 = .ok (.ireturn, 1) := by decide +kernel
theorem dX11_late_20 : decode cX11_late 20 = .ok (.aload_n 0, 1) := by decide +kernel
theorem dX11_late_21 : decode cX11_late 21 = .ok (.getfield 20, 3) := by decide +kernel
theorem dX11_late_24 : decode cX11_late 24 = .ok (.getfield 359, 3) := by decide +kernel
theorem dX11_late_27 : decode cX11_late 27 = .ok (.iload_n 1, 1) := by decide +kernel
theorem dX11_late_28 : decode cX11_late 28 = .ok (.iload_n 2, 1) := by decide +kernel
theorem dX11_late_29 : decode cX11_late 29 = .ok (.iastore, 1) := by decide +kernel
theorem dX11_late_30 : decode cX11_late 30 = .ok (.iconst 1, 1) := by decide +kernel
theorem dX11_late_31 : decode cX11_late 31 = .ok (.ireturn, 1) := by decide +kernel
theorem dX11_likely_0 : decode cX11_likely 0 = .ok (.iload_n 1, 1) := by decide +kernel
theorem dX11_likely_1 : decode cX11_likely 1 = .ok (.iconst 0, 1) := by decide +kernel
theorem dX11_likely_2 : decode cX11_likely 2 = .ok (.aload_n 0, 1) := by decide +kernel
theorem dX11_likely_3 : decode cX11_likely 3 = .ok (.getfield 20, 3) := by decide +kernel
theorem dX11_likely_6 : decode cX11_likely 6 = .ok (.getfield 66, 3) := by decide +kernel
theorem dX11_likely_9 : decode cX11_likely 9 = .ok (.invokevirtual 269, 3) := by decide +kernel
theorem dX11_likely_12 : decode cX11_likely 12 = .ok (.invokestatic 62, 3) := by decide +kernel
theorem dX11_likely_15 : decode cX11_likely 15 = .ok (.ifCond .ne 7, 3) := by decide +kernel
theorem dX11_likely_18 : decode cX11_likely 18 = .ok (.ldc2_w 278, 3) := by decide +kernel
theorem dX11_likely_21 : decode cX11_likely 21 = .ok (.lreturn, 1) := by decide +kernel
theorem dX11_likely_22 : decode cX11_likely 22 = .ok (.lconst 1, 1) := by decide +kernel
theorem dX11_likely_23 : decode cX11_likely 23 = .ok (.lstore_n 3, 1) := by decide +kernel
theorem dX11_likely_24 : decode cX11_likely 24 = .ok (.lconst 1, 1) := by decide +kernel
theorem dX11_likely_25 : decode cX11_likely 25 = .ok (.lstore 5, 2) := by decide +kernel
theorem dX11_likely_27 : decode cX11_likely 27 = .ok (.iconst 0, 1) := by decide +kernel
theorem dX11_likely_28 : decode cX11_likely 28 = .ok (.istore 7, 2) := by decide +kernel
theorem dX11_likely_30 : decode cX11_likely 30 = .ok (.iload 7, 2) := by decide +kernel
theorem dX11_likely_32 : decode cX11_likely 32 = .ok (.iconst 5, 1) := by decide +kernel
theorem dX11_likely_33 : decode cX11_likely 33 = .ok (.if_icmp .ge 43, 3) := by decide +kernel
theorem dX11_likely_36 : decode cX11_likely 36 = .ok (.iload_n 1, 1) := by decide +kernel
theorem dX11_likely_37 : decode cX11_likely 37 = .ok (.iload 7, 2) := by decide +kernel
theorem dX11_likely_39 : decode cX11_likely 39 = .ok (.ishr, 1) := by decide +kernel
theorem dX11_likely_40 : decode cX11_likely 40 = .ok (.iconst 1, 1) := by decide +kernel
theorem dX11_likely_41 : decode cX11_likely 41 = .ok (.iand, 1) := by decide +kernel
theorem dX11_likely_42 : decode cX11_likely 42 = .ok (.ifCond .eq 28, 3) := by decide +kernel
theorem dX11_likely_45 : decode cX11_likely 45 = .ok (.lload_n 3, 1) := by decide +kernel
theorem dX11_likely_46 : decode cX11_likely 46 = .ok (.bipush 10, 2) := by decide +kernel
theorem dX11_likely_48 : decode cX11_likely 48 = .ok (.aload_n 0, 1) := by decide +kernel
theorem dX11_likely_49 : decode cX11_likely 49 = .ok (.getfield 20, 3) := by decide +kernel
theorem dX11_likely_52 : decode cX11_likely 52 = .ok (.getfield 359, 3) := by decide +kernel
theorem dX11_likely_55 : decode cX11_likely 55 = .ok (.iload 7, 2) := by decide +kernel
theorem dX11_likely_57 : decode cX11_likely 57 = .ok (.iaload, 1) := by decide +kernel
theorem dX11_likely_58 : decode cX11_likely 58 = .ok (.isub, 1) := by decide +kernel
theorem dX11_likely_59 : decode cX11_likely 59 = .ok (.i2l, 1) := by decide +kernel
theorem dX11_likely_60 : decode cX11_likely 60 = .ok (.lmul, 1) := by decide +kernel
theorem dX11_likely_61 : decode cX11_likely 61 = .ok (.lstore_n 3, 1) := by decide +kernel
theorem dX11_likely_62 : decode cX11_likely 62 = .ok (.lload 5, 2) := by decide +kernel
theorem dX11_likely_64 : decode cX11_likely 64 = .ok (.ldc2_w 362, 3) := by decide +kernel
theorem dX11_likely_67 : decode cX11_likely 67 = .ok (.lmul, 1) := by decide +kernel
theorem dX11_likely_68 : decode cX11_likely 68 = .ok (.lstore 5, 2) := by decide +kernel
theorem dX11_likely_70 : decode cX11_likely 70 = .ok (.iinc 7 1, 3) := by decide +kernel
theorem dX11_likely_73 : decode cX11_likely 73 = .ok (.goto (-43), 3) := by decide +kernel
theorem dX11_likely_76 : decode cX11_likely 76 = .ok (.lload_n 3, 1) := by decide +kernel
theorem dX11_likely_77 : decode cX11_likely 77 = .ok (.lload 5, 2) := by decide +kernel
theorem dX11_likely_79 : decode cX11_likely 79 = .ok (.invokestatic 364, 3) := by decide +kernel
theorem dX11_likely_82 : decode cX11_likely 82 = .ok (.lstore 7, 2) := by decide +kernel
theorem dX11_likely_84 : decode cX11_likely 84 = .ok (.lload 7, 2) := by decide +kernel
theorem dX11_likely_86 : decode cX11_likely 86 = .ok (.lconst 0, 1) := by decide +kernel
theorem dX11_likely_87 : decode cX11_likely 87 = .ok (.lcmp, 1) := by decide +kernel
theorem dX11_likely_88 : decode cX11_likely 88 = .ok (.ifCond .ne 7, 3) := by decide +kernel
theorem dX11_likely_91 : decode cX11_likely 91 = .ok (.ldc2_w 278, 3) := by decide +kernel
theorem dX11_likely_94 : decode cX11_likely 94 = .ok (.lreturn, 1) := by decide +kernel
theorem dX11_likely_95 : decode cX11_likely 95 = .ok (.iload_n 2, 1) := by decide +kernel
theorem dX11_likely_96 : decode cX11_likely 96 = .ok (.ifCond .eq 8, 3) := by decide +kernel
theorem dX11_likely_99 : decode cX11_likely 99 = .ok (.lload 5, 2) := by decide +kernel
theorem dX11_likely_101 : decode cX11_likely 101 = .ok (.goto 4, 3) := by decide +kernel
theorem dX11_likely_104 : decode cX11_likely 104 = .ok (.lload_n 3, 1) := by decide +kernel
theorem dX11_likely_105 : decode cX11_likely 105 = .ok (.lload 7, 2) := by decide +kernel
theorem dX11_likely_107 : decode cX11_likely 107 = .ok (.ldiv, 1) := by decide +kernel
theorem dX11_likely_108 : decode cX11_likely 108 = .ok (.lreturn, 1) := by decide +kernel
theorem dX11_commonDivisor_0 : decode cX11_commonDivisor 0 = .ok (.lload_n 2, 1) := by decide +kernel
theorem dX11_commonDivisor_1 : decode cX11_commonDivisor 1 = .ok (.lstore 4, 2) := by decide +kernel
theorem dX11_commonDivisor_3 : decode cX11_commonDivisor 3 = .ok (.lload_n 0, 1) := by decide +kernel
theorem dX11_commonDivisor_4 : decode cX11_commonDivisor 4 = .ok (.lstore 6, 2) := by decide +kernel
theorem dX11_commonDivisor_6 : decode cX11_commonDivisor 6 = .ok (.iconst 0, 1) := by decide +kernel
theorem dX11_commonDivisor_7 : decode cX11_commonDivisor 7 = .ok (.istore 8, 2) := by decide +kernel
theorem dX11_commonDivisor_9 : decode cX11_commonDivisor 9 = .ok (.iload 8, 2) := by decide +kernel
theorem dX11_commonDivisor_11 : decode cX11_commonDivisor 11 = .ok (.sipush 1000, 3) := by decide +kernel
theorem dX11_commonDivisor_14 : decode cX11_commonDivisor 14 = .ok (.if_icmp .ge 31, 3) := by decide +kernel
theorem dX11_commonDivisor_17 : decode cX11_commonDivisor 17 = .ok (.lload 6, 2) := by decide +kernel
theorem dX11_commonDivisor_19 : decode cX11_commonDivisor 19 = .ok (.lconst 0, 1) := by decide +kernel
theorem dX11_commonDivisor_20 : decode cX11_commonDivisor 20 = .ok (.lcmp, 1) := by decide +kernel
theorem dX11_commonDivisor_21 : decode cX11_commonDivisor 21 = .ok (.ifCond .eq 24, 3) := by decide +kernel
theorem dX11_commonDivisor_24 : decode cX11_commonDivisor 24 = .ok (.lload 4, 2) := by decide +kernel
theorem dX11_commonDivisor_26 : decode cX11_commonDivisor 26 = .ok (.lload 6, 2) := by decide +kernel
theorem dX11_commonDivisor_28 : decode cX11_commonDivisor 28 = .ok (.lrem, 1) := by decide +kernel
theorem dX11_commonDivisor_29 : decode cX11_commonDivisor 29 = .ok (.lstore 9, 2) := by decide +kernel
theorem dX11_commonDivisor_31 : decode cX11_commonDivisor 31 = .ok (.lload 6, 2) := by decide +kernel
theorem dX11_commonDivisor_33 : decode cX11_commonDivisor 33 = .ok (.lstore 4, 2) := by decide +kernel
theorem dX11_commonDivisor_35 : decode cX11_commonDivisor 35 = .ok (.lload 9, 2) := by decide +kernel
theorem dX11_commonDivisor_37 : decode cX11_commonDivisor 37 = .ok (.lstore 6, 2) := by decide +kernel
theorem dX11_commonDivisor_39 : decode cX11_commonDivisor 39 = .ok (.iinc 8 1, 3) := by decide +kernel
theorem dX11_commonDivisor_42 : decode cX11_commonDivisor 42 = .ok (.goto (-33), 3) := by decide +kernel
theorem dX11_commonDivisor_45 : decode cX11_commonDivisor 45 = .ok (.lload 4, 2) := by decide +kernel
theorem dX11_commonDivisor_47 : decode cX11_commonDivisor 47 = .ok (.lreturn, 1) := by decide +kernel
theorem dX11_said_0 : decode cX11_said 0 = .ok (.iload_n 1, 1) := by decide +kernel
theorem dX11_said_1 : decode cX11_said 1 = .ok (.iconst (-1), 1) := by decide +kernel
theorem dX11_said_2 : decode cX11_said 2 = .ok (.if_icmp .ne 14, 3) := by decide +kernel
theorem dX11_said_5 : decode cX11_said 5 = .ok (.aload_n 0, 1) := by decide +kernel
theorem dX11_said_6 : decode cX11_said 6 = .ok (.getfield 20, 3) := by decide +kernel
theorem dX11_said_9 : decode cX11_said 9 = .ok (.getfield 368, 3) := by decide +kernel
theorem dX11_said_12 : decode cX11_said 12 = .ok (.invokevirtual 317, 3) := by decide +kernel
theorem dX11_said_15 : decode cX11_said 15 = .ok (.ireturn, 1) := by decide +kernel
theorem dX11_said_16 : decode cX11_said 16 = .ok (.aload_n 0, 1) := by decide +kernel
theorem dX11_said_17 : decode cX11_said 17 = .ok (.iload_n 1, 1) := by decide +kernel
theorem dX11_said_18 : decode cX11_said 18 = .ok (.invokevirtual 89, 3) := by decide +kernel
theorem dX11_said_21 : decode cX11_said 21 = .ok (.ifCond .eq 14, 3) := by decide +kernel
theorem dX11_said_24 : decode cX11_said 24 = .ok (.iload_n 2, 1) := by decide +kernel
theorem dX11_said_25 : decode cX11_said 25 = .ok (.bipush (-9), 2) := by decide +kernel
theorem dX11_said_27 : decode cX11_said 27 = .ok (.bipush 9, 2) := by decide +kernel
theorem dX11_said_29 : decode cX11_said 29 = .ok (.invokestatic 62, 3) := by decide +kernel
theorem dX11_said_32 : decode cX11_said 32 = .ok (.ifCond .ne 6, 3) := by decide +kernel
theorem dX11_said_35 : decode cX11_said 35 = .ok (.bipush (-2), 2) := by decide +kernel
theorem dX11_said_37 : decode cX11_said 37 = .ok (.ireturn, 1) := by decide +kernel
theorem dX11_said_38 : decode cX11_said 38 = .ok (.aload_n 0, 1) := by decide +kernel
theorem dX11_said_39 : decode cX11_said 39 = .ok (.getfield 20, 3) := by decide +kernel
theorem dX11_said_42 : decode cX11_said 42 = .ok (.getfield 368, 3) := by decide +kernel
theorem dX11_said_45 : decode cX11_said 45 = .ok (.iload_n 1, 1) := by decide +kernel
theorem dX11_said_46 : decode cX11_said 46 = .ok (.iload_n 2, 1) := by decide +kernel
theorem dX11_said_47 : decode cX11_said 47 = .ok (.iconst 0, 1) := by decide +kernel
theorem dX11_said_48 : decode cX11_said 48 = .ok (.invokevirtual 322, 3) := by decide +kernel
theorem dX11_said_51 : decode cX11_said 51 = .ok (.ireturn, 1) := by decide +kernel
theorem dX11_whose_0 : decode cX11_whose 0 = .ok (.iconst 0, 1) := by decide +kernel
theorem dX11_whose_1 : decode cX11_whose 1 = .ok (.istore_n 1, 1) := by decide +kernel
theorem dX11_whose_2 : decode cX11_whose 2 = .ok (.iconst 0, 1) := by decide +kernel
theorem dX11_whose_3 : decode cX11_whose 3 = .ok (.istore_n 2, 1) := by decide +kernel
theorem dX11_whose_4 : decode cX11_whose 4 = .ok (.iload_n 2, 1) := by decide +kernel
theorem dX11_whose_5 : decode cX11_whose 5 = .ok (.aload_n 0, 1) := by decide +kernel
theorem dX11_whose_6 : decode cX11_whose 6 = .ok (.getfield 20, 3) := by decide +kernel
theorem dX11_whose_9 : decode cX11_whose 9 = .ok (.getfield 73, 3) := by decide +kernel
theorem dX11_whose_12 : decode cX11_whose 12 = .ok (.if_icmp .ge 31, 3) := by decide +kernel
theorem dX11_whose_15 : decode cX11_whose 15 = .ok (.aload_n 0, 1) := by decide +kernel
theorem dX11_whose_16 : decode cX11_whose 16 = .ok (.aload_n 0, 1) := by decide +kernel
theorem dX11_whose_17 : decode cX11_whose 17 = .ok (.getfield 20, 3) := by decide +kernel
theorem dX11_whose_20 : decode cX11_whose 20 = .ok (.getfield 77, 3) := by decide +kernel
theorem dX11_whose_23 : decode cX11_whose 23 = .ok (.iload_n 2, 1) := by decide +kernel
theorem dX11_whose_24 : decode cX11_whose 24 = .ok (.aaload, 1) := by decide +kernel
theorem dX11_whose_25 : decode cX11_whose 25 = .ok (.invokevirtual 371, 3) := by decide +kernel
theorem dX11_whose_28 : decode cX11_whose 28 = .ok (.ifCond .eq 9, 3) := by decide +kernel
theorem dX11_whose_31 : decode cX11_whose 31 = .ok (.iload_n 1, 1) := by decide +kernel
theorem dX11_whose_32 : decode cX11_whose 32 = .ok (.iconst 1, 1) := by decide +kernel
theorem dX11_whose_33 : decode cX11_whose 33 = .ok (.iload_n 2, 1) := by decide +kernel
theorem dX11_whose_34 : decode cX11_whose 34 = .ok (.ishl, 1) := by decide +kernel
theorem dX11_whose_35 : decode cX11_whose 35 = .ok (.ior, 1) := by decide +kernel
theorem dX11_whose_36 : decode cX11_whose 36 = .ok (.istore_n 1, 1) := by decide +kernel
theorem dX11_whose_37 : decode cX11_whose 37 = .ok (.iinc 2 1, 3) := by decide +kernel
theorem dX11_whose_40 : decode cX11_whose 40 = .ok (.goto (-36), 3) := by decide +kernel
theorem dX11_whose_43 : decode cX11_whose 43 = .ok (.iload_n 1, 1) := by decide +kernel
theorem dX11_whose_44 : decode cX11_whose 44 = .ok (.ireturn, 1) := by decide +kernel
theorem dX11_saysAllThatWasSaid_0 : decode cX11_saysAllThatWasSaid 0 = .ok (.aload_n 0, 1) := by decide +kernel
theorem dX11_saysAllThatWasSaid_1 : decode cX11_saysAllThatWasSaid 1 = .ok (.getfield 20, 3) := by decide +kernel
theorem dX11_saysAllThatWasSaid_4 : decode cX11_saysAllThatWasSaid 4 = .ok (.getfield 368, 3) := by decide +kernel
theorem dX11_saysAllThatWasSaid_7 : decode cX11_saysAllThatWasSaid 7 = .ok (.astore_n 2, 1) := by decide +kernel
theorem dX11_saysAllThatWasSaid_8 : decode cX11_saysAllThatWasSaid 8 = .ok (.iconst 0, 1) := by decide +kernel
theorem dX11_saysAllThatWasSaid_9 : decode cX11_saysAllThatWasSaid 9 = .ok (.istore_n 3, 1) := by decide +kernel
theorem dX11_saysAllThatWasSaid_10 : decode cX11_saysAllThatWasSaid 10 = .ok (.iload_n 3, 1) := by decide +kernel
theorem dX11_saysAllThatWasSaid_11 : decode cX11_saysAllThatWasSaid 11 = .ok (.aload_n 2, 1) := by decide +kernel
theorem dX11_saysAllThatWasSaid_12 : decode cX11_saysAllThatWasSaid 12 = .ok (.getfield 328, 3) := by decide +kernel
theorem dX11_saysAllThatWasSaid_15 : decode cX11_saysAllThatWasSaid 15 = .ok (.if_icmp .ge 34, 3) := by decide +kernel
theorem dX11_saysAllThatWasSaid_18 : decode cX11_saysAllThatWasSaid 18 = .ok (.aload_n 0, 1) := by decide +kernel
theorem dX11_saysAllThatWasSaid_19 : decode cX11_saysAllThatWasSaid 19 = .ok (.getfield 10, 3) := by decide +kernel
theorem dX11_saysAllThatWasSaid_22 : decode cX11_saysAllThatWasSaid 22 = .ok (.aload_n 1, 1) := by decide +kernel
theorem dX11_saysAllThatWasSaid_23 : decode cX11_saysAllThatWasSaid 23 = .ok (.aload_n 2, 1) := by decide +kernel
theorem dX11_saysAllThatWasSaid_24 : decode cX11_saysAllThatWasSaid 24 = .ok (.iload_n 3, 1) := by decide +kernel
theorem dX11_saysAllThatWasSaid_25 : decode cX11_saysAllThatWasSaid 25 = .ok (.iconst 0, 1) := by decide +kernel
theorem dX11_saysAllThatWasSaid_26 : decode cX11_saysAllThatWasSaid 26 = .ok (.invokevirtual 331, 3) := by decide +kernel
theorem dX11_saysAllThatWasSaid_29 : decode cX11_saysAllThatWasSaid 29 = .ok (.invokevirtual 203, 3) := by decide +kernel
theorem dX11_saysAllThatWasSaid_32 : decode cX11_saysAllThatWasSaid 32 = .ok (.aload_n 2, 1) := by decide +kernel
theorem dX11_saysAllThatWasSaid_33 : decode cX11_saysAllThatWasSaid 33 = .ok (.iload_n 3, 1) := by decide +kernel
theorem dX11_saysAllThatWasSaid_34 : decode cX11_saysAllThatWasSaid 34 = .ok (.iconst 1, 1) := by decide +kernel
theorem dX11_saysAllThatWasSaid_35 : decode cX11_saysAllThatWasSaid 35 = .ok (.invokevirtual 331, 3) := by decide +kernel
theorem dX11_saysAllThatWasSaid_38 : decode cX11_saysAllThatWasSaid 38 = .ok (.if_icmp .eq 5, 3) := by decide +kernel
theorem dX11_saysAllThatWasSaid_41 : decode cX11_saysAllThatWasSaid 41 = .ok (.iconst 0, 1) := by decide +kernel
theorem dX11_saysAllThatWasSaid_42 : decode cX11_saysAllThatWasSaid 42 = .ok (.ireturn, 1) := by decide +kernel
theorem dX11_saysAllThatWasSaid_43 : decode cX11_saysAllThatWasSaid 43 = .ok (.iinc 3 1, 3) := by decide +kernel
theorem dX11_saysAllThatWasSaid_46 : decode cX11_saysAllThatWasSaid 46 = .ok (.goto (-36), 3) := by decide +kernel
theorem dX11_saysAllThatWasSaid_49 : decode cX11_saysAllThatWasSaid 49 = .ok (.iconst 1, 1) := by decide +kernel
theorem dX11_saysAllThatWasSaid_50 : decode cX11_saysAllThatWasSaid 50 = .ok (.ireturn, 1) := by decide +kernel
theorem dX11_heaviest_0 : decode cX11_heaviest 0 = .ok (.iconst (-1), 1) := by decide +kernel
theorem dX11_heaviest_1 : decode cX11_heaviest 1 = .ok (.istore_n 1, 1) := by decide +kernel
theorem dX11_heaviest_2 : decode cX11_heaviest 2 = .ok (.iconst 0, 1) := by decide +kernel
theorem dX11_heaviest_3 : decode cX11_heaviest 3 = .ok (.istore_n 2, 1) := by decide +kernel
theorem dX11_heaviest_4 : decode cX11_heaviest 4 = .ok (.iconst 0, 1) := by decide +kernel
theorem dX11_heaviest_5 : decode cX11_heaviest 5 = .ok (.istore_n 3, 1) := by decide +kernel
theorem dX11_heaviest_6 : decode cX11_heaviest 6 = .ok (.iload_n 3, 1) := by decide +kernel
theorem dX11_heaviest_7 : decode cX11_heaviest 7 = .ok (.iconst 3, 1) := by decide +kernel
theorem dX11_heaviest_8 : decode cX11_heaviest 8 = .ok (.if_icmp .ge 30, 3) := by decide +kernel
theorem dX11_heaviest_11 : decode cX11_heaviest 11 = .ok (.aload_n 0, 1) := by decide +kernel
theorem dX11_heaviest_12 : decode cX11_heaviest 12 = .ok (.getfield 20, 3) := by decide +kernel
theorem dX11_heaviest_15 : decode cX11_heaviest 15 = .ok (.iload_n 3, 1) := by decide +kernel
theorem dX11_heaviest_16 : decode cX11_heaviest 16 = .ok (.invokevirtual 375, 3) := by decide +kernel
theorem dX11_heaviest_19 : decode cX11_heaviest 19 = .ok (.istore 4, 2) := by decide +kernel
theorem dX11_heaviest_21 : decode cX11_heaviest 21 = .ok (.iload 4, 2) := by decide +kernel
theorem dX11_heaviest_23 : decode cX11_heaviest 23 = .ok (.iload_n 2, 1) := by decide +kernel
theorem dX11_heaviest_24 : decode cX11_heaviest 24 = .ok (.if_icmp .le 8, 3) := by decide +kernel
theorem dX11_heaviest_27 : decode cX11_heaviest 27 = .ok (.iload 4, 2) := by decide +kernel
theorem dX11_heaviest_29 : decode cX11_heaviest 29 = .ok (.istore_n 2, 1) := by decide +kernel
theorem dX11_heaviest_30 : decode cX11_heaviest 30 = .ok (.iload_n 3, 1) := by decide +kernel
theorem dX11_heaviest_31 : decode cX11_heaviest 31 = .ok (.istore_n 1, 1) := by decide +kernel
theorem dX11_heaviest_32 : decode cX11_heaviest 32 = .ok (.iinc 3 1, 3) := by decide +kernel
theorem dX11_heaviest_35 : decode cX11_heaviest 35 = .ok (.goto (-29), 3) := by decide +kernel
theorem dX11_heaviest_38 : decode cX11_heaviest 38 = .ok (.iload_n 1, 1) := by decide +kernel
theorem dX11_heaviest_39 : decode cX11_heaviest 39 = .ok (.ireturn, 1) := by decide +kernel
theorem dX11_worn_0 : decode cX11_worn 0 = .ok (.iconst (-1), 1) := by decide +kernel
theorem dX11_worn_1 : decode cX11_worn 1 = .ok (.istore_n 1, 1) := by decide +kernel
theorem dX11_worn_2 : decode cX11_worn 2 = .ok (.iconst 0, 1) := by decide +kernel
theorem dX11_worn_3 : decode cX11_worn 3 = .ok (.istore_n 2, 1) := by decide +kernel
theorem dX11_worn_4 : decode cX11_worn 4 = .ok (.iconst 0, 1) := by decide +kernel
theorem dX11_worn_5 : decode cX11_worn 5 = .ok (.istore_n 3, 1) := by decide +kernel
theorem dX11_worn_6 : decode cX11_worn 6 = .ok (.iload_n 3, 1) := by decide +kernel
theorem dX11_worn_7 : decode cX11_worn 7 = .ok (.aload_n 0, 1) := by decide +kernel
theorem dX11_worn_8 : decode cX11_worn 8 = .ok (.getfield 20, 3) := by decide +kernel
theorem dX11_worn_11 : decode cX11_worn 11 = .ok (.getfield 66, 3) := by decide +kernel
theorem dX11_worn_14 : decode cX11_worn 14 = .ok (.invokevirtual 69, 3) := by decide +kernel
theorem dX11_worn_17 : decode cX11_worn 17 = .ok (.if_icmp .ge 38, 3) := by decide +kernel
theorem dX11_worn_20 : decode cX11_worn 20 = .ok (.aload_n 0, 1) := by decide +kernel
theorem dX11_worn_21 : decode cX11_worn 21 = .ok (.getfield 20, 3) := by decide +kernel
theorem dX11_worn_24 : decode cX11_worn 24 = .ok (.getfield 66, 3) := by decide +kernel
theorem dX11_worn_27 : decode cX11_worn 27 = .ok (.iload_n 3, 1) := by decide +kernel
theorem dX11_worn_28 : decode cX11_worn 28 = .ok (.invokevirtual 188, 3) := by decide +kernel
theorem dX11_worn_31 : decode cX11_worn 31 = .ok (.iload_n 2, 1) := by decide +kernel
theorem dX11_worn_32 : decode cX11_worn 32 = .ok (.if_icmp .le 17, 3) := by decide +kernel
theorem dX11_worn_35 : decode cX11_worn 35 = .ok (.aload_n 0, 1) := by decide +kernel
theorem dX11_worn_36 : decode cX11_worn 36 = .ok (.getfield 20, 3) := by decide +kernel
theorem dX11_worn_39 : decode cX11_worn 39 = .ok (.getfield 66, 3) := by decide +kernel
theorem dX11_worn_42 : decode cX11_worn 42 = .ok (.iload_n 3, 1) := by decide +kernel
theorem dX11_worn_43 : decode cX11_worn 43 = .ok (.invokevirtual 188, 3) := by decide +kernel
theorem dX11_worn_46 : decode cX11_worn 46 = .ok (.istore_n 2, 1) := by decide +kernel
theorem dX11_worn_47 : decode cX11_worn 47 = .ok (.iload_n 3, 1) := by decide +kernel
theorem dX11_worn_48 : decode cX11_worn 48 = .ok (.istore_n 1, 1) := by decide +kernel
theorem dX11_worn_49 : decode cX11_worn 49 = .ok (.iinc 3 1, 3) := by decide +kernel
theorem dX11_worn_52 : decode cX11_worn 52 = .ok (.goto (-46), 3) := by decide +kernel
theorem dX11_worn_55 : decode cX11_worn 55 = .ok (.iload_n 1, 1) := by decide +kernel
theorem dX11_worn_56 : decode cX11_worn 56 = .ok (.ireturn, 1) := by decide +kernel
theorem dX11_amiss_0 : decode cX11_amiss 0 = .ok (.iconst 0, 1) := by decide +kernel
theorem dX11_amiss_1 : decode cX11_amiss 1 = .ok (.istore_n 1, 1) := by decide +kernel
theorem dX11_amiss_2 : decode cX11_amiss 2 = .ok (.iconst 0, 1) := by decide +kernel
theorem dX11_amiss_3 : decode cX11_amiss 3 = .ok (.istore_n 2, 1) := by decide +kernel
theorem dX11_amiss_4 : decode cX11_amiss 4 = .ok (.iload_n 2, 1) := by decide +kernel
theorem dX11_amiss_5 : decode cX11_amiss 5 = .ok (.iconst 3, 1) := by decide +kernel
theorem dX11_amiss_6 : decode cX11_amiss 6 = .ok (.if_icmp .ge 71, 3) := by decide +kernel
theorem dX11_amiss_9 : decode cX11_amiss 9 = .ok (.iconst 1, 1) := by decide +kernel
theorem dX11_amiss_10 : decode cX11_amiss 10 = .ok (.istore_n 3, 1) := by decide +kernel
theorem dX11_amiss_11 : decode cX11_amiss 11 = .ok (.iload_n 3, 1) := by decide +kernel
theorem dX11_amiss_12 : decode cX11_amiss 12 = .ok (.aload_n 0, 1) := by decide +kernel
theorem dX11_amiss_13 : decode cX11_amiss 13 = .ok (.getfield 20, 3) := by decide +kernel
theorem dX11_amiss_16 : decode cX11_amiss 16 = .ok (.getfield 66, 3) := by decide +kernel
theorem dX11_amiss_19 : decode cX11_amiss 19 = .ok (.iload_n 2, 1) := by decide +kernel
theorem dX11_amiss_20 : decode cX11_amiss 20 = .ok (.invokevirtual 191, 3) := by decide +kernel
theorem dX11_amiss_23 : decode cX11_amiss 23 = .ok (.if_icmp .ge 48, 3) := by decide +kernel
theorem dX11_amiss_26 : decode cX11_amiss 26 = .ok (.aload_n 0, 1) := by decide +kernel
theorem dX11_amiss_27 : decode cX11_amiss 27 = .ok (.getfield 20, 3) := by decide +kernel
theorem dX11_amiss_30 : decode cX11_amiss 30 = .ok (.aload_n 0, 1) := by decide +kernel
theorem dX11_amiss_31 : decode cX11_amiss 31 = .ok (.getfield 20, 3) := by decide +kernel
theorem dX11_amiss_34 : decode cX11_amiss 34 = .ok (.getfield 66, 3) := by decide +kernel
theorem dX11_amiss_37 : decode cX11_amiss 37 = .ok (.iload_n 2, 1) := by decide +kernel
theorem dX11_amiss_38 : decode cX11_amiss 38 = .ok (.iload_n 3, 1) := by decide +kernel
theorem dX11_amiss_39 : decode cX11_amiss 39 = .ok (.iconst 1, 1) := by decide +kernel
theorem dX11_amiss_40 : decode cX11_amiss 40 = .ok (.isub, 1) := by decide +kernel
theorem dX11_amiss_41 : decode cX11_amiss 41 = .ok (.invokevirtual 194, 3) := by decide +kernel
theorem dX11_amiss_44 : decode cX11_amiss 44 = .ok (.aload_n 0, 1) := by decide +kernel
theorem dX11_amiss_45 : decode cX11_amiss 45 = .ok (.getfield 20, 3) := by decide +kernel
theorem dX11_amiss_48 : decode cX11_amiss 48 = .ok (.getfield 66, 3) := by decide +kernel
theorem dX11_amiss_51 : decode cX11_amiss 51 = .ok (.iload_n 2, 1) := by decide +kernel
theorem dX11_amiss_52 : decode cX11_amiss 52 = .ok (.iload_n 3, 1) := by decide +kernel
theorem dX11_amiss_53 : decode cX11_amiss 53 = .ok (.invokevirtual 194, 3) := by decide +kernel
theorem dX11_amiss_56 : decode cX11_amiss 56 = .ok (.invokevirtual 378, 3) := by decide +kernel
theorem dX11_amiss_59 : decode cX11_amiss 59 = .ok (.ifCond .ne 6, 3) := by decide +kernel
theorem dX11_amiss_62 : decode cX11_amiss 62 = .ok (.iinc 1 1, 3) := by decide +kernel
theorem dX11_amiss_65 : decode cX11_amiss 65 = .ok (.iinc 3 1, 3) := by decide +kernel
theorem dX11_amiss_68 : decode cX11_amiss 68 = .ok (.goto (-57), 3) := by decide +kernel
theorem dX11_amiss_71 : decode cX11_amiss 71 = .ok (.iinc 2 1, 3) := by decide +kernel
theorem dX11_amiss_74 : decode cX11_amiss 74 = .ok (.goto (-70), 3) := by decide +kernel
theorem dX11_amiss_77 : decode cX11_amiss 77 = .ok (.iload_n 1, 1) := by decide +kernel
theorem dX11_amiss_78 : decode cX11_amiss 78 = .ok (.ireturn, 1) := by decide +kernel
theorem dX11_ledger_0 : decode cX11_ledger 0 = .ok (.iload_n 1, 1) := by decide +kernel
theorem dX11_ledger_1 : decode cX11_ledger 1 = .ok (.iconst 0, 1) := by decide +kernel
theorem dX11_ledger_2 : decode cX11_ledger 2 = .ok (.iconst 2, 1) := by decide +kernel
theorem dX11_ledger_3 : decode cX11_ledger 3 = .ok (.invokestatic 62, 3) := by decide +kernel
theorem dX11_ledger_6 : decode cX11_ledger 6 = .ok (.ifCond .ne 6, 3) := by decide +kernel
theorem dX11_ledger_9 : decode cX11_ledger 9 = .ok (.bipush (-2), 2) := by decide +kernel
theorem dX11_ledger_11 : decode cX11_ledger 11 = .ok (.ireturn, 1) := by decide +kernel
theorem dX11_ledger_12 : decode cX11_ledger 12 = .ok (.iconst 0, 1) := by decide +kernel
theorem dX11_ledger_13 : decode cX11_ledger 13 = .ok (.istore_n 2, 1) := by decide +kernel
theorem dX11_ledger_14 : decode cX11_ledger 14 = .ok (.iconst 0, 1) := by decide +kernel
theorem dX11_ledger_15 : decode cX11_ledger 15 = .ok (.istore_n 3, 1) := by decide +kernel
theorem dX11_ledger_16 : decode cX11_ledger 16 = .ok (.iload_n 3, 1) := by decide +kernel
theorem dX11_ledger_17 : decode cX11_ledger 17 = .ok (.aload_n 0, 1) := by decide +kernel
theorem dX11_ledger_18 : decode cX11_ledger 18 = .ok (.getfield 20, 3) := by decide +kernel
theorem dX11_ledger_21 : decode cX11_ledger 21 = .ok (.getfield 66, 3) := by decide +kernel
theorem dX11_ledger_24 : decode cX11_ledger 24 = .ok (.invokevirtual 217, 3) := by decide +kernel
theorem dX11_ledger_27 : decode cX11_ledger 27 = .ok (.if_icmp .ge 28, 3) := by decide +kernel
theorem dX11_ledger_30 : decode cX11_ledger 30 = .ok (.aload_n 0, 1) := by decide +kernel
theorem dX11_ledger_31 : decode cX11_ledger 31 = .ok (.getfield 20, 3) := by decide +kernel
theorem dX11_ledger_34 : decode cX11_ledger 34 = .ok (.getfield 66, 3) := by decide +kernel
theorem dX11_ledger_37 : decode cX11_ledger 37 = .ok (.iload_n 3, 1) := by decide +kernel
theorem dX11_ledger_38 : decode cX11_ledger 38 = .ok (.iconst 2, 1) := by decide +kernel
theorem dX11_ledger_39 : decode cX11_ledger 39 = .ok (.invokevirtual 220, 3) := by decide +kernel
theorem dX11_ledger_42 : decode cX11_ledger 42 = .ok (.iload_n 1, 1) := by decide +kernel
theorem dX11_ledger_43 : decode cX11_ledger 43 = .ok (.if_icmp .ne 6, 3) := by decide +kernel
theorem dX11_ledger_46 : decode cX11_ledger 46 = .ok (.iinc 2 1, 3) := by decide +kernel
theorem dX11_ledger_49 : decode cX11_ledger 49 = .ok (.iinc 3 1, 3) := by decide +kernel
theorem dX11_ledger_52 : decode cX11_ledger 52 = .ok (.goto (-36), 3) := by decide +kernel
theorem dX11_ledger_55 : decode cX11_ledger 55 = .ok (.iload_n 2, 1) := by decide +kernel
theorem dX11_ledger_56 : decode cX11_ledger 56 = .ok (.ireturn, 1) := by decide +kernel
theorem dX11_image_0 : decode cX11_image 0 = .ok (.aload_n 0, 1) := by decide +kernel
theorem dX11_image_1 : decode cX11_image 1 = .ok (.getfield 24, 3) := by decide +kernel
theorem dX11_image_4 : decode cX11_image 4 = .ok (.aload_n 0, 1) := by decide +kernel
theorem dX11_image_5 : decode cX11_image 5 = .ok (.getfield 20, 3) := by decide +kernel
theorem dX11_image_8 : decode cX11_image 8 = .ok (.invokevirtual 381, 3) := by decide +kernel
theorem dX11_image_11 : decode cX11_image 11 = .ok (.aload_n 0, 1) := by decide +kernel
theorem dX11_image_12 : decode cX11_image 12 = .ok (.getfield 20, 3) := by decide +kernel
theorem dX11_image_15 : decode cX11_image 15 = .ok (.getfield 66, 3) := by decide +kernel
theorem dX11_image_18 : decode cX11_image 18 = .ok (.invokevirtual 138, 3) := by decide +kernel
theorem dX11_image_21 : decode cX11_image 21 = .ok (.ireturn, 1) := by decide +kernel
theorem dX11_back_0 : decode cX11_back 0 = .ok (.aload_n 0, 1) := by decide +kernel
theorem dX11_back_1 : decode cX11_back 1 = .ok (.getfield 20, 3) := by decide +kernel
theorem dX11_back_4 : decode cX11_back 4 = .ok (.aload_n 0, 1) := by decide +kernel
theorem dX11_back_5 : decode cX11_back 5 = .ok (.getfield 24, 3) := by decide +kernel
theorem dX11_back_8 : decode cX11_back 8 = .ok (.invokevirtual 381, 3) := by decide +kernel
theorem dX11_back_11 : decode cX11_back 11 = .ok (.aload_n 0, 1) := by decide +kernel
theorem dX11_back_12 : decode cX11_back 12 = .ok (.getfield 20, 3) := by decide +kernel
theorem dX11_back_15 : decode cX11_back 15 = .ok (.getfield 66, 3) := by decide +kernel
theorem dX11_back_18 : decode cX11_back 18 = .ok (.invokevirtual 138, 3) := by decide +kernel
theorem dX11_back_21 : decode cX11_back 21 = .ok (.ireturn, 1) := by decide +kernel
theorem dX11_about_0 : decode cX11_about 0 = .ok (.iload_n 1, 1) := by decide +kernel
theorem dX11_about_1 : decode cX11_about 1 = .ok (.tableswitch 126 0 7 #[47, 58, 66, 74, 85, 96, 107, 118], 47) := by decide +kernel
theorem dX11_about_48 : decode cX11_about 48 = .ok (.aload_n 0, 1) := by decide +kernel
theorem dX11_about_49 : decode cX11_about 49 = .ok (.getfield 20, 3) := by decide +kernel
theorem dX11_about_52 : decode cX11_about 52 = .ok (.getfield 66, 3) := by decide +kernel
theorem dX11_about_55 : decode cX11_about 55 = .ok (.invokevirtual 69, 3) := by decide +kernel
theorem dX11_about_58 : decode cX11_about 58 = .ok (.ireturn, 1) := by decide +kernel
theorem dX11_about_59 : decode cX11_about 59 = .ok (.aload_n 0, 1) := by decide +kernel
theorem dX11_about_60 : decode cX11_about 60 = .ok (.getfield 20, 3) := by decide +kernel
theorem dX11_about_63 : decode cX11_about 63 = .ok (.getfield 73, 3) := by decide +kernel
theorem dX11_about_66 : decode cX11_about 66 = .ok (.ireturn, 1) := by decide +kernel
theorem dX11_about_67 : decode cX11_about 67 = .ok (.aload_n 0, 1) := by decide +kernel
theorem dX11_about_68 : decode cX11_about 68 = .ok (.getfield 20, 3) := by decide +kernel
theorem dX11_about_71 : decode cX11_about 71 = .ok (.getfield 120, 3) := by decide +kernel
theorem dX11_about_74 : decode cX11_about 74 = .ok (.ireturn, 1) := by decide +kernel
theorem dX11_about_75 : decode cX11_about 75 = .ok (.aload_n 0, 1) := by decide +kernel
theorem dX11_about_76 : decode cX11_about 76 = .ok (.getfield 20, 3) := by decide +kernel
theorem dX11_about_79 : decode cX11_about 79 = .ok (.getfield 160, 3) := by decide +kernel
theorem dX11_about_82 : decode cX11_about 82 = .ok (.getfield 170, 3) := by decide +kernel
theorem dX11_about_85 : decode cX11_about 85 = .ok (.ireturn, 1) := by decide +kernel
theorem dX11_about_86 : decode cX11_about 86 = .ok (.aload_n 0, 1) := by decide +kernel
theorem dX11_about_87 : decode cX11_about 87 = .ok (.getfield 20, 3) := by decide +kernel
theorem dX11_about_90 : decode cX11_about 90 = .ok (.getfield 313, 3) := by decide +kernel
theorem dX11_about_93 : decode cX11_about 93 = .ok (.getfield 328, 3) := by decide +kernel
theorem dX11_about_96 : decode cX11_about 96 = .ok (.ireturn, 1) := by decide +kernel
theorem dX11_about_97 : decode cX11_about 97 = .ok (.aload_n 0, 1) := by decide +kernel
theorem dX11_about_98 : decode cX11_about 98 = .ok (.getfield 20, 3) := by decide +kernel
theorem dX11_about_101 : decode cX11_about 101 = .ok (.getfield 334, 3) := by decide +kernel
theorem dX11_about_104 : decode cX11_about 104 = .ok (.getfield 328, 3) := by decide +kernel
theorem dX11_about_107 : decode cX11_about 107 = .ok (.ireturn, 1) := by decide +kernel
theorem dX11_about_108 : decode cX11_about 108 = .ok (.aload_n 0, 1) := by decide +kernel
theorem dX11_about_109 : decode cX11_about 109 = .ok (.getfield 20, 3) := by decide +kernel
theorem dX11_about_112 : decode cX11_about 112 = .ok (.getfield 368, 3) := by decide +kernel
theorem dX11_about_115 : decode cX11_about 115 = .ok (.getfield 328, 3) := by decide +kernel
theorem dX11_about_118 : decode cX11_about 118 = .ok (.ireturn, 1) := by decide +kernel
theorem dX11_about_119 : decode cX11_about 119 = .ok (.aload_n 0, 1) := by decide +kernel
theorem dX11_about_120 : decode cX11_about 120 = .ok (.getfield 30, 3) := by decide +kernel
theorem dX11_about_123 : decode cX11_about 123 = .ok (.getfield 100, 3) := by decide +kernel
theorem dX11_about_126 : decode cX11_about 126 = .ok (.ireturn, 1) := by decide +kernel
theorem dX11_about_127 : decode cX11_about 127 = .ok (.bipush (-2), 2) := by decide +kernel
theorem dX11_about_129 : decode cX11_about 129 = .ok (.ireturn, 1) := by decide +kernel
theorem dX12_init_0 : decode cX12_init 0 = .ok (.aload_n 0, 1) := by decide +kernel
theorem dX12_init_1 : decode cX12_init 1 = .ok (.invokespecial 1, 3) := by decide +kernel
theorem dX12_init_4 : decode cX12_init 4 = .ok (.aload_n 0, 1) := by decide +kernel
theorem dX12_init_5 : decode cX12_init 5 = .ok (.sipush 1954, 3) := by decide +kernel
theorem dX12_init_8 : decode cX12_init 8 = .ok (.newarray .int, 2) := by decide +kernel
theorem dX12_init_10 : decode cX12_init 10 = .ok (.putfield 7, 3) := by decide +kernel
theorem dX12_init_13 : decode cX12_init 13 = .ok (.aload_n 0, 1) := by decide +kernel
theorem dX12_init_14 : decode cX12_init 14 = .ok (.sipush 1954, 3) := by decide +kernel
theorem dX12_init_17 : decode cX12_init 17 = .ok (.newarray .int, 2) := by decide +kernel
theorem dX12_init_19 : decode cX12_init 19 = .ok (.putfield 13, 3) := by decide +kernel
theorem dX12_init_22 : decode cX12_init 22 = .ok (.aload_n 0, 1) := by decide +kernel
theorem dX12_init_23 : decode cX12_init 23 = .ok (.sipush 2724, 3) := by decide +kernel
theorem dX12_init_26 : decode cX12_init 26 = .ok (.newarray .int, 2) := by decide +kernel
theorem dX12_init_28 : decode cX12_init 28 = .ok (.putfield 16, 3) := by decide +kernel
theorem dX12_init_31 : decode cX12_init 31 = .ok (.aload_n 0, 1) := by decide +kernel
theorem dX12_init_32 : decode cX12_init 32 = .ok (.sipush 300, 3) := by decide +kernel
theorem dX12_init_35 : decode cX12_init 35 = .ok (.newarray .int, 2) := by decide +kernel
theorem dX12_init_37 : decode cX12_init 37 = .ok (.putfield 19, 3) := by decide +kernel
theorem dX12_init_40 : decode cX12_init 40 = .ok (.aload_n 0, 1) := by decide +kernel
theorem dX12_init_41 : decode cX12_init 41 = .ok (.iconst (-1), 1) := by decide +kernel
theorem dX12_init_42 : decode cX12_init 42 = .ok (.putfield 22, 3) := by decide +kernel
theorem dX12_init_45 : decode cX12_init 45 = .ok (.aload_n 0, 1) := by decide +kernel
theorem dX12_init_46 : decode cX12_init 46 = .ok (.iconst (-1), 1) := by decide +kernel
theorem dX12_init_47 : decode cX12_init 47 = .ok (.putfield 26, 3) := by decide +kernel
theorem dX12_init_50 : decode cX12_init 50 = .ok (.aload_n 0, 1) := by decide +kernel
theorem dX12_init_51 : decode cX12_init 51 = .ok (.sipush 160, 3) := by decide +kernel
theorem dX12_init_54 : decode cX12_init 54 = .ok (.newarray .int, 2) := by decide +kernel
theorem dX12_init_56 : decode cX12_init 56 = .ok (.putfield 29, 3) := by decide +kernel
theorem dX12_init_59 : decode cX12_init 59 = .ok (.aload_n 0, 1) := by decide +kernel
theorem dX12_init_60 : decode cX12_init 60 = .ok (.bipush 11, 2) := by decide +kernel
theorem dX12_init_62 : decode cX12_init 62 = .ok (.newarray .int, 2) := by decide +kernel
theorem dX12_init_64 : decode cX12_init 64 = .ok (.putfield 32, 3) := by decide +kernel
theorem dX12_init_67 : decode cX12_init 67 = .ok (.aload_n 0, 1) := by decide +kernel
theorem dX12_init_68 : decode cX12_init 68 = .ok (.sipush 330, 3) := by decide +kernel
theorem dX12_init_71 : decode cX12_init 71 = .ok (.newarray .long, 2) := by decide +kernel
theorem dX12_init_73 : decode cX12_init 73 = .ok (.putfield 35, 3) := by decide +kernel
theorem dX12_init_76 : decode cX12_init 76 = .ok (.aload_n 0, 1) := by decide +kernel
theorem dX12_init_77 : decode cX12_init 77 = .ok (.sipush 330, 3) := by decide +kernel
theorem dX12_init_80 : decode cX12_init 80 = .ok (.newarray .boolean, 2) := by decide +kernel
theorem dX12_init_82 : decode cX12_init 82 = .ok (.putfield 39, 3) := by decide +kernel
theorem dX12_init_85 : decode cX12_init 85 = .ok (.aload_n 0, 1) := by decide +kernel
theorem dX12_init_86 : decode cX12_init 86 = .ok (.iconst 1, 1) := by decide +kernel
theorem dX12_init_87 : decode cX12_init 87 = .ok (.putfield 43, 3) := by decide +kernel
theorem dX12_init_90 : decode cX12_init 90 = .ok (.aload_n 0, 1) := by decide +kernel
theorem dX12_init_91 : decode cX12_init 91 = .ok (.bipush 36, 2) := by decide +kernel
theorem dX12_init_93 : decode cX12_init 93 = .ok (.newarray .int, 2) := by decide +kernel
theorem dX12_init_95 : decode cX12_init 95 = .ok (.putfield 47, 3) := by decide +kernel
theorem dX12_init_98 : decode cX12_init 98 = .ok (.aload_n 0, 1) := by decide +kernel
theorem dX12_init_99 : decode cX12_init 99 = .ok (.iconst 5, 1) := by decide +kernel
theorem dX12_init_100 : decode cX12_init 100 = .ok (.newarray .int, 2) := by decide +kernel
theorem dX12_init_102 : decode cX12_init 102 = .ok (.putfield 50, 3) := by decide +kernel
theorem dX12_init_105 : decode cX12_init 105 = .ok (.aload_n 0, 1) := by decide +kernel
theorem dX12_init_106 : decode cX12_init 106 = .ok (.iconst 5, 1) := by decide +kernel
theorem dX12_init_107 : decode cX12_init 107 = .ok (.newarray .int, 2) := by decide +kernel
theorem dX12_init_109 : decode cX12_init 109 = .ok (.putfield 53, 3) := by decide +kernel
theorem dX12_init_112 : decode cX12_init 112 = .ok (.aload_n 0, 1) := by decide +kernel
theorem dX12_init_113 : decode cX12_init 113 = .ok (.iconst 3, 1) := by decide +kernel
theorem dX12_init_114 : decode cX12_init 114 = .ok (.newarray .int, 2) := by decide +kernel
theorem dX12_init_116 : decode cX12_init 116 = .ok (.putfield 56, 3) := by decide +kernel
theorem dX12_init_119 : decode cX12_init 119 = .ok (.aload_n 0, 1) := by decide +kernel
theorem dX12_init_120 : decode cX12_init 120 = .ok (.sipush 4320, 3) := by decide +kernel
theorem dX12_init_123 : decode cX12_init 123 = .ok (.newarray .int, 2) := by decide +kernel
theorem dX12_init_125 : decode cX12_init 125 = .ok (.putfield 59, 3) := by decide +kernel
theorem dX12_init_128 : decode cX12_init 128 = .ok (.aload_n 0, 1) := by decide +kernel
theorem dX12_init_129 : decode cX12_init 129 = .ok (.sipush 4320, 3) := by decide +kernel
theorem dX12_init_132 : decode cX12_init 132 = .ok (.newarray .int, 2) := by decide +kernel
theorem dX12_init_134 : decode cX12_init 134 = .ok (.putfield 62, 3) := by decide +kernel
theorem dX12_init_137 : decode cX12_init 137 = .ok (.aload_n 0, 1) := by decide +kernel
theorem dX12_init_138 : decode cX12_init 138 = .ok (.sipush 4320, 3) := by decide +kernel
theorem dX12_init_141 : decode cX12_init 141 = .ok (.newarray .int, 2) := by decide +kernel
theorem dX12_init_143 : decode cX12_init 143 = .ok (.putfield 65, 3) := by decide +kernel
theorem dX12_init_146 : decode cX12_init 146 = .ok (.aload_n 0, 1) := by decide +kernel
theorem dX12_init_147 : decode cX12_init 147 = .ok (.iconst 5, 1) := by decide +kernel
theorem dX12_init_148 : decode cX12_init 148 = .ok (.newarray .int, 2) := by decide +kernel
theorem dX12_init_150 : decode cX12_init 150 = .ok (.putfield 68, 3) := by decide +kernel
theorem dX12_init_153 : decode cX12_init 153 = .ok (.aload_n 0, 1) := by decide +kernel
theorem dX12_init_154 : decode cX12_init 154 = .ok (.bipush 64, 2) := by decide +kernel
theorem dX12_init_156 : decode cX12_init 156 = .ok (.newarray .int, 2) := by decide +kernel
theorem dX12_init_158 : decode cX12_init 158 = .ok (.putfield 71, 3) := by decide +kernel
theorem dX12_init_161 : decode cX12_init 161 = .ok (.aload_n 0, 1) := by decide +kernel
theorem dX12_init_162 : decode cX12_init 162 = .ok (.getfield 7, 3) := by decide +kernel
theorem dX12_init_165 : decode cX12_init 165 = .ok (.bipush 8, 2) := by decide +kernel
theorem dX12_init_167 : decode cX12_init 167 = .ok (.sipush 353, 3) := by decide +kernel
theorem dX12_init_170 : decode cX12_init 170 = .ok (.iastore, 1) := by decide +kernel
theorem dX12_init_171 : decode cX12_init 171 = .ok (.aload_n 0, 1) := by decide +kernel
theorem dX12_init_172 : decode cX12_init 172 = .ok (.getfield 7, 3) := by decide +kernel
theorem dX12_init_175 : decode cX12_init 175 = .ok (.iconst 2, 1) := by decide +kernel
theorem dX12_init_176 : decode cX12_init 176 = .ok (.iconst (-1), 1) := by decide +kernel
theorem dX12_init_177 : decode cX12_init 177 = .ok (.iastore, 1) := by decide +kernel
theorem dX12_init_178 : decode cX12_init 178 = .ok (.aload_n 0, 1) := by decide +kernel
theorem dX12_init_179 : decode cX12_init 179 = .ok (.getfield 7, 3) := by decide +kernel
theorem dX12_init_182 : decode cX12_init 182 = .ok (.bipush 9, 2) := by decide +kernel
theorem dX12_init_184 : decode cX12_init 184 = .ok (.iconst 1, 1) := by decide +kernel
theorem dX12_init_185 : decode cX12_init 185 = .ok (.iastore, 1) := by decide +kernel
theorem dX12_init_186 : decode cX12_init 186 = .ok (.aload_n 0, 1) := by decide +kernel
theorem dX12_init_187 : decode cX12_init 187 = .ok (.getfield 7, 3) := by decide +kernel
theorem dX12_init_190 : decode cX12_init 190 = .ok (.bipush 10, 2) := by decide +kernel
theorem dX12_init_192 : decode cX12_init 192 = .ok (.iconst 1, 1) := by decide +kernel
theorem dX12_init_193 : decode cX12_init 193 = .ok (.iastore, 1) := by decide +kernel
theorem dX12_init_194 : decode cX12_init 194 = .ok (.iconst 0, 1) := by decide +kernel
theorem dX12_init_195 : decode cX12_init 195 = .ok (.istore_n 1, 1) := by decide +kernel
theorem dX12_init_196 : decode cX12_init 196 = .ok (.iload_n 1, 1) := by decide +kernel
theorem dX12_init_197 : decode cX12_init 197 = .ok (.iconst 5, 1) := by decide +kernel
theorem dX12_init_198 : decode cX12_init 198 = .ok (.if_icmp .ge 29, 3) := by decide +kernel
theorem dX12_init_201 : decode cX12_init 201 = .ok (.aload_n 0, 1) := by decide +kernel
theorem dX12_init_202 : decode cX12_init 202 = .ok (.getfield 7, 3) := by decide +kernel
theorem dX12_init_205 : decode cX12_init 205 = .ok (.bipush 46, 2) := by decide +kernel
theorem dX12_init_207 : decode cX12_init 207 = .ok (.iload_n 1, 1) := by decide +kernel
theorem dX12_init_208 : decode cX12_init 208 = .ok (.iadd, 1) := by decide +kernel
theorem dX12_init_209 : decode cX12_init 209 = .ok (.iconst 1, 1) := by decide +kernel
theorem dX12_init_210 : decode cX12_init 210 = .ok (.iastore, 1) := by decide +kernel
theorem dX12_init_211 : decode cX12_init 211 = .ok (.aload_n 0, 1) := by decide +kernel
theorem dX12_init_212 : decode cX12_init 212 = .ok (.getfield 7, 3) := by decide +kernel
theorem dX12_init_215 : decode cX12_init 215 = .ok (.bipush 51, 2) := by decide +kernel
theorem dX12_init_217 : decode cX12_init 217 = .ok (.iload_n 1, 1) := by decide +kernel
theorem dX12_init_218 : decode cX12_init 218 = .ok (.iadd, 1) := by decide +kernel
theorem dX12_init_219 : decode cX12_init 219 = .ok (.iconst 1, 1) := by decide +kernel
theorem dX12_init_220 : decode cX12_init 220 = .ok (.iastore, 1) := by decide +kernel
theorem dX12_init_221 : decode cX12_init 221 = .ok (.iinc 1 1, 3) := by decide +kernel
theorem dX12_init_224 : decode cX12_init 224 = .ok (.goto (-28), 3) := by decide +kernel
theorem dX12_init_227 : decode cX12_init 227 = .ok (.aload_n 0, 1) := by decide +kernel
theorem dX12_init_228 : decode cX12_init 228 = .ok (.getfield 7, 3) := by decide +kernel
theorem dX12_init_231 : decode cX12_init 231 = .ok (.aload_n 0, 1) := by decide +kernel
theorem dX12_init_232 : decode cX12_init 232 = .ok (.getfield 13, 3) := by decide +kernel
theorem dX12_init_235 : decode cX12_init 235 = .ok (.invokestatic 74, 3) := by decide +kernel
theorem dX12_init_238 : decode cX12_init 238 = .ok (.return_, 1) := by decide +kernel
theorem dX12_copy_0 : decode cX12_copy 0 = .ok (.iconst 0, 1) := by decide +kernel
theorem dX12_copy_1 : decode cX12_copy 1 = .ok (.istore_n 2, 1) := by decide +kernel
theorem dX12_copy_2 : decode cX12_copy 2 = .ok (.iload_n 2, 1) := by decide +kernel
theorem dX12_copy_3 : decode cX12_copy 3 = .ok (.sipush 1954, 3) := by decide +kernel
theorem dX12_copy_6 : decode cX12_copy 6 = .ok (.if_icmp .ge 15, 3) := by decide +kernel
theorem dX12_copy_9 : decode cX12_copy 9 = .ok (.aload_n 1, 1) := by decide +kernel
theorem dX12_copy_10 : decode cX12_copy 10 = .ok (.iload_n 2, 1) := by decide +kernel
theorem dX12_copy_11 : decode cX12_copy 11 = .ok (.aload_n 0, 1) := by decide +kernel
theorem dX12_copy_12 : decode cX12_copy 12 = .ok (.iload_n 2, 1) := by decide +kernel
theorem dX12_copy_13 : decode cX12_copy 13 = .ok (.iaload, 1) := by decide +kernel
theorem dX12_copy_14 : decode cX12_copy 14 = .ok (.iastore, 1) := by decide +kernel
theorem dX12_copy_15 : decode cX12_copy 15 = .ok (.iinc 2 1, 3) := by decide +kernel
theorem dX12_copy_18 : decode cX12_copy 18 = .ok (.goto (-16), 3) := by decide +kernel
theorem dX12_copy_21 : decode cX12_copy 21 = .ok (.return_, 1) := by decide +kernel
theorem dX12_isIn_0 : decode cX12_isIn 0 = .ok (.iload_n 0, 1) := by decide +kernel
theorem dX12_isIn_1 : decode cX12_isIn 1 = .ok (.iload_n 1, 1) := by decide +kernel
theorem dX12_isIn_2 : decode cX12_isIn 2 = .ok (.if_icmp .lt 12, 3) := by decide +kernel
theorem dX12_isIn_5 : decode cX12_isIn 5 = .ok (.iload_n 0, 1) := by decide +kernel
theorem dX12_isIn_6 : decode cX12_isIn 6 = .ok (.iload_n 2, 1) := by decide +kernel
theorem dX12_isIn_7 : decode cX12_isIn 7 = .ok (.if_icmp .gt 7, 3) := by decide +kernel
theorem dX12_isIn_10 : decode cX12_isIn 10 = .ok (.iconst 1, 1) := by decide +kernel
theorem dX12_isIn_11 : decode cX12_isIn 11 = .ok (.goto 4, 3) := by decide +kernel
theorem dX12_isIn_14 : decode cX12_isIn 14 = .ok (.iconst 0, 1) := by decide +kernel
theorem dX12_isIn_15 : decode cX12_isIn 15 = .ok (.ireturn, 1) := by decide +kernel
theorem dX12_cut_0 : decode cX12_cut 0 = .ok (.lload_n 0, 1) := by decide +kernel
theorem dX12_cut_1 : decode cX12_cut 1 = .ok (.iload_n 2, 1) := by decide +kernel
theorem dX12_cut_2 : decode cX12_cut 2 = .ok (.i2l, 1) := by decide +kernel
theorem dX12_cut_3 : decode cX12_cut 3 = .ok (.lcmp, 1) := by decide +kernel
theorem dX12_cut_4 : decode cX12_cut 4 = .ok (.ifCond .ge 7, 3) := by decide +kernel
theorem dX12_cut_7 : decode cX12_cut 7 = .ok (.iload_n 2, 1) := by decide +kernel
theorem dX12_cut_8 : decode cX12_cut 8 = .ok (.goto 16, 3) := by decide +kernel
theorem dX12_cut_11 : decode cX12_cut 11 = .ok (.lload_n 0, 1) := by decide +kernel
theorem dX12_cut_12 : decode cX12_cut 12 = .ok (.iload_n 3, 1) := by decide +kernel
theorem dX12_cut_13 : decode cX12_cut 13 = .ok (.i2l, 1) := by decide +kernel
theorem dX12_cut_14 : decode cX12_cut 14 = .ok (.lcmp, 1) := by decide +kernel
theorem dX12_cut_15 : decode cX12_cut 15 = .ok (.ifCond .le 7, 3) := by decide +kernel
theorem dX12_cut_18 : decode cX12_cut 18 = .ok (.iload_n 3, 1) := by decide +kernel
theorem dX12_cut_19 : decode cX12_cut 19 = .ok (.goto 5, 3) := by decide +kernel
theorem dX12_cut_22 : decode cX12_cut 22 = .ok (.lload_n 0, 1) := by decide +kernel
theorem dX12_cut_23 : decode cX12_cut 23 = .ok (.l2i, 1) := by decide +kernel
theorem dX12_cut_24 : decode cX12_cut 24 = .ok (.ireturn, 1) := by decide +kernel
theorem dX12_has_0 : decode cX12_has 0 = .ok (.iload_n 0, 1) := by decide +kernel
theorem dX12_has_1 : decode cX12_has 1 = .ok (.iload_n 1, 1) := by decide +kernel
theorem dX12_has_2 : decode cX12_has 2 = .ok (.ishr, 1) := by decide +kernel
theorem dX12_has_3 : decode cX12_has 3 = .ok (.iconst 1, 1) := by decide +kernel
theorem dX12_has_4 : decode cX12_has 4 = .ok (.iand, 1) := by decide +kernel
theorem dX12_has_5 : decode cX12_has 5 = .ok (.iconst 1, 1) := by decide +kernel
theorem dX12_has_6 : decode cX12_has 6 = .ok (.if_icmp .ne 7, 3) := by decide +kernel
theorem dX12_has_9 : decode cX12_has 9 = .ok (.iconst 1, 1) := by decide +kernel
theorem dX12_has_10 : decode cX12_has 10 = .ok (.goto 4, 3) := by decide +kernel
theorem dX12_has_13 : decode cX12_has 13 = .ok (.iconst 0, 1) := by decide +kernel
theorem dX12_has_14 : decode cX12_has 14 = .ok (.ireturn, 1) := by decide +kernel
theorem dX12_isCar_0 : decode cX12_isCar 0 = .ok (.iload_n 1, 1) := by decide +kernel
theorem dX12_isCar_1 : decode cX12_isCar 1 = .ok (.iconst 0, 1) := by decide +kernel
theorem dX12_isCar_2 : decode cX12_isCar 2 = .ok (.aload_n 0, 1) := by decide +kernel
theorem dX12_isCar_3 : decode cX12_isCar 3 = .ok (.getfield 7, 3) := by decide +kernel
theorem dX12_isCar_6 : decode cX12_isCar 6 = .ok (.iconst 0, 1) := by decide +kernel
theorem dX12_isCar_7 : decode cX12_isCar 7 = .ok (.iaload, 1) := by decide +kernel
theorem dX12_isCar_8 : decode cX12_isCar 8 = .ok (.iconst 1, 1) := by decide +kernel
theorem dX12_isCar_9 : decode cX12_isCar 9 = .ok (.isub, 1) := by decide +kernel
theorem dX12_isCar_10 : decode cX12_isCar 10 = .ok (.invokestatic 78, 3) := by decide +kernel
theorem dX12_isCar_13 : decode cX12_isCar 13 = .ok (.ireturn, 1) := by decide +kernel
theorem dX12_isTrack_0 : decode cX12_isTrack 0 = .ok (.iload_n 0, 1) := by decide +kernel
theorem dX12_isTrack_1 : decode cX12_isTrack 1 = .ok (.iconst 0, 1) := by decide +kernel
theorem dX12_isTrack_2 : decode cX12_isTrack 2 = .ok (.iconst 2, 1) := by decide +kernel
theorem dX12_isTrack_3 : decode cX12_isTrack 3 = .ok (.invokestatic 78, 3) := by decide +kernel
theorem dX12_isTrack_6 : decode cX12_isTrack 6 = .ok (.ireturn, 1) := by decide +kernel
theorem dX12_carOn_0 : decode cX12_carOn 0 = .ok (.aload_n 0, 1) := by decide +kernel
theorem dX12_carOn_1 : decode cX12_carOn 1 = .ok (.getfield 7, 3) := by decide +kernel
theorem dX12_carOn_4 : decode cX12_carOn 4 = .ok (.bipush 15, 2) := by decide +kernel
theorem dX12_carOn_6 : decode cX12_carOn 6 = .ok (.iconst 5, 1) := by decide +kernel
theorem dX12_carOn_7 : decode cX12_carOn 7 = .ok (.iload_n 1, 1) := by decide +kernel
theorem dX12_carOn_8 : decode cX12_carOn 8 = .ok (.imul, 1) := by decide +kernel
theorem dX12_carOn_9 : decode cX12_carOn 9 = .ok (.iadd, 1) := by decide +kernel
theorem dX12_carOn_10 : decode cX12_carOn 10 = .ok (.iload_n 2, 1) := by decide +kernel
theorem dX12_carOn_11 : decode cX12_carOn 11 = .ok (.iadd, 1) := by decide +kernel
theorem dX12_carOn_12 : decode cX12_carOn 12 = .ok (.iaload, 1) := by decide +kernel
theorem dX12_carOn_13 : decode cX12_carOn 13 = .ok (.ireturn, 1) := by decide +kernel
theorem dX12_uppermost_0 : decode cX12_uppermost 0 = .ok (.aload_n 0, 1) := by decide +kernel
theorem dX12_uppermost_1 : decode cX12_uppermost 1 = .ok (.getfield 7, 3) := by decide +kernel
theorem dX12_uppermost_4 : decode cX12_uppermost 4 = .ok (.bipush 12, 2) := by decide +kernel
theorem dX12_uppermost_6 : decode cX12_uppermost 6 = .ok (.iload_n 1, 1) := by decide +kernel
theorem dX12_uppermost_7 : decode cX12_uppermost 7 = .ok (.iadd, 1) := by decide +kernel
theorem dX12_uppermost_8 : decode cX12_uppermost 8 = .ok (.iaload, 1) := by decide +kernel
theorem dX12_uppermost_9 : decode cX12_uppermost 9 = .ok (.ifCond .ne 7, 3) := by decide +kernel
theorem dX12_uppermost_12 : decode cX12_uppermost 12 = .ok (.iconst (-1), 1) := by decide +kernel
theorem dX12_uppermost_13 : decode cX12_uppermost 13 = .ok (.goto 19, 3) := by decide +kernel
theorem dX12_uppermost_16 : decode cX12_uppermost 16 = .ok (.aload_n 0, 1) := by decide +kernel
theorem dX12_uppermost_17 : decode cX12_uppermost 17 = .ok (.iload_n 1, 1) := by decide +kernel
theorem dX12_uppermost_18 : decode cX12_uppermost 18 = .ok (.aload_n 0, 1) := by decide +kernel
theorem dX12_uppermost_19 : decode cX12_uppermost 19 = .ok (.getfield 7, 3) := by decide +kernel
theorem dX12_uppermost_22 : decode cX12_uppermost 22 = .ok (.bipush 12, 2) := by decide +kernel
theorem dX12_uppermost_24 : decode cX12_uppermost 24 = .ok (.iload_n 1, 1) := by decide +kernel
theorem dX12_uppermost_25 : decode cX12_uppermost 25 = .ok (.iadd, 1) := by decide +kernel
theorem dX12_uppermost_26 : decode cX12_uppermost 26 = .ok (.iaload, 1) := by decide +kernel
theorem dX12_uppermost_27 : decode cX12_uppermost 27 = .ok (.iconst 1, 1) := by decide +kernel
theorem dX12_uppermost_28 : decode cX12_uppermost 28 = .ok (.isub, 1) := by decide +kernel
theorem dX12_uppermost_29 : decode cX12_uppermost 29 = .ok (.invokevirtual 82, 3) := by decide +kernel
theorem dX12_uppermost_32 : decode cX12_uppermost 32 = .ok (.ireturn, 1) := by decide +kernel
theorem dX12_trackOf_0 : decode cX12_trackOf 0 = .ok (.iconst 0, 1) := by decide +kernel
theorem dX12_trackOf_1 : decode cX12_trackOf 1 = .ok (.istore_n 2, 1) := by decide +kernel
theorem dX12_trackOf_2 : decode cX12_trackOf 2 = .ok (.iload_n 2, 1) := by decide +kernel
theorem dX12_trackOf_3 : decode cX12_trackOf 3 = .ok (.iconst 3, 1) := by decide +kernel
theorem dX12_trackOf_4 : decode cX12_trackOf 4 = .ok (.if_icmp .ge 42, 3) := by decide +kernel
theorem dX12_trackOf_7 : decode cX12_trackOf 7 = .ok (.iconst 0, 1) := by decide +kernel
theorem dX12_trackOf_8 : decode cX12_trackOf 8 = .ok (.istore_n 3, 1) := by decide +kernel
theorem dX12_trackOf_9 : decode cX12_trackOf 9 = .ok (.iload_n 3, 1) := by decide +kernel
theorem dX12_trackOf_10 : decode cX12_trackOf 10 = .ok (.aload_n 0, 1) := by decide +kernel
theorem dX12_trackOf_11 : decode cX12_trackOf 11 = .ok (.getfield 7, 3) := by decide +kernel
theorem dX12_trackOf_14 : decode cX12_trackOf 14 = .ok (.bipush 12, 2) := by decide +kernel
theorem dX12_trackOf_16 : decode cX12_trackOf 16 = .ok (.iload_n 2, 1) := by decide +kernel
theorem dX12_trackOf_17 : decode cX12_trackOf 17 = .ok (.iadd, 1) := by decide +kernel
theorem dX12_trackOf_18 : decode cX12_trackOf 18 = .ok (.iaload, 1) := by decide +kernel
theorem dX12_trackOf_19 : decode cX12_trackOf 19 = .ok (.if_icmp .ge 21, 3) := by decide +kernel
theorem dX12_trackOf_22 : decode cX12_trackOf 22 = .ok (.aload_n 0, 1) := by decide +kernel
theorem dX12_trackOf_23 : decode cX12_trackOf 23 = .ok (.iload_n 2, 1) := by decide +kernel
theorem dX12_trackOf_24 : decode cX12_trackOf 24 = .ok (.iload_n 3, 1) := by decide +kernel
theorem dX12_trackOf_25 : decode cX12_trackOf 25 = .ok (.invokevirtual 82, 3) := by decide +kernel
theorem dX12_trackOf_28 : decode cX12_trackOf 28 = .ok (.iload_n 1, 1) := by decide +kernel
theorem dX12_trackOf_29 : decode cX12_trackOf 29 = .ok (.if_icmp .ne 5, 3) := by decide +kernel
theorem dX12_trackOf_32 : decode cX12_trackOf 32 = .ok (.iload_n 2, 1) := by decide +kernel
theorem dX12_trackOf_33 : decode cX12_trackOf 33 = .ok (.ireturn, 1) := by decide +kernel
theorem dX12_trackOf_34 : decode cX12_trackOf 34 = .ok (.iinc 3 1, 3) := by decide +kernel
theorem dX12_trackOf_37 : decode cX12_trackOf 37 = .ok (.goto (-28), 3) := by decide +kernel
theorem dX12_trackOf_40 : decode cX12_trackOf 40 = .ok (.iinc 2 1, 3) := by decide +kernel
theorem dX12_trackOf_43 : decode cX12_trackOf 43 = .ok (.goto (-41), 3) := by decide +kernel
theorem dX12_trackOf_46 : decode cX12_trackOf 46 = .ok (.iconst (-1), 1) := by decide +kernel
theorem dX12_trackOf_47 : decode cX12_trackOf 47 = .ok (.ireturn, 1) := by decide +kernel
theorem dX12_placeOf_0 : decode cX12_placeOf 0 = .ok (.aload_n 0, 1) := by decide +kernel
theorem dX12_placeOf_1 : decode cX12_placeOf 1 = .ok (.iload_n 1, 1) := by decide +kernel
theorem dX12_placeOf_2 : decode cX12_placeOf 2 = .ok (.invokevirtual 86, 3) := by decide +kernel
theorem dX12_placeOf_5 : decode cX12_placeOf 5 = .ok (.istore_n 2, 1) := by decide +kernel
theorem dX12_placeOf_6 : decode cX12_placeOf 6 = .ok (.iconst 0, 1) := by decide +kernel
theorem dX12_placeOf_7 : decode cX12_placeOf 7 = .ok (.istore_n 3, 1) := by decide +kernel
theorem dX12_placeOf_8 : decode cX12_placeOf 8 = .ok (.aload_n 0, 1) := by decide +kernel
theorem dX12_placeOf_9 : decode cX12_placeOf 9 = .ok (.iload_n 2, 1) := by decide +kernel
theorem dX12_placeOf_10 : decode cX12_placeOf 10 = .ok (.iload_n 3, 1) := by decide +kernel
theorem dX12_placeOf_11 : decode cX12_placeOf 11 = .ok (.invokevirtual 82, 3) := by decide +kernel
theorem dX12_placeOf_14 : decode cX12_placeOf 14 = .ok (.iload_n 1, 1) := by decide +kernel
theorem dX12_placeOf_15 : decode cX12_placeOf 15 = .ok (.if_icmp .eq 9, 3) := by decide +kernel
theorem dX12_placeOf_18 : decode cX12_placeOf 18 = .ok (.iinc 3 1, 3) := by decide +kernel
theorem dX12_placeOf_21 : decode cX12_placeOf 21 = .ok (.goto (-13), 3) := by decide +kernel
theorem dX12_placeOf_24 : decode cX12_placeOf 24 = .ok (.iload_n 3, 1) := by decide +kernel
theorem dX12_placeOf_25 : decode cX12_placeOf 25 = .ok (.ireturn, 1) := by decide +kernel
theorem dX12_come_0 : decode cX12_come 0 = .ok (.aload_n 0, 1) := by decide +kernel
theorem dX12_come_1 : decode cX12_come 1 = .ok (.getfield 7, 3) := by decide +kernel
theorem dX12_come_4 : decode cX12_come 4 = .ok (.bipush 15, 2) := by decide +kernel
theorem dX12_come_6 : decode cX12_come 6 = .ok (.iconst 5, 1) := by decide +kernel
theorem dX12_come_7 : decode cX12_come 7 = .ok (.iload_n 1, 1) := by decide +kernel
theorem dX12_come_8 : decode cX12_come 8 = .ok (.imul, 1) := by decide +kernel
theorem dX12_come_9 : decode cX12_come 9 = .ok (.iadd, 1) := by decide +kernel
theorem dX12_come_10 : decode cX12_come 10 = .ok (.aload_n 0, 1) := by decide +kernel
theorem dX12_come_11 : decode cX12_come 11 = .ok (.getfield 7, 3) := by decide +kernel
theorem dX12_come_14 : decode cX12_come 14 = .ok (.bipush 12, 2) := by decide +kernel
theorem dX12_come_16 : decode cX12_come 16 = .ok (.iload_n 1, 1) := by decide +kernel
theorem dX12_come_17 : decode cX12_come 17 = .ok (.iadd, 1) := by decide +kernel
theorem dX12_come_18 : decode cX12_come 18 = .ok (.iaload, 1) := by decide +kernel
theorem dX12_come_19 : decode cX12_come 19 = .ok (.iadd, 1) := by decide +kernel
theorem dX12_come_20 : decode cX12_come 20 = .ok (.iload_n 2, 1) := by decide +kernel
theorem dX12_come_21 : decode cX12_come 21 = .ok (.iastore, 1) := by decide +kernel
theorem dX12_come_22 : decode cX12_come 22 = .ok (.aload_n 0, 1) := by decide +kernel
theorem dX12_come_23 : decode cX12_come 23 = .ok (.getfield 7, 3) := by decide +kernel
theorem dX12_come_26 : decode cX12_come 26 = .ok (.bipush 12, 2) := by decide +kernel
theorem dX12_come_28 : decode cX12_come 28 = .ok (.iload_n 1, 1) := by decide +kernel
theorem dX12_come_29 : decode cX12_come 29 = .ok (.iadd, 1) := by decide +kernel
theorem dX12_come_30 : decode cX12_come 30 = .ok (.dup2, 1) := by decide +kernel
theorem dX12_come_31 : decode cX12_come 31 = .ok (.iaload, 1) := by decide +kernel
theorem dX12_come_32 : decode cX12_come 32 = .ok (.iconst 1, 1) := by decide +kernel
theorem dX12_come_33 : decode cX12_come 33 = .ok (.iadd, 1) := by decide +kernel
theorem dX12_come_34 : decode cX12_come 34 = .ok (.iastore, 1) := by decide +kernel
theorem dX12_come_35 : decode cX12_come 35 = .ok (.return_, 1) := by decide +kernel
theorem dX12_isWide_0 : decode cX12_isWide 0 = .ok (.aload_n 0, 1) := by decide +kernel
theorem dX12_isWide_1 : decode cX12_isWide 1 = .ok (.getfield 7, 3) := by decide +kernel
theorem dX12_isWide_4 : decode cX12_isWide 4 = .ok (.bipush 30, 2) := by decide +kernel
theorem dX12_isWide_6 : decode cX12_isWide 6 = .ok (.iaload, 1) := by decide +kernel
theorem dX12_isWide_7 : decode cX12_isWide 7 = .ok (.iload_n 1, 1) := by decide +kernel
theorem dX12_isWide_8 : decode cX12_isWide 8 = .ok (.ishr, 1) := by decide +kernel
theorem dX12_isWide_9 : decode cX12_isWide 9 = .ok (.iconst 1, 1) := by decide +kernel
theorem dX12_isWide_10 : decode cX12_isWide 10 = .ok (.iand, 1) := by decide +kernel
theorem dX12_isWide_11 : decode cX12_isWide 11 = .ok (.ireturn, 1) := by decide +kernel
theorem dX12_isForbidden_0 : decode cX12_isForbidden 0 = .ok (.aload_n 0, 1) := by decide +kernel
theorem dX12_isForbidden_1 : decode cX12_isForbidden 1 = .ok (.getfield 7, 3) := by decide +kernel
theorem dX12_isForbidden_4 : decode cX12_isForbidden 4 = .ok (.bipush 56, 2) := by decide +kernel
theorem dX12_isForbidden_6 : decode cX12_isForbidden 6 = .ok (.aload_n 0, 1) := by decide +kernel
theorem dX12_isForbidden_7 : decode cX12_isForbidden 7 = .ok (.getfield 7, 3) := by decide +kernel
theorem dX12_isForbidden_10 : decode cX12_isForbidden 10 = .ok (.bipush 36, 2) := by decide +kernel
theorem dX12_isForbidden_12 : decode cX12_isForbidden 12 = .ok (.iload_n 1, 1) := by decide +kernel
theorem dX12_isForbidden_13 : decode cX12_isForbidden 13 = .ok (.iadd, 1) := by decide +kernel
theorem dX12_isForbidden_14 : decode cX12_isForbidden 14 = .ok (.iaload, 1) := by decide +kernel
theorem dX12_isForbidden_15 : decode cX12_isForbidden 15 = .ok (.iadd, 1) := by decide +kernel
theorem dX12_isForbidden_16 : decode cX12_isForbidden 16 = .ok (.iaload, 1) := by decide +kernel
theorem dX12_isForbidden_17 : decode cX12_isForbidden 17 = .ok (.aload_n 0, 1) := by decide +kernel
theorem dX12_isForbidden_18 : decode cX12_isForbidden 18 = .ok (.getfield 7, 3) := by decide +kernel
theorem dX12_isForbidden_21 : decode cX12_isForbidden 21 = .ok (.bipush 36, 2) := by decide +kernel
theorem dX12_isForbidden_23 : decode cX12_isForbidden 23 = .ok (.iload_n 2, 1) := by decide +kernel
theorem dX12_isForbidden_24 : decode cX12_isForbidden 24 = .ok (.iadd, 1) := by decide +kernel
theorem dX12_isForbidden_25 : decode cX12_isForbidden 25 = .ok (.iaload, 1) := by decide +kernel
theorem dX12_isForbidden_26 : decode cX12_isForbidden 26 = .ok (.invokestatic 90, 3) := by decide +kernel
theorem dX12_isForbidden_29 : decode cX12_isForbidden 29 = .ok (.ireturn, 1) := by decide +kernel
theorem dX12_car_0 : decode cX12_car 0 = .ok (.iload_n 1, 1) := by decide +kernel
theorem dX12_car_1 : decode cX12_car 1 = .ok (.iconst 0, 1) := by decide +kernel
theorem dX12_car_2 : decode cX12_car 2 = .ok (.iconst 3, 1) := by decide +kernel
theorem dX12_car_3 : decode cX12_car 3 = .ok (.invokestatic 78, 3) := by decide +kernel
theorem dX12_car_6 : decode cX12_car 6 = .ok (.ifCond .eq 23, 3) := by decide +kernel
theorem dX12_car_9 : decode cX12_car 9 = .ok (.iload_n 2, 1) := by decide +kernel
theorem dX12_car_10 : decode cX12_car 10 = .ok (.iconst 1, 1) := by decide +kernel
theorem dX12_car_11 : decode cX12_car 11 = .ok (.bipush 9, 2) := by decide +kernel
theorem dX12_car_13 : decode cX12_car 13 = .ok (.invokestatic 78, 3) := by decide +kernel
theorem dX12_car_16 : decode cX12_car 16 = .ok (.ifCond .eq 13, 3) := by decide +kernel
theorem dX12_car_19 : decode cX12_car 19 = .ok (.aload_n 0, 1) := by decide +kernel
theorem dX12_car_20 : decode cX12_car 20 = .ok (.getfield 7, 3) := by decide +kernel
theorem dX12_car_23 : decode cX12_car 23 = .ok (.iconst 0, 1) := by decide +kernel
theorem dX12_car_24 : decode cX12_car 24 = .ok (.iaload, 1) := by decide +kernel
theorem dX12_car_25 : decode cX12_car 25 = .ok (.iconst 5, 1) := by decide +kernel
theorem dX12_car_26 : decode cX12_car 26 = .ok (.if_icmp .ne 5, 3) := by decide +kernel
theorem dX12_car_29 : decode cX12_car 29 = .ok (.iconst (-1), 1) := by decide +kernel
theorem dX12_car_30 : decode cX12_car 30 = .ok (.ireturn, 1) := by decide +kernel
theorem dX12_car_31 : decode cX12_car 31 = .ok (.aload_n 0, 1) := by decide +kernel
theorem dX12_car_32 : decode cX12_car 32 = .ok (.getfield 7, 3) := by decide +kernel
theorem dX12_car_35 : decode cX12_car 35 = .ok (.iconst 0, 1) := by decide +kernel
theorem dX12_car_36 : decode cX12_car 36 = .ok (.iaload, 1) := by decide +kernel
theorem dX12_car_37 : decode cX12_car 37 = .ok (.istore_n 3, 1) := by decide +kernel
theorem dX12_car_38 : decode cX12_car 38 = .ok (.aload_n 0, 1) := by decide +kernel
theorem dX12_car_39 : decode cX12_car 39 = .ok (.getfield 7, 3) := by decide +kernel
theorem dX12_car_42 : decode cX12_car 42 = .ok (.bipush 36, 2) := by decide +kernel
theorem dX12_car_44 : decode cX12_car 44 = .ok (.iload_n 3, 1) := by decide +kernel
theorem dX12_car_45 : decode cX12_car 45 = .ok (.iadd, 1) := by decide +kernel
theorem dX12_car_46 : decode cX12_car 46 = .ok (.iload_n 1, 1) := by decide +kernel
theorem dX12_car_47 : decode cX12_car 47 = .ok (.iastore, 1) := by decide +kernel
theorem dX12_car_48 : decode cX12_car 48 = .ok (.aload_n 0, 1) := by decide +kernel
theorem dX12_car_49 : decode cX12_car 49 = .ok (.getfield 7, 3) := by decide +kernel
theorem dX12_car_52 : decode cX12_car 52 = .ok (.bipush 41, 2) := by decide +kernel
theorem dX12_car_54 : decode cX12_car 54 = .ok (.iload_n 3, 1) := by decide +kernel
theorem dX12_car_55 : decode cX12_car 55 = .ok (.iadd, 1) := by decide +kernel
theorem dX12_car_56 : decode cX12_car 56 = .ok (.iload_n 2, 1) := by decide +kernel
theorem dX12_car_57 : decode cX12_car 57 = .ok (.iastore, 1) := by decide +kernel
theorem dX12_car_58 : decode cX12_car 58 = .ok (.aload_n 0, 1) := by decide +kernel
theorem dX12_car_59 : decode cX12_car 59 = .ok (.iconst 0, 1) := by decide +kernel
theorem dX12_car_60 : decode cX12_car 60 = .ok (.iload_n 3, 1) := by decide +kernel
theorem dX12_car_61 : decode cX12_car 61 = .ok (.invokevirtual 94, 3) := by decide +kernel
theorem dX12_car_64 : decode cX12_car 64 = .ok (.aload_n 0, 1) := by decide +kernel
theorem dX12_car_65 : decode cX12_car 65 = .ok (.getfield 7, 3) := by decide +kernel
theorem dX12_car_68 : decode cX12_car 68 = .ok (.iconst 0, 1) := by decide +kernel
theorem dX12_car_69 : decode cX12_car 69 = .ok (.dup2, 1) := by decide +kernel
theorem dX12_car_70 : decode cX12_car 70 = .ok (.iaload, 1) := by decide +kernel
theorem dX12_car_71 : decode cX12_car 71 = .ok (.iconst 1, 1) := by decide +kernel
theorem dX12_car_72 : decode cX12_car 72 = .ok (.iadd, 1) := by decide +kernel
theorem dX12_car_73 : decode cX12_car 73 = .ok (.iastore, 1) := by decide +kernel
theorem dX12_car_74 : decode cX12_car 74 = .ok (.iload_n 3, 1) := by decide +kernel
theorem dX12_car_75 : decode cX12_car 75 = .ok (.ireturn, 1) := by decide +kernel
theorem dX12_forbid_0 : decode cX12_forbid 0 = .ok (.iload_n 1, 1) := by decide +kernel
theorem dX12_forbid_1 : decode cX12_forbid 1 = .ok (.iconst 0, 1) := by decide +kernel
theorem dX12_forbid_2 : decode cX12_forbid 2 = .ok (.iconst 3, 1) := by decide +kernel
theorem dX12_forbid_3 : decode cX12_forbid 3 = .ok (.invokestatic 78, 3) := by decide +kernel
theorem dX12_forbid_6 : decode cX12_forbid 6 = .ok (.ifCond .eq 12, 3) := by decide +kernel
theorem dX12_forbid_9 : decode cX12_forbid 9 = .ok (.iload_n 2, 1) := by decide +kernel
theorem dX12_forbid_10 : decode cX12_forbid 10 = .ok (.iconst 0, 1) := by decide +kernel
theorem dX12_forbid_11 : decode cX12_forbid 11 = .ok (.iconst 3, 1) := by decide +kernel
theorem dX12_forbid_12 : decode cX12_forbid 12 = .ok (.invokestatic 78, 3) := by decide +kernel
theorem dX12_forbid_15 : decode cX12_forbid 15 = .ok (.ifCond .ne 5, 3) := by decide +kernel
theorem dX12_forbid_18 : decode cX12_forbid 18 = .ok (.iconst 0, 1) := by decide +kernel
theorem dX12_forbid_19 : decode cX12_forbid 19 = .ok (.ireturn, 1) := by decide +kernel
theorem dX12_forbid_20 : decode cX12_forbid 20 = .ok (.aload_n 0, 1) := by decide +kernel
theorem dX12_forbid_21 : decode cX12_forbid 21 = .ok (.iload_n 1, 1) := by decide +kernel
theorem dX12_forbid_22 : decode cX12_forbid 22 = .ok (.iload_n 2, 1) := by decide +kernel
theorem dX12_forbid_23 : decode cX12_forbid 23 = .ok (.iload_n 3, 1) := by decide +kernel
theorem dX12_forbid_24 : decode cX12_forbid 24 = .ok (.invokevirtual 98, 3) := by decide +kernel
theorem dX12_forbid_27 : decode cX12_forbid 27 = .ok (.aload_n 0, 1) := by decide +kernel
theorem dX12_forbid_28 : decode cX12_forbid 28 = .ok (.iload_n 2, 1) := by decide +kernel
theorem dX12_forbid_29 : decode cX12_forbid 29 = .ok (.iload_n 1, 1) := by decide +kernel
theorem dX12_forbid_30 : decode cX12_forbid 30 = .ok (.iload_n 3, 1) := by decide +kernel
theorem dX12_forbid_31 : decode cX12_forbid 31 = .ok (.invokevirtual 98, 3) := by decide +kernel
theorem dX12_forbid_34 : decode cX12_forbid 34 = .ok (.iconst 1, 1) := by decide +kernel
theorem dX12_forbid_35 : decode cX12_forbid 35 = .ok (.ireturn, 1) := by decide +kernel
theorem dX12_forbidOne_0 : decode cX12_forbidOne 0 = .ok (.aload_n 0, 1) := by decide +kernel
theorem dX12_forbidOne_1 : decode cX12_forbidOne 1 = .ok (.getfield 7, 3) := by decide +kernel
theorem dX12_forbidOne_4 : decode cX12_forbidOne 4 = .ok (.bipush 56, 2) := by decide +kernel
theorem dX12_forbidOne_6 : decode cX12_forbidOne 6 = .ok (.iload_n 1, 1) := by decide +kernel
theorem dX12_forbidOne_7 : decode cX12_forbidOne 7 = .ok (.iadd, 1) := by decide +kernel
theorem dX12_forbidOne_8 : decode cX12_forbidOne 8 = .ok (.iload_n 3, 1) := by decide +kernel
theorem dX12_forbidOne_9 : decode cX12_forbidOne 9 = .ok (.ifCond .eq 19, 3) := by decide +kernel
theorem dX12_forbidOne_12 : decode cX12_forbidOne 12 = .ok (.aload_n 0, 1) := by decide +kernel
theorem dX12_forbidOne_13 : decode cX12_forbidOne 13 = .ok (.getfield 7, 3) := by decide +kernel
theorem dX12_forbidOne_16 : decode cX12_forbidOne 16 = .ok (.bipush 56, 2) := by decide +kernel
theorem dX12_forbidOne_18 : decode cX12_forbidOne 18 = .ok (.iload_n 1, 1) := by decide +kernel
theorem dX12_forbidOne_19 : decode cX12_forbidOne 19 = .ok (.iadd, 1) := by decide +kernel
theorem dX12_forbidOne_20 : decode cX12_forbidOne 20 = .ok (.iaload, 1) := by decide +kernel
theorem dX12_forbidOne_21 : decode cX12_forbidOne 21 = .ok (.iconst 1, 1) := by decide +kernel
theorem dX12_forbidOne_22 : decode cX12_forbidOne 22 = .ok (.iload_n 2, 1) := by decide +kernel
theorem dX12_forbidOne_23 : decode cX12_forbidOne 23 = .ok (.ishl, 1) := by decide +kernel
theorem dX12_forbidOne_24 : decode cX12_forbidOne 24 = .ok (.ior, 1) := by decide +kernel
theorem dX12_forbidOne_25 : decode cX12_forbidOne 25 = .ok (.goto 18, 3) := by decide +kernel
theorem dX12_forbidOne_28 : decode cX12_forbidOne 28 = .ok (.aload_n 0, 1) := by decide +kernel
theorem dX12_forbidOne_29 : decode cX12_forbidOne 29 = .ok (.getfield 7, 3) := by decide +kernel
theorem dX12_forbidOne_32 : decode cX12_forbidOne 32 = .ok (.bipush 56, 2) := by decide +kernel
theorem dX12_forbidOne_34 : decode cX12_forbidOne 34 = .ok (.iload_n 1, 1) := by decide +kernel
theorem dX12_forbidOne_35 : decode cX12_forbidOne 35 = .ok (.iadd, 1) := by decide +kernel
theorem dX12_forbidOne_36 : decode cX12_forbidOne 36 = .ok (.iaload, 1) := by decide +kernel
theorem dX12_forbidOne_37 : decode cX12_forbidOne 37 = .ok (.iconst 1, 1) := by decide +kernel
theorem dX12_forbidOne_38 : decode cX12_forbidOne 38 = .ok (.iload_n 2, 1) := by decide +kernel
theorem dX12_forbidOne_39 : decode cX12_forbidOne 39 = .ok (.ishl, 1) := by decide +kernel
theorem dX12_forbidOne_40 : decode cX12_forbidOne 40 = .ok (.iconst (-1), 1) := by decide +kernel
theorem dX12_forbidOne_41 : decode cX12_forbidOne 41 = .ok (.ixor, 1) := by decide +kernel
theorem dX12_forbidOne_42 : decode cX12_forbidOne 42 = .ok (.iand, 1) := by decide +kernel
theorem dX12_forbidOne_43 : decode cX12_forbidOne 43 = .ok (.iastore, 1) := by decide +kernel
theorem dX12_forbidOne_44 : decode cX12_forbidOne 44 = .ok (.return_, 1) := by decide +kernel
theorem dX12_times_0 : decode cX12_times 0 = .ok (.aload_n 0, 1) := by decide +kernel
theorem dX12_times_1 : decode cX12_times 1 = .ok (.iload_n 1, 1) := by decide +kernel
theorem dX12_times_2 : decode cX12_times 2 = .ok (.invokevirtual 102, 3) := by decide +kernel
theorem dX12_times_5 : decode cX12_times 5 = .ok (.ifCond .eq 23, 3) := by decide +kernel
theorem dX12_times_8 : decode cX12_times 8 = .ok (.iload_n 2, 1) := by decide +kernel
theorem dX12_times_9 : decode cX12_times 9 = .ok (.iconst 1, 1) := by decide +kernel
theorem dX12_times_10 : decode cX12_times 10 = .ok (.bipush 20, 2) := by decide +kernel
theorem dX12_times_12 : decode cX12_times 12 = .ok (.invokestatic 78, 3) := by decide +kernel
theorem dX12_times_15 : decode cX12_times 15 = .ok (.ifCond .eq 13, 3) := by decide +kernel
theorem dX12_times_18 : decode cX12_times 18 = .ok (.iload_n 3, 1) := by decide +kernel
theorem dX12_times_19 : decode cX12_times 19 = .ok (.iconst 1, 1) := by decide +kernel
theorem dX12_times_20 : decode cX12_times 20 = .ok (.bipush 20, 2) := by decide +kernel
theorem dX12_times_22 : decode cX12_times 22 = .ok (.invokestatic 78, 3) := by decide +kernel
theorem dX12_times_25 : decode cX12_times 25 = .ok (.ifCond .ne 5, 3) := by decide +kernel
theorem dX12_times_28 : decode cX12_times 28 = .ok (.iconst 0, 1) := by decide +kernel
theorem dX12_times_29 : decode cX12_times 29 = .ok (.ireturn, 1) := by decide +kernel
theorem dX12_times_30 : decode cX12_times 30 = .ok (.aload_n 0, 1) := by decide +kernel
theorem dX12_times_31 : decode cX12_times 31 = .ok (.getfield 7, 3) := by decide +kernel
theorem dX12_times_34 : decode cX12_times 34 = .ok (.bipush 46, 2) := by decide +kernel
theorem dX12_times_36 : decode cX12_times 36 = .ok (.iload_n 1, 1) := by decide +kernel
theorem dX12_times_37 : decode cX12_times 37 = .ok (.iadd, 1) := by decide +kernel
theorem dX12_times_38 : decode cX12_times 38 = .ok (.iload_n 2, 1) := by decide +kernel
theorem dX12_times_39 : decode cX12_times 39 = .ok (.iastore, 1) := by decide +kernel
theorem dX12_times_40 : decode cX12_times 40 = .ok (.aload_n 0, 1) := by decide +kernel
theorem dX12_times_41 : decode cX12_times 41 = .ok (.getfield 7, 3) := by decide +kernel
theorem dX12_times_44 : decode cX12_times 44 = .ok (.bipush 51, 2) := by decide +kernel
theorem dX12_times_46 : decode cX12_times 46 = .ok (.iload_n 1, 1) := by decide +kernel
theorem dX12_times_47 : decode cX12_times 47 = .ok (.iadd, 1) := by decide +kernel
theorem dX12_times_48 : decode cX12_times 48 = .ok (.iload_n 3, 1) := by decide +kernel
theorem dX12_times_49 : decode cX12_times 49 = .ok (.iastore, 1) := by decide +kernel
theorem dX12_times_50 : decode cX12_times 50 = .ok (.iconst 1, 1) := by decide +kernel
theorem dX12_times_51 : decode cX12_times 51 = .ok (.ireturn, 1) := by decide +kernel
theorem dX12_four_0 : decode cX12_four 0 = .ok (.bipush 24, 2) := by decide +kernel
theorem dX12_four_2 : decode cX12_four 2 = .ok (.istore_n 2, 1) := by decide +kernel
theorem dX12_four_3 : decode cX12_four 3 = .ok (.iload_n 2, 1) := by decide +kernel
theorem dX12_four_4 : decode cX12_four 4 = .ok (.ifCond .lt 35, 3) := by decide +kernel
theorem dX12_four_7 : decode cX12_four 7 = .ok (.aload_n 0, 1) := by decide +kernel
theorem dX12_four_8 : decode cX12_four 8 = .ok (.getfield 19, 3) := by decide +kernel
theorem dX12_four_11 : decode cX12_four 11 = .ok (.aload_n 0, 1) := by decide +kernel
theorem dX12_four_12 : decode cX12_four 12 = .ok (.getfield 106, 3) := by decide +kernel
theorem dX12_four_15 : decode cX12_four 15 = .ok (.iload_n 1, 1) := by decide +kernel
theorem dX12_four_16 : decode cX12_four 16 = .ok (.iload_n 2, 1) := by decide +kernel
theorem dX12_four_17 : decode cX12_four 17 = .ok (.ishr, 1) := by decide +kernel
theorem dX12_four_18 : decode cX12_four 18 = .ok (.sipush 255, 3) := by decide +kernel
theorem dX12_four_21 : decode cX12_four 21 = .ok (.iand, 1) := by decide +kernel
theorem dX12_four_22 : decode cX12_four 22 = .ok (.iastore, 1) := by decide +kernel
theorem dX12_four_23 : decode cX12_four 23 = .ok (.aload_n 0, 1) := by decide +kernel
theorem dX12_four_24 : decode cX12_four 24 = .ok (.dup, 1) := by decide +kernel
theorem dX12_four_25 : decode cX12_four 25 = .ok (.getfield 106, 3) := by decide +kernel
theorem dX12_four_28 : decode cX12_four 28 = .ok (.iconst 1, 1) := by decide +kernel
theorem dX12_four_29 : decode cX12_four 29 = .ok (.iadd, 1) := by decide +kernel
theorem dX12_four_30 : decode cX12_four 30 = .ok (.putfield 106, 3) := by decide +kernel
theorem dX12_four_33 : decode cX12_four 33 = .ok (.iinc 2 (-8), 3) := by decide +kernel
theorem dX12_four_36 : decode cX12_four 36 = .ok (.goto (-33), 3) := by decide +kernel
theorem dX12_four_39 : decode cX12_four 39 = .ok (.return_, 1) := by decide +kernel
theorem dX12_feed_0 : decode cX12_feed 0 = .ok (.aload_n 0, 1) := by decide +kernel
theorem dX12_feed_1 : decode cX12_feed 1 = .ok (.getfield 106, 3) := by decide +kernel
theorem dX12_feed_4 : decode cX12_feed 4 = .ok (.bipush 20, 2) := by decide +kernel
theorem dX12_feed_6 : decode cX12_feed 6 = .ok (.iadd, 1) := by decide +kernel
theorem dX12_feed_7 : decode cX12_feed 7 = .ok (.sipush 300, 3) := by decide +kernel
theorem dX12_feed_10 : decode cX12_feed 10 = .ok (.if_icmp .le 5, 3) := by decide +kernel
theorem dX12_feed_13 : decode cX12_feed 13 = .ok (.iconst (-1), 1) := by decide +kernel
theorem dX12_feed_14 : decode cX12_feed 14 = .ok (.ireturn, 1) := by decide +kernel
theorem dX12_feed_15 : decode cX12_feed 15 = .ok (.aload_n 0, 1) := by decide +kernel
theorem dX12_feed_16 : decode cX12_feed 16 = .ok (.iload_n 1, 1) := by decide +kernel
theorem dX12_feed_17 : decode cX12_feed 17 = .ok (.invokevirtual 109, 3) := by decide +kernel
theorem dX12_feed_20 : decode cX12_feed 20 = .ok (.aload_n 0, 1) := by decide +kernel
theorem dX12_feed_21 : decode cX12_feed 21 = .ok (.iload_n 2, 1) := by decide +kernel
theorem dX12_feed_22 : decode cX12_feed 22 = .ok (.invokevirtual 109, 3) := by decide +kernel
theorem dX12_feed_25 : decode cX12_feed 25 = .ok (.aload_n 0, 1) := by decide +kernel
theorem dX12_feed_26 : decode cX12_feed 26 = .ok (.iload_n 3, 1) := by decide +kernel
theorem dX12_feed_27 : decode cX12_feed 27 = .ok (.invokevirtual 109, 3) := by decide +kernel
theorem dX12_feed_30 : decode cX12_feed 30 = .ok (.aload_n 0, 1) := by decide +kernel
theorem dX12_feed_31 : decode cX12_feed 31 = .ok (.iload 4, 2) := by decide +kernel
theorem dX12_feed_33 : decode cX12_feed 33 = .ok (.invokevirtual 109, 3) := by decide +kernel
theorem dX12_feed_36 : decode cX12_feed 36 = .ok (.aload_n 0, 1) := by decide +kernel
theorem dX12_feed_37 : decode cX12_feed 37 = .ok (.iload 5, 2) := by decide +kernel
theorem dX12_feed_39 : decode cX12_feed 39 = .ok (.invokevirtual 109, 3) := by decide +kernel
theorem dX12_feed_42 : decode cX12_feed 42 = .ok (.aload_n 0, 1) := by decide +kernel
theorem dX12_feed_43 : decode cX12_feed 43 = .ok (.getfield 106, 3) := by decide +kernel
theorem dX12_feed_46 : decode cX12_feed 46 = .ok (.ireturn, 1) := by decide +kernel
theorem dX12_end_0 : decode cX12_end 0 = .ok (.iload_n 1, 1) := by decide +kernel
theorem dX12_end_1 : decode cX12_end 1 = .ok (.iconst 0, 1) := by decide +kernel
theorem dX12_end_2 : decode cX12_end 2 = .ok (.aload_n 0, 1) := by decide +kernel
theorem dX12_end_3 : decode cX12_end 3 = .ok (.getfield 106, 3) := by decide +kernel
theorem dX12_end_6 : decode cX12_end 6 = .ok (.invokestatic 78, 3) := by decide +kernel
theorem dX12_end_9 : decode cX12_end 9 = .ok (.ifCond .ne 5, 3) := by decide +kernel
theorem dX12_end_12 : decode cX12_end 12 = .ok (.iconst (-1), 1) := by decide +kernel
theorem dX12_end_13 : decode cX12_end 13 = .ok (.ireturn, 1) := by decide +kernel
theorem dX12_end_14 : decode cX12_end 14 = .ok (.aload_n 0, 1) := by decide +kernel
theorem dX12_end_15 : decode cX12_end 15 = .ok (.iload_n 1, 1) := by decide +kernel
theorem dX12_end_16 : decode cX12_end 16 = .ok (.putfield 106, 3) := by decide +kernel
theorem dX12_end_19 : decode cX12_end 19 = .ok (.iload_n 1, 1) := by decide +kernel
theorem dX12_end_20 : decode cX12_end 20 = .ok (.ireturn, 1) := by decide +kernel
theorem dX12_byteAt_0 : decode cX12_byteAt 0 = .ok (.iload_n 1, 1) := by decide +kernel
theorem dX12_byteAt_1 : decode cX12_byteAt 1 = .ok (.aload_n 0, 1) := by decide +kernel
theorem dX12_byteAt_2 : decode cX12_byteAt 2 = .ok (.getfield 106, 3) := by decide +kernel
theorem dX12_byteAt_5 : decode cX12_byteAt 5 = .ok (.if_icmp .ge 12, 3) := by decide +kernel
theorem dX12_byteAt_8 : decode cX12_byteAt 8 = .ok (.aload_n 0, 1) := by decide +kernel
theorem dX12_byteAt_9 : decode cX12_byteAt 9 = .ok (.getfield 19, 3) := by decide +kernel
theorem dX12_byteAt_12 : decode cX12_byteAt 12 = .ok (.iload_n 1, 1) := by decide +kernel
theorem dX12_byteAt_13 : decode cX12_byteAt 13 = .ok (.iaload, 1) := by decide +kernel
theorem dX12_byteAt_14 : decode cX12_byteAt 14 = .ok (.goto 4, 3) := by decide +kernel
theorem dX12_byteAt_17 : decode cX12_byteAt 17 = .ok (.iconst (-1), 1) := by decide +kernel
theorem dX12_byteAt_18 : decode cX12_byteAt 18 = .ok (.ireturn, 1) := by decide +kernel
theorem dX12_isLetterByte_0 : decode cX12_isLetterByte 0 = .ok (.iload_n 0, 1) := by decide +kernel
theorem dX12_isLetterByte_1 : decode cX12_isLetterByte 1 = .ok (.bipush 97, 2) := by decide +kernel
theorem dX12_isLetterByte_3 : decode cX12_isLetterByte 3 = .ok (.if_icmp .lt 9, 3) := by decide +kernel
theorem dX12_isLetterByte_6 : decode cX12_isLetterByte 6 = .ok (.iload_n 0, 1) := by decide +kernel
theorem dX12_isLetterByte_7 : decode cX12_isLetterByte 7 = .ok (.bipush 122, 2) := by decide +kernel
theorem dX12_isLetterByte_9 : decode cX12_isLetterByte 9 = .ok (.if_icmp .le 15, 3) := by decide +kernel
theorem dX12_isLetterByte_12 : decode cX12_isLetterByte 12 = .ok (.iload_n 0, 1) := by decide +kernel
theorem dX12_isLetterByte_13 : decode cX12_isLetterByte 13 = .ok (.bipush 65, 2) := by decide +kernel
theorem dX12_isLetterByte_15 : decode cX12_isLetterByte 15 = .ok (.if_icmp .lt 13, 3) := by decide +kernel
theorem dX12_isLetterByte_18 : decode cX12_isLetterByte 18 = .ok (.iload_n 0, 1) := by decide +kernel
theorem dX12_isLetterByte_19 : decode cX12_isLetterByte 19 = .ok (.bipush 90, 2) := by decide +kernel
theorem dX12_isLetterByte_21 : decode cX12_isLetterByte 21 = .ok (.if_icmp .gt 7, 3) := by decide +kernel
theorem dX12_isLetterByte_24 : decode cX12_isLetterByte 24 = .ok (.iconst 1, 1) := by decide +kernel
theorem dX12_isLetterByte_25 : decode cX12_isLetterByte 25 = .ok (.goto 4, 3) := by decide +kernel
theorem dX12_isLetterByte_28 : decode cX12_isLetterByte 28 = .ok (.iconst 0, 1) := by decide +kernel
theorem dX12_isLetterByte_29 : decode cX12_isLetterByte 29 = .ok (.ireturn, 1) := by decide +kernel
theorem dX12_isFigure_0 : decode cX12_isFigure 0 = .ok (.iload_n 0, 1) := by decide +kernel
theorem dX12_isFigure_1 : decode cX12_isFigure 1 = .ok (.bipush 48, 2) := by decide +kernel
theorem dX12_isFigure_3 : decode cX12_isFigure 3 = .ok (.if_icmp .lt 13, 3) := by decide +kernel
theorem dX12_isFigure_6 : decode cX12_isFigure 6 = .ok (.iload_n 0, 1) := by decide +kernel
theorem dX12_isFigure_7 : decode cX12_isFigure 7 = .ok (.bipush 57, 2) := by decide +kernel
theorem dX12_isFigure_9 : decode cX12_isFigure 9 = .ok (.if_icmp .gt 7, 3) := by decide +kernel
theorem dX12_isFigure_12 : decode cX12_isFigure 12 = .ok (.iconst 1, 1) := by decide +kernel
theorem dX12_isFigure_13 : decode cX12_isFigure 13 = .ok (.goto 4, 3) := by decide +kernel
theorem dX12_isFigure_16 : decode cX12_isFigure 16 = .ok (.iconst 0, 1) := by decide +kernel
theorem dX12_isFigure_17 : decode cX12_isFigure 17 = .ok (.ireturn, 1) := by decide +kernel
theorem dX12_isSign_0 : decode cX12_isSign 0 = .ok (.iload_n 0, 1) := by decide +kernel
theorem dX12_isSign_1 : decode cX12_isSign 1 = .ok (.tableswitch 129 35 62 #[127, 129, 129, 129, 129, 127, 127, 127, 127, 129, 127, 129, 127, 129, 129, 129, 129, 129, 129, 129, 129, 129, 129, 127, 127, 127, 127, 127], 127) := by decide +kernel
theorem dX12_isSign_128 : decode cX12_isSign 128 = .ok (.iconst 1, 1) := by decide +kernel
theorem dX12_isSign_129 : decode cX12_isSign 129 = .ok (.ireturn, 1) := by decide +kernel
theorem dX12_isSign_130 : decode cX12_isSign 130 = .ok (.iconst 0, 1) := by decide +kernel
theorem dX12_isSign_131 : decode cX12_isSign 131 = .ok (.ireturn, 1) := by decide +kernel
theorem dX12_nextToken_0 : decode cX12_nextToken 0 = .ok (.aload_n 0, 1) := by decide +kernel
theorem dX12_nextToken_1 : decode cX12_nextToken 1 = .ok (.aload_n 0, 1) := by decide +kernel
theorem dX12_nextToken_2 : decode cX12_nextToken 2 = .ok (.getfield 113, 3) := by decide +kernel
theorem dX12_nextToken_5 : decode cX12_nextToken 5 = .ok (.invokevirtual 116, 3) := by decide +kernel
theorem dX12_nextToken_8 : decode cX12_nextToken 8 = .ok (.bipush 32, 2) := by decide +kernel
theorem dX12_nextToken_10 : decode cX12_nextToken 10 = .ok (.if_icmp .eq 16, 3) := by decide +kernel
theorem dX12_nextToken_13 : decode cX12_nextToken 13 = .ok (.aload_n 0, 1) := by decide +kernel
theorem dX12_nextToken_14 : decode cX12_nextToken 14 = .ok (.aload_n 0, 1) := by decide +kernel
theorem dX12_nextToken_15 : decode cX12_nextToken 15 = .ok (.getfield 113, 3) := by decide +kernel
theorem dX12_nextToken_18 : decode cX12_nextToken 18 = .ok (.invokevirtual 116, 3) := by decide +kernel
theorem dX12_nextToken_21 : decode cX12_nextToken 21 = .ok (.bipush 10, 2) := by decide +kernel
theorem dX12_nextToken_23 : decode cX12_nextToken 23 = .ok (.if_icmp .ne 16, 3) := by decide +kernel
theorem dX12_nextToken_26 : decode cX12_nextToken 26 = .ok (.aload_n 0, 1) := by decide +kernel
theorem dX12_nextToken_27 : decode cX12_nextToken 27 = .ok (.dup, 1) := by decide +kernel
theorem dX12_nextToken_28 : decode cX12_nextToken 28 = .ok (.getfield 113, 3) := by decide +kernel
theorem dX12_nextToken_31 : decode cX12_nextToken 31 = .ok (.iconst 1, 1) := by decide +kernel
theorem dX12_nextToken_32 : decode cX12_nextToken 32 = .ok (.iadd, 1) := by decide +kernel
theorem dX12_nextToken_33 : decode cX12_nextToken 33 = .ok (.putfield 113, 3) := by decide +kernel
theorem dX12_nextToken_36 : decode cX12_nextToken 36 = .ok (.goto (-36), 3) := by decide +kernel
theorem dX12_nextToken_39 : decode cX12_nextToken 39 = .ok (.aload_n 0, 1) := by decide +kernel
theorem dX12_nextToken_40 : decode cX12_nextToken 40 = .ok (.aload_n 0, 1) := by decide +kernel
theorem dX12_nextToken_41 : decode cX12_nextToken 41 = .ok (.getfield 113, 3) := by decide +kernel
theorem dX12_nextToken_44 : decode cX12_nextToken 44 = .ok (.putfield 119, 3) := by decide +kernel
theorem dX12_nextToken_47 : decode cX12_nextToken 47 = .ok (.aload_n 0, 1) := by decide +kernel
theorem dX12_nextToken_48 : decode cX12_nextToken 48 = .ok (.aload_n 0, 1) := by decide +kernel
theorem dX12_nextToken_49 : decode cX12_nextToken 49 = .ok (.getfield 113, 3) := by decide +kernel
theorem dX12_nextToken_52 : decode cX12_nextToken 52 = .ok (.invokevirtual 116, 3) := by decide +kernel
theorem dX12_nextToken_55 : decode cX12_nextToken 55 = .ok (.istore_n 1, 1) := by decide +kernel
theorem dX12_nextToken_56 : decode cX12_nextToken 56 = .ok (.iload_n 1, 1) := by decide +kernel
theorem dX12_nextToken_57 : decode cX12_nextToken 57 = .ok (.ifCond .ge 11, 3) := by decide +kernel
theorem dX12_nextToken_60 : decode cX12_nextToken 60 = .ok (.aload_n 0, 1) := by decide +kernel
theorem dX12_nextToken_61 : decode cX12_nextToken 61 = .ok (.iconst 0, 1) := by decide +kernel
theorem dX12_nextToken_62 : decode cX12_nextToken 62 = .ok (.putfield 122, 3) := by decide +kernel
theorem dX12_nextToken_65 : decode cX12_nextToken 65 = .ok (.goto 245, 3) := by decide +kernel
theorem dX12_nextToken_68 : decode cX12_nextToken 68 = .ok (.iload_n 1, 1) := by decide +kernel
theorem dX12_nextToken_69 : decode cX12_nextToken 69 = .ok (.invokestatic 125, 3) := by decide +kernel
theorem dX12_nextToken_72 : decode cX12_nextToken 72 = .ok (.ifCond .eq 79, 3) := by decide +kernel
theorem dX12_nextToken_75 : decode cX12_nextToken 75 = .ok (.aload_n 0, 1) := by decide +kernel
theorem dX12_nextToken_76 : decode cX12_nextToken 76 = .ok (.iconst 1, 1) := by decide +kernel
theorem dX12_nextToken_77 : decode cX12_nextToken 77 = .ok (.putfield 122, 3) := by decide +kernel
theorem dX12_nextToken_80 : decode cX12_nextToken 80 = .ok (.aload_n 0, 1) := by decide +kernel
theorem dX12_nextToken_81 : decode cX12_nextToken 81 = .ok (.iconst 0, 1) := by decide +kernel
theorem dX12_nextToken_82 : decode cX12_nextToken 82 = .ok (.putfield 128, 3) := by decide +kernel
theorem dX12_nextToken_85 : decode cX12_nextToken 85 = .ok (.aload_n 0, 1) := by decide +kernel
theorem dX12_nextToken_86 : decode cX12_nextToken 86 = .ok (.aload_n 0, 1) := by decide +kernel
theorem dX12_nextToken_87 : decode cX12_nextToken 87 = .ok (.getfield 113, 3) := by decide +kernel
theorem dX12_nextToken_90 : decode cX12_nextToken 90 = .ok (.invokevirtual 116, 3) := by decide +kernel
theorem dX12_nextToken_93 : decode cX12_nextToken 93 = .ok (.invokestatic 125, 3) := by decide +kernel
theorem dX12_nextToken_96 : decode cX12_nextToken 96 = .ok (.ifCond .eq 214, 3) := by decide +kernel
theorem dX12_nextToken_99 : decode cX12_nextToken 99 = .ok (.aload_n 0, 1) := by decide +kernel
theorem dX12_nextToken_100 : decode cX12_nextToken 100 = .ok (.aload_n 0, 1) := by decide +kernel
theorem dX12_nextToken_101 : decode cX12_nextToken 101 = .ok (.getfield 128, 3) := by decide +kernel
theorem dX12_nextToken_104 : decode cX12_nextToken 104 = .ok (.ldc 131, 2) := by decide +kernel
theorem dX12_nextToken_106 : decode cX12_nextToken 106 = .ok (.if_icmp .le 10, 3) := by decide +kernel
theorem dX12_nextToken_109 : decode cX12_nextToken 109 = .ok (.aload_n 0, 1) := by decide +kernel
theorem dX12_nextToken_110 : decode cX12_nextToken 110 = .ok (.getfield 128, 3) := by decide +kernel
theorem dX12_nextToken_113 : decode cX12_nextToken 113 = .ok (.goto 22, 3) := by decide +kernel
theorem dX12_nextToken_116 : decode cX12_nextToken 116 = .ok (.bipush 10, 2) := by decide +kernel
theorem dX12_nextToken_118 : decode cX12_nextToken 118 = .ok (.aload_n 0, 1) := by decide +kernel
theorem dX12_nextToken_119 : decode cX12_nextToken 119 = .ok (.getfield 128, 3) := by decide +kernel
theorem dX12_nextToken_122 : decode cX12_nextToken 122 = .ok (.imul, 1) := by decide +kernel
theorem dX12_nextToken_123 : decode cX12_nextToken 123 = .ok (.aload_n 0, 1) := by decide +kernel
theorem dX12_nextToken_124 : decode cX12_nextToken 124 = .ok (.aload_n 0, 1) := by decide +kernel
theorem dX12_nextToken_125 : decode cX12_nextToken 125 = .ok (.getfield 113, 3) := by decide +kernel
theorem dX12_nextToken_128 : decode cX12_nextToken 128 = .ok (.invokevirtual 116, 3) := by decide +kernel
theorem dX12_nextToken_131 : decode cX12_nextToken 131 = .ok (.iadd, 1) := by decide +kernel
theorem dX12_nextToken_132 : decode cX12_nextToken 132 = .ok (.bipush 48, 2) := by decide +kernel
theorem dX12_nextToken_134 : decode cX12_nextToken 134 = .ok (.isub, 1) := by decide +kernel
theorem dX12_nextToken_135 : decode cX12_nextToken 135 = .ok (.putfield 128, 3) := by decide +kernel
theorem dX12_nextToken_138 : decode cX12_nextToken 138 = .ok (.aload_n 0, 1) := by decide +kernel
theorem dX12_nextToken_139 : decode cX12_nextToken 139 = .ok (.dup, 1) := by decide +kernel
theorem dX12_nextToken_140 : decode cX12_nextToken 140 = .ok (.getfield 113, 3) := by decide +kernel
theorem dX12_nextToken_143 : decode cX12_nextToken 143 = .ok (.iconst 1, 1) := by decide +kernel
theorem dX12_nextToken_144 : decode cX12_nextToken 144 = .ok (.iadd, 1) := by decide +kernel
theorem dX12_nextToken_145 : decode cX12_nextToken 145 = .ok (.putfield 113, 3) := by decide +kernel
theorem dX12_nextToken_148 : decode cX12_nextToken 148 = .ok (.goto (-63), 3) := by decide +kernel
theorem dX12_nextToken_151 : decode cX12_nextToken 151 = .ok (.iload_n 1, 1) := by decide +kernel
theorem dX12_nextToken_152 : decode cX12_nextToken 152 = .ok (.invokestatic 132, 3) := by decide +kernel
theorem dX12_nextToken_155 : decode cX12_nextToken 155 = .ok (.ifCond .eq 79, 3) := by decide +kernel
theorem dX12_nextToken_158 : decode cX12_nextToken 158 = .ok (.aload_n 0, 1) := by decide +kernel
theorem dX12_nextToken_159 : decode cX12_nextToken 159 = .ok (.iconst 2, 1) := by decide +kernel
theorem dX12_nextToken_160 : decode cX12_nextToken 160 = .ok (.putfield 122, 3) := by decide +kernel
theorem dX12_nextToken_163 : decode cX12_nextToken 163 = .ok (.aload_n 0, 1) := by decide +kernel
theorem dX12_nextToken_164 : decode cX12_nextToken 164 = .ok (.lconst 0, 1) := by decide +kernel
theorem dX12_nextToken_165 : decode cX12_nextToken 165 = .ok (.putfield 135, 3) := by decide +kernel
theorem dX12_nextToken_168 : decode cX12_nextToken 168 = .ok (.aload_n 0, 1) := by decide +kernel
theorem dX12_nextToken_169 : decode cX12_nextToken 169 = .ok (.aload_n 0, 1) := by decide +kernel
theorem dX12_nextToken_170 : decode cX12_nextToken 170 = .ok (.getfield 113, 3) := by decide +kernel
theorem dX12_nextToken_173 : decode cX12_nextToken 173 = .ok (.invokevirtual 116, 3) := by decide +kernel
theorem dX12_nextToken_176 : decode cX12_nextToken 176 = .ok (.invokestatic 132, 3) := by decide +kernel
theorem dX12_nextToken_179 : decode cX12_nextToken 179 = .ok (.ifCond .eq 131, 3) := by decide +kernel
theorem dX12_nextToken_182 : decode cX12_nextToken 182 = .ok (.aload_n 0, 1) := by decide +kernel
theorem dX12_nextToken_183 : decode cX12_nextToken 183 = .ok (.aload_n 0, 1) := by decide +kernel
theorem dX12_nextToken_184 : decode cX12_nextToken 184 = .ok (.getfield 135, 3) := by decide +kernel
theorem dX12_nextToken_187 : decode cX12_nextToken 187 = .ok (.bipush 48, 2) := by decide +kernel
theorem dX12_nextToken_189 : decode cX12_nextToken 189 = .ok (.lshr, 1) := by decide +kernel
theorem dX12_nextToken_190 : decode cX12_nextToken 190 = .ok (.lconst 0, 1) := by decide +kernel
theorem dX12_nextToken_191 : decode cX12_nextToken 191 = .ok (.lcmp, 1) := by decide +kernel
theorem dX12_nextToken_192 : decode cX12_nextToken 192 = .ok (.ifCond .eq 9, 3) := by decide +kernel
theorem dX12_nextToken_195 : decode cX12_nextToken 195 = .ok (.ldc2_w 139, 3) := by decide +kernel
theorem dX12_nextToken_198 : decode cX12_nextToken 198 = .ok (.goto 20, 3) := by decide +kernel
theorem dX12_nextToken_201 : decode cX12_nextToken 201 = .ok (.aload_n 0, 1) := by decide +kernel
theorem dX12_nextToken_202 : decode cX12_nextToken 202 = .ok (.getfield 135, 3) := by decide +kernel
theorem dX12_nextToken_205 : decode cX12_nextToken 205 = .ok (.bipush 8, 2) := by decide +kernel
theorem dX12_nextToken_207 : decode cX12_nextToken 207 = .ok (.lshl, 1) := by decide +kernel
theorem dX12_nextToken_208 : decode cX12_nextToken 208 = .ok (.aload_n 0, 1) := by decide +kernel
theorem dX12_nextToken_209 : decode cX12_nextToken 209 = .ok (.aload_n 0, 1) := by decide +kernel
theorem dX12_nextToken_210 : decode cX12_nextToken 210 = .ok (.getfield 113, 3) := by decide +kernel
theorem dX12_nextToken_213 : decode cX12_nextToken 213 = .ok (.invokevirtual 116, 3) := by decide +kernel
theorem dX12_nextToken_216 : decode cX12_nextToken 216 = .ok (.i2l, 1) := by decide +kernel
theorem dX12_nextToken_217 : decode cX12_nextToken 217 = .ok (.lor, 1) := by decide +kernel
theorem dX12_nextToken_218 : decode cX12_nextToken 218 = .ok (.putfield 135, 3) := by decide +kernel
theorem dX12_nextToken_221 : decode cX12_nextToken 221 = .ok (.aload_n 0, 1) := by decide +kernel
theorem dX12_nextToken_222 : decode cX12_nextToken 222 = .ok (.dup, 1) := by decide +kernel
theorem dX12_nextToken_223 : decode cX12_nextToken 223 = .ok (.getfield 113, 3) := by decide +kernel
theorem dX12_nextToken_226 : decode cX12_nextToken 226 = .ok (.iconst 1, 1) := by decide +kernel
theorem dX12_nextToken_227 : decode cX12_nextToken 227 = .ok (.iadd, 1) := by decide +kernel
theorem dX12_nextToken_228 : decode cX12_nextToken 228 = .ok (.putfield 113, 3) := by decide +kernel
theorem dX12_nextToken_231 : decode cX12_nextToken 231 = .ok (.goto (-63), 3) := by decide +kernel
theorem dX12_nextToken_234 : decode cX12_nextToken 234 = .ok (.aload_n 0, 1) := by decide +kernel
theorem dX12_nextToken_235 : decode cX12_nextToken 235 = .ok (.iload_n 1, 1) := by decide +kernel
theorem dX12_nextToken_236 : decode cX12_nextToken 236 = .ok (.invokestatic 141, 3) := by decide +kernel
theorem dX12_nextToken_239 : decode cX12_nextToken 239 = .ok (.ifCond .eq 7, 3) := by decide +kernel
theorem dX12_nextToken_242 : decode cX12_nextToken 242 = .ok (.iload_n 1, 1) := by decide +kernel
theorem dX12_nextToken_243 : decode cX12_nextToken 243 = .ok (.goto 4, 3) := by decide +kernel
theorem dX12_nextToken_246 : decode cX12_nextToken 246 = .ok (.iconst 3, 1) := by decide +kernel
theorem dX12_nextToken_247 : decode cX12_nextToken 247 = .ok (.putfield 122, 3) := by decide +kernel
theorem dX12_nextToken_250 : decode cX12_nextToken 250 = .ok (.aload_n 0, 1) := by decide +kernel
theorem dX12_nextToken_251 : decode cX12_nextToken 251 = .ok (.dup, 1) := by decide +kernel
theorem dX12_nextToken_252 : decode cX12_nextToken 252 = .ok (.getfield 113, 3) := by decide +kernel
theorem dX12_nextToken_255 : decode cX12_nextToken 255 = .ok (.iconst 1, 1) := by decide +kernel
theorem dX12_nextToken_256 : decode cX12_nextToken 256 = .ok (.iadd, 1) := by decide +kernel
theorem dX12_nextToken_257 : decode cX12_nextToken 257 = .ok (.putfield 113, 3) := by decide +kernel
theorem dX12_nextToken_260 : decode cX12_nextToken 260 = .ok (.iload_n 1, 1) := by decide +kernel
theorem dX12_nextToken_261 : decode cX12_nextToken 261 = .ok (.bipush 60, 2) := by decide +kernel
theorem dX12_nextToken_263 : decode cX12_nextToken 263 = .ok (.if_icmp .eq 9, 3) := by decide +kernel
theorem dX12_nextToken_266 : decode cX12_nextToken 266 = .ok (.iload_n 1, 1) := by decide +kernel
theorem dX12_nextToken_267 : decode cX12_nextToken 267 = .ok (.bipush 62, 2) := by decide +kernel
theorem dX12_nextToken_269 : decode cX12_nextToken 269 = .ok (.if_icmp .ne 41, 3) := by decide +kernel
theorem dX12_nextToken_272 : decode cX12_nextToken 272 = .ok (.aload_n 0, 1) := by decide +kernel
theorem dX12_nextToken_273 : decode cX12_nextToken 273 = .ok (.aload_n 0, 1) := by decide +kernel
theorem dX12_nextToken_274 : decode cX12_nextToken 274 = .ok (.getfield 113, 3) := by decide +kernel
theorem dX12_nextToken_277 : decode cX12_nextToken 277 = .ok (.invokevirtual 116, 3) := by decide +kernel
theorem dX12_nextToken_280 : decode cX12_nextToken 280 = .ok (.bipush 61, 2) := by decide +kernel
theorem dX12_nextToken_282 : decode cX12_nextToken 282 = .ok (.if_icmp .ne 28, 3) := by decide +kernel
theorem dX12_nextToken_285 : decode cX12_nextToken 285 = .ok (.aload_n 0, 1) := by decide +kernel
theorem dX12_nextToken_286 : decode cX12_nextToken 286 = .ok (.iload_n 1, 1) := by decide +kernel
theorem dX12_nextToken_287 : decode cX12_nextToken 287 = .ok (.bipush 60, 2) := by decide +kernel
theorem dX12_nextToken_289 : decode cX12_nextToken 289 = .ok (.if_icmp .ne 7, 3) := by decide +kernel
theorem dX12_nextToken_292 : decode cX12_nextToken 292 = .ok (.iconst 4, 1) := by decide +kernel
theorem dX12_nextToken_293 : decode cX12_nextToken 293 = .ok (.goto 4, 3) := by decide +kernel
theorem dX12_nextToken_296 : decode cX12_nextToken 296 = .ok (.iconst 5, 1) := by decide +kernel
theorem dX12_nextToken_297 : decode cX12_nextToken 297 = .ok (.putfield 122, 3) := by decide +kernel
theorem dX12_nextToken_300 : decode cX12_nextToken 300 = .ok (.aload_n 0, 1) := by decide +kernel
theorem dX12_nextToken_301 : decode cX12_nextToken 301 = .ok (.dup, 1) := by decide +kernel
theorem dX12_nextToken_302 : decode cX12_nextToken 302 = .ok (.getfield 113, 3) := by decide +kernel
theorem dX12_nextToken_305 : decode cX12_nextToken 305 = .ok (.iconst 1, 1) := by decide +kernel
theorem dX12_nextToken_306 : decode cX12_nextToken 306 = .ok (.iadd, 1) := by decide +kernel
theorem dX12_nextToken_307 : decode cX12_nextToken 307 = .ok (.putfield 113, 3) := by decide +kernel
theorem dX12_nextToken_310 : decode cX12_nextToken 310 = .ok (.return_, 1) := by decide +kernel
theorem dX12_w2_0 : decode cX12_w2 0 = .ok (.iload_n 0, 1) := by decide +kernel
theorem dX12_w2_1 : decode cX12_w2 1 = .ok (.i2l, 1) := by decide +kernel
theorem dX12_w2_2 : decode cX12_w2 2 = .ok (.bipush 8, 2) := by decide +kernel
theorem dX12_w2_4 : decode cX12_w2 4 = .ok (.lshl, 1) := by decide +kernel
theorem dX12_w2_5 : decode cX12_w2 5 = .ok (.iload_n 1, 1) := by decide +kernel
theorem dX12_w2_6 : decode cX12_w2 6 = .ok (.i2l, 1) := by decide +kernel
theorem dX12_w2_7 : decode cX12_w2 7 = .ok (.lor, 1) := by decide +kernel
theorem dX12_w2_8 : decode cX12_w2 8 = .ok (.lreturn, 1) := by decide +kernel
theorem dX12_w3_0 : decode cX12_w3 0 = .ok (.iload_n 0, 1) := by decide +kernel
theorem dX12_w3_1 : decode cX12_w3 1 = .ok (.iload_n 1, 1) := by decide +kernel
theorem dX12_w3_2 : decode cX12_w3 2 = .ok (.invokestatic 144, 3) := by decide +kernel
theorem dX12_w3_5 : decode cX12_w3 5 = .ok (.bipush 8, 2) := by decide +kernel
theorem dX12_w3_7 : decode cX12_w3 7 = .ok (.lshl, 1) := by decide +kernel
theorem dX12_w3_8 : decode cX12_w3 8 = .ok (.iload_n 2, 1) := by decide +kernel
theorem dX12_w3_9 : decode cX12_w3 9 = .ok (.i2l, 1) := by decide +kernel
theorem dX12_w3_10 : decode cX12_w3 10 = .ok (.lor, 1) := by decide +kernel
theorem dX12_w3_11 : decode cX12_w3 11 = .ok (.lreturn, 1) := by decide +kernel
theorem dX12_w4_0 : decode cX12_w4 0 = .ok (.iload_n 0, 1) := by decide +kernel
theorem dX12_w4_1 : decode cX12_w4 1 = .ok (.iload_n 1, 1) := by decide +kernel
theorem dX12_w4_2 : decode cX12_w4 2 = .ok (.iload_n 2, 1) := by decide +kernel
theorem dX12_w4_3 : decode cX12_w4 3 = .ok (.invokestatic 148, 3) := by decide +kernel
theorem dX12_w4_6 : decode cX12_w4 6 = .ok (.bipush 8, 2) := by decide +kernel
theorem dX12_w4_8 : decode cX12_w4 8 = .ok (.lshl, 1) := by decide +kernel
theorem dX12_w4_9 : decode cX12_w4 9 = .ok (.iload_n 3, 1) := by decide +kernel
theorem dX12_w4_10 : decode cX12_w4 10 = .ok (.i2l, 1) := by decide +kernel
theorem dX12_w4_11 : decode cX12_w4 11 = .ok (.lor, 1) := by decide +kernel
theorem dX12_w4_12 : decode cX12_w4 12 = .ok (.lreturn, 1) := by decide +kernel
theorem dX12_w5_0 : decode cX12_w5 0 = .ok (.iload_n 0, 1) := by decide +kernel
theorem dX12_w5_1 : decode cX12_w5 1 = .ok (.iload_n 1, 1) := by decide +kernel
theorem dX12_w5_2 : decode cX12_w5 2 = .ok (.iload_n 2, 1) := by decide +kernel
theorem dX12_w5_3 : decode cX12_w5 3 = .ok (.iload_n 3, 1) := by decide +kernel
theorem dX12_w5_4 : decode cX12_w5 4 = .ok (.invokestatic 152, 3) := by decide +kernel
theorem dX12_w5_7 : decode cX12_w5 7 = .ok (.bipush 8, 2) := by decide +kernel
theorem dX12_w5_9 : decode cX12_w5 9 = .ok (.lshl, 1) := by decide +kernel
theorem dX12_w5_10 : decode cX12_w5 10 = .ok (.iload 4, 2) := by decide +kernel
theorem dX12_w5_12 : decode cX12_w5 12 = .ok (.i2l, 1) := by decide +kernel
theorem dX12_w5_13 : decode cX12_w5 13 = .ok (.lor, 1) := by decide +kernel
theorem dX12_w5_14 : decode cX12_w5 14 = .ok (.lreturn, 1) := by decide +kernel
theorem dX12_w6_0 : decode cX12_w6 0 = .ok (.iload_n 0, 1) := by decide +kernel
theorem dX12_w6_1 : decode cX12_w6 1 = .ok (.iload_n 1, 1) := by decide +kernel
theorem dX12_w6_2 : decode cX12_w6 2 = .ok (.iload_n 2, 1) := by decide +kernel
theorem dX12_w6_3 : decode cX12_w6 3 = .ok (.iload_n 3, 1) := by decide +kernel
theorem dX12_w6_4 : decode cX12_w6 4 = .ok (.iload 4, 2) := by decide +kernel
theorem dX12_w6_6 : decode cX12_w6 6 = .ok (.invokestatic 156, 3) := by decide +kernel
theorem dX12_w6_9 : decode cX12_w6 9 = .ok (.bipush 8, 2) := by decide +kernel
theorem dX12_w6_11 : decode cX12_w6 11 = .ok (.lshl, 1) := by decide +kernel
theorem dX12_w6_12 : decode cX12_w6 12 = .ok (.iload 5, 2) := by decide +kernel
theorem dX12_w6_14 : decode cX12_w6 14 = .ok (.i2l, 1) := by decide +kernel
theorem dX12_w6_15 : decode cX12_w6 15 = .ok (.lor, 1) := by decide +kernel
theorem dX12_w6_16 : decode cX12_w6 16 = .ok (.lreturn, 1) := by decide +kernel
theorem dX12_isWord_0 : decode cX12_isWord 0 = .ok (.aload_n 0, 1) := by decide +kernel
theorem dX12_isWord_1 : decode cX12_isWord 1 = .ok (.getfield 122, 3) := by decide +kernel
theorem dX12_isWord_4 : decode cX12_isWord 4 = .ok (.iconst 2, 1) := by decide +kernel
theorem dX12_isWord_5 : decode cX12_isWord 5 = .ok (.if_icmp .ne 16, 3) := by decide +kernel
theorem dX12_isWord_8 : decode cX12_isWord 8 = .ok (.aload_n 0, 1) := by decide +kernel
theorem dX12_isWord_9 : decode cX12_isWord 9 = .ok (.getfield 135, 3) := by decide +kernel
theorem dX12_isWord_12 : decode cX12_isWord 12 = .ok (.lload_n 1, 1) := by decide +kernel
theorem dX12_isWord_13 : decode cX12_isWord 13 = .ok (.lcmp, 1) := by decide +kernel
theorem dX12_isWord_14 : decode cX12_isWord 14 = .ok (.ifCond .ne 7, 3) := by decide +kernel
theorem dX12_isWord_17 : decode cX12_isWord 17 = .ok (.iconst 1, 1) := by decide +kernel
theorem dX12_isWord_18 : decode cX12_isWord 18 = .ok (.goto 4, 3) := by decide +kernel
theorem dX12_isWord_21 : decode cX12_isWord 21 = .ok (.iconst 0, 1) := by decide +kernel
theorem dX12_isWord_22 : decode cX12_isWord 22 = .ok (.ireturn, 1) := by decide +kernel
theorem dX12_emit_0 : decode cX12_emit 0 = .ok (.aload_n 0, 1) := by decide +kernel
theorem dX12_emit_1 : decode cX12_emit 1 = .ok (.getfield 16, 3) := by decide +kernel
theorem dX12_emit_4 : decode cX12_emit 4 = .ok (.aload_n 0, 1) := by decide +kernel
theorem dX12_emit_5 : decode cX12_emit 5 = .ok (.getfield 160, 3) := by decide +kernel
theorem dX12_emit_8 : decode cX12_emit 8 = .ok (.bipush 73, 2) := by decide +kernel
theorem dX12_emit_10 : decode cX12_emit 10 = .ok (.iadd, 1) := by decide +kernel
theorem dX12_emit_11 : decode cX12_emit 11 = .ok (.iconst 2, 1) := by decide +kernel
theorem dX12_emit_12 : decode cX12_emit 12 = .ok (.aload_n 0, 1) := by decide +kernel
theorem dX12_emit_13 : decode cX12_emit 13 = .ok (.getfield 163, 3) := by decide +kernel
theorem dX12_emit_16 : decode cX12_emit 16 = .ok (.imul, 1) := by decide +kernel
theorem dX12_emit_17 : decode cX12_emit 17 = .ok (.iadd, 1) := by decide +kernel
theorem dX12_emit_18 : decode cX12_emit 18 = .ok (.iload_n 1, 1) := by decide +kernel
theorem dX12_emit_19 : decode cX12_emit 19 = .ok (.iastore, 1) := by decide +kernel
theorem dX12_emit_20 : decode cX12_emit 20 = .ok (.aload_n 0, 1) := by decide +kernel
theorem dX12_emit_21 : decode cX12_emit 21 = .ok (.getfield 16, 3) := by decide +kernel
theorem dX12_emit_24 : decode cX12_emit 24 = .ok (.aload_n 0, 1) := by decide +kernel
theorem dX12_emit_25 : decode cX12_emit 25 = .ok (.getfield 160, 3) := by decide +kernel
theorem dX12_emit_28 : decode cX12_emit 28 = .ok (.bipush 73, 2) := by decide +kernel
theorem dX12_emit_30 : decode cX12_emit 30 = .ok (.iadd, 1) := by decide +kernel
theorem dX12_emit_31 : decode cX12_emit 31 = .ok (.iconst 2, 1) := by decide +kernel
theorem dX12_emit_32 : decode cX12_emit 32 = .ok (.aload_n 0, 1) := by decide +kernel
theorem dX12_emit_33 : decode cX12_emit 33 = .ok (.getfield 163, 3) := by decide +kernel
theorem dX12_emit_36 : decode cX12_emit 36 = .ok (.imul, 1) := by decide +kernel
theorem dX12_emit_37 : decode cX12_emit 37 = .ok (.iadd, 1) := by decide +kernel
theorem dX12_emit_38 : decode cX12_emit 38 = .ok (.iconst 1, 1) := by decide +kernel
theorem dX12_emit_39 : decode cX12_emit 39 = .ok (.iadd, 1) := by decide +kernel
theorem dX12_emit_40 : decode cX12_emit 40 = .ok (.iload_n 2, 1) := by decide +kernel
theorem dX12_emit_41 : decode cX12_emit 41 = .ok (.iastore, 1) := by decide +kernel
theorem dX12_emit_42 : decode cX12_emit 42 = .ok (.aload_n 0, 1) := by decide +kernel
theorem dX12_emit_43 : decode cX12_emit 43 = .ok (.dup, 1) := by decide +kernel
theorem dX12_emit_44 : decode cX12_emit 44 = .ok (.getfield 163, 3) := by decide +kernel
theorem dX12_emit_47 : decode cX12_emit 47 = .ok (.iconst 1, 1) := by decide +kernel
theorem dX12_emit_48 : decode cX12_emit 48 = .ok (.iadd, 1) := by decide +kernel
theorem dX12_emit_49 : decode cX12_emit 49 = .ok (.putfield 163, 3) := by decide +kernel
theorem dX12_emit_52 : decode cX12_emit 52 = .ok (.return_, 1) := by decide +kernel
theorem dX12_isChanges_0 : decode cX12_isChanges 0 = .ok (.aload_n 0, 1) := by decide +kernel
theorem dX12_isChanges_1 : decode cX12_isChanges 1 = .ok (.getfield 122, 3) := by decide +kernel
theorem dX12_isChanges_4 : decode cX12_isChanges 4 = .ok (.iconst 2, 1) := by decide +kernel
theorem dX12_isChanges_5 : decode cX12_isChanges 5 = .ok (.if_icmp .ne 124, 3) := by decide +kernel
theorem dX12_isChanges_8 : decode cX12_isChanges 8 = .ok (.aload_n 0, 1) := by decide +kernel
theorem dX12_isChanges_9 : decode cX12_isChanges 9 = .ok (.getfield 113, 3) := by decide +kernel
theorem dX12_isChanges_12 : decode cX12_isChanges 12 = .ok (.aload_n 0, 1) := by decide +kernel
theorem dX12_isChanges_13 : decode cX12_isChanges 13 = .ok (.getfield 119, 3) := by decide +kernel
theorem dX12_isChanges_16 : decode cX12_isChanges 16 = .ok (.isub, 1) := by decide +kernel
theorem dX12_isChanges_17 : decode cX12_isChanges 17 = .ok (.bipush 7, 2) := by decide +kernel
theorem dX12_isChanges_19 : decode cX12_isChanges 19 = .ok (.if_icmp .ne 110, 3) := by decide +kernel
theorem dX12_isChanges_22 : decode cX12_isChanges 22 = .ok (.aload_n 0, 1) := by decide +kernel
theorem dX12_isChanges_23 : decode cX12_isChanges 23 = .ok (.aload_n 0, 1) := by decide +kernel
theorem dX12_isChanges_24 : decode cX12_isChanges 24 = .ok (.getfield 119, 3) := by decide +kernel
theorem dX12_isChanges_27 : decode cX12_isChanges 27 = .ok (.invokevirtual 116, 3) := by decide +kernel
theorem dX12_isChanges_30 : decode cX12_isChanges 30 = .ok (.aload_n 0, 1) := by decide +kernel
theorem dX12_isChanges_31 : decode cX12_isChanges 31 = .ok (.aload_n 0, 1) := by decide +kernel
theorem dX12_isChanges_32 : decode cX12_isChanges 32 = .ok (.getfield 119, 3) := by decide +kernel
theorem dX12_isChanges_35 : decode cX12_isChanges 35 = .ok (.iconst 1, 1) := by decide +kernel
theorem dX12_isChanges_36 : decode cX12_isChanges 36 = .ok (.iadd, 1) := by decide +kernel
theorem dX12_isChanges_37 : decode cX12_isChanges 37 = .ok (.invokevirtual 116, 3) := by decide +kernel
theorem dX12_isChanges_40 : decode cX12_isChanges 40 = .ok (.aload_n 0, 1) := by decide +kernel
theorem dX12_isChanges_41 : decode cX12_isChanges 41 = .ok (.aload_n 0, 1) := by decide +kernel
theorem dX12_isChanges_42 : decode cX12_isChanges 42 = .ok (.getfield 119, 3) := by decide +kernel
theorem dX12_isChanges_45 : decode cX12_isChanges 45 = .ok (.iconst 2, 1) := by decide +kernel
theorem dX12_isChanges_46 : decode cX12_isChanges 46 = .ok (.iadd, 1) := by decide +kernel
theorem dX12_isChanges_47 : decode cX12_isChanges 47 = .ok (.invokevirtual 116, 3) := by decide +kernel
theorem dX12_isChanges_50 : decode cX12_isChanges 50 = .ok (.aload_n 0, 1) := by decide +kernel
theorem dX12_isChanges_51 : decode cX12_isChanges 51 = .ok (.aload_n 0, 1) := by decide +kernel
theorem dX12_isChanges_52 : decode cX12_isChanges 52 = .ok (.getfield 119, 3) := by decide +kernel
theorem dX12_isChanges_55 : decode cX12_isChanges 55 = .ok (.iconst 3, 1) := by decide +kernel
theorem dX12_isChanges_56 : decode cX12_isChanges 56 = .ok (.iadd, 1) := by decide +kernel
theorem dX12_isChanges_57 : decode cX12_isChanges 57 = .ok (.invokevirtual 116, 3) := by decide +kernel
theorem dX12_isChanges_60 : decode cX12_isChanges 60 = .ok (.invokestatic 152, 3) := by decide +kernel
theorem dX12_isChanges_63 : decode cX12_isChanges 63 = .ok (.bipush 99, 2) := by decide +kernel
theorem dX12_isChanges_65 : decode cX12_isChanges 65 = .ok (.bipush 104, 2) := by decide +kernel
theorem dX12_isChanges_67 : decode cX12_isChanges 67 = .ok (.bipush 97, 2) := by decide +kernel
theorem dX12_isChanges_69 : decode cX12_isChanges 69 = .ok (.bipush 110, 2) := by decide +kernel
theorem dX12_isChanges_71 : decode cX12_isChanges 71 = .ok (.invokestatic 152, 3) := by decide +kernel
theorem dX12_isChanges_74 : decode cX12_isChanges 74 = .ok (.lcmp, 1) := by decide +kernel
theorem dX12_isChanges_75 : decode cX12_isChanges 75 = .ok (.ifCond .ne 54, 3) := by decide +kernel
theorem dX12_isChanges_78 : decode cX12_isChanges 78 = .ok (.aload_n 0, 1) := by decide +kernel
theorem dX12_isChanges_79 : decode cX12_isChanges 79 = .ok (.aload_n 0, 1) := by decide +kernel
theorem dX12_isChanges_80 : decode cX12_isChanges 80 = .ok (.getfield 119, 3) := by decide +kernel
theorem dX12_isChanges_83 : decode cX12_isChanges 83 = .ok (.iconst 4, 1) := by decide +kernel
theorem dX12_isChanges_84 : decode cX12_isChanges 84 = .ok (.iadd, 1) := by decide +kernel
theorem dX12_isChanges_85 : decode cX12_isChanges 85 = .ok (.invokevirtual 116, 3) := by decide +kernel
theorem dX12_isChanges_88 : decode cX12_isChanges 88 = .ok (.aload_n 0, 1) := by decide +kernel
theorem dX12_isChanges_89 : decode cX12_isChanges 89 = .ok (.aload_n 0, 1) := by decide +kernel
theorem dX12_isChanges_90 : decode cX12_isChanges 90 = .ok (.getfield 119, 3) := by decide +kernel
theorem dX12_isChanges_93 : decode cX12_isChanges 93 = .ok (.iconst 5, 1) := by decide +kernel
theorem dX12_isChanges_94 : decode cX12_isChanges 94 = .ok (.iadd, 1) := by decide +kernel
theorem dX12_isChanges_95 : decode cX12_isChanges 95 = .ok (.invokevirtual 116, 3) := by decide +kernel
theorem dX12_isChanges_98 : decode cX12_isChanges 98 = .ok (.aload_n 0, 1) := by decide +kernel
theorem dX12_isChanges_99 : decode cX12_isChanges 99 = .ok (.aload_n 0, 1) := by decide +kernel
theorem dX12_isChanges_100 : decode cX12_isChanges 100 = .ok (.getfield 119, 3) := by decide +kernel
theorem dX12_isChanges_103 : decode cX12_isChanges 103 = .ok (.bipush 6, 2) := by decide +kernel
theorem dX12_isChanges_105 : decode cX12_isChanges 105 = .ok (.iadd, 1) := by decide +kernel
theorem dX12_isChanges_106 : decode cX12_isChanges 106 = .ok (.invokevirtual 116, 3) := by decide +kernel
theorem dX12_isChanges_109 : decode cX12_isChanges 109 = .ok (.invokestatic 148, 3) := by decide +kernel
theorem dX12_isChanges_112 : decode cX12_isChanges 112 = .ok (.bipush 103, 2) := by decide +kernel
theorem dX12_isChanges_114 : decode cX12_isChanges 114 = .ok (.bipush 101, 2) := by decide +kernel
theorem dX12_isChanges_116 : decode cX12_isChanges 116 = .ok (.bipush 115, 2) := by decide +kernel
theorem dX12_isChanges_118 : decode cX12_isChanges 118 = .ok (.invokestatic 148, 3) := by decide +kernel
theorem dX12_isChanges_121 : decode cX12_isChanges 121 = .ok (.lcmp, 1) := by decide +kernel
