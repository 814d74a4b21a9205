theorem dX12_name_41 : decode cX12_name 41 = .ok (.getfield 7, 3) := by decide +kernel
theorem dX12_name_44 : decode cX12_name 44 = .ok (.bipush 36, 2) := by decide +kernel
theorem dX12_name_46 : decode cX12_name 46 = .ok (.iload_n 1, 1) := by decide +kernel
theorem dX12_name_47 : decode cX12_name 47 = .ok (.iadd, 1) := by decide +kernel
theorem dX12_name_48 : decode cX12_name 48 = .ok (.iaload, 1) := by decide +kernel
theorem dX12_name_49 : decode cX12_name 49 = .ok (.iastore, 1) := by decide +kernel
theorem dX12_name_50 : decode cX12_name 50 = .ok (.aload_n 0, 1) := by decide +kernel
theorem dX12_name_51 : decode cX12_name 51 = .ok (.getfield 32, 3) := by decide +kernel
theorem dX12_name_54 : decode cX12_name 54 = .ok (.iconst 4, 1) := by decide +kernel
theorem dX12_name_55 : decode cX12_name 55 = .ok (.aload_n 0, 1) := by decide +kernel
theorem dX12_name_56 : decode cX12_name 56 = .ok (.iload_n 1, 1) := by decide +kernel
theorem dX12_name_57 : decode cX12_name 57 = .ok (.invokevirtual 309, 3) := by decide +kernel
theorem dX12_name_60 : decode cX12_name 60 = .ok (.iastore, 1) := by decide +kernel
theorem dX12_name_61 : decode cX12_name 61 = .ok (.aload_n 0, 1) := by decide +kernel
theorem dX12_name_62 : decode cX12_name 62 = .ok (.getfield 32, 3) := by decide +kernel
theorem dX12_name_65 : decode cX12_name 65 = .ok (.iconst 5, 1) := by decide +kernel
theorem dX12_name_66 : decode cX12_name 66 = .ok (.aload_n 0, 1) := by decide +kernel
theorem dX12_name_67 : decode cX12_name 67 = .ok (.getfield 7, 3) := by decide +kernel
theorem dX12_name_70 : decode cX12_name 70 = .ok (.bipush 31, 2) := by decide +kernel
theorem dX12_name_72 : decode cX12_name 72 = .ok (.iload_n 1, 1) := by decide +kernel
theorem dX12_name_73 : decode cX12_name 73 = .ok (.iadd, 1) := by decide +kernel
theorem dX12_name_74 : decode cX12_name 74 = .ok (.iaload, 1) := by decide +kernel
theorem dX12_name_75 : decode cX12_name 75 = .ok (.iastore, 1) := by decide +kernel
theorem dX12_name_76 : decode cX12_name 76 = .ok (.return_, 1) := by decide +kernel
theorem dX12_movesOf_0 : decode cX12_movesOf 0 = .ok (.aload_n 0, 1) := by decide +kernel
theorem dX12_movesOf_1 : decode cX12_movesOf 1 = .ok (.iload_n 1, 1) := by decide +kernel
theorem dX12_movesOf_2 : decode cX12_movesOf 2 = .ok (.invokevirtual 312, 3) := by decide +kernel
theorem dX12_movesOf_5 : decode cX12_movesOf 5 = .ok (.aload_n 0, 1) := by decide +kernel
theorem dX12_movesOf_6 : decode cX12_movesOf 6 = .ok (.getfield 32, 3) := by decide +kernel
theorem dX12_movesOf_9 : decode cX12_movesOf 9 = .ok (.bipush 6, 2) := by decide +kernel
theorem dX12_movesOf_11 : decode cX12_movesOf 11 = .ok (.iload_n 2, 1) := by decide +kernel
theorem dX12_movesOf_12 : decode cX12_movesOf 12 = .ok (.iastore, 1) := by decide +kernel
theorem dX12_movesOf_13 : decode cX12_movesOf 13 = .ok (.aload_n 0, 1) := by decide +kernel
theorem dX12_movesOf_14 : decode cX12_movesOf 14 = .ok (.getfield 32, 3) := by decide +kernel
theorem dX12_movesOf_17 : decode cX12_movesOf 17 = .ok (.bipush 7, 2) := by decide +kernel
theorem dX12_movesOf_19 : decode cX12_movesOf 19 = .ok (.iload_n 3, 1) := by decide +kernel
theorem dX12_movesOf_20 : decode cX12_movesOf 20 = .ok (.iastore, 1) := by decide +kernel
theorem dX12_movesOf_21 : decode cX12_movesOf 21 = .ok (.aload_n 0, 1) := by decide +kernel
theorem dX12_movesOf_22 : decode cX12_movesOf 22 = .ok (.getfield 32, 3) := by decide +kernel
theorem dX12_movesOf_25 : decode cX12_movesOf 25 = .ok (.bipush 8, 2) := by decide +kernel
theorem dX12_movesOf_27 : decode cX12_movesOf 27 = .ok (.aload_n 0, 1) := by decide +kernel
theorem dX12_movesOf_28 : decode cX12_movesOf 28 = .ok (.getfield 7, 3) := by decide +kernel
theorem dX12_movesOf_31 : decode cX12_movesOf 31 = .ok (.bipush 12, 2) := by decide +kernel
theorem dX12_movesOf_33 : decode cX12_movesOf 33 = .ok (.iload_n 3, 1) := by decide +kernel
theorem dX12_movesOf_34 : decode cX12_movesOf 34 = .ok (.iadd, 1) := by decide +kernel
theorem dX12_movesOf_35 : decode cX12_movesOf 35 = .ok (.iaload, 1) := by decide +kernel
theorem dX12_movesOf_36 : decode cX12_movesOf 36 = .ok (.iastore, 1) := by decide +kernel
theorem dX12_movesOf_37 : decode cX12_movesOf 37 = .ok (.aload_n 0, 1) := by decide +kernel
theorem dX12_movesOf_38 : decode cX12_movesOf 38 = .ok (.aload_n 0, 1) := by decide +kernel
theorem dX12_movesOf_39 : decode cX12_movesOf 39 = .ok (.getfield 7, 3) := by decide +kernel
theorem dX12_movesOf_42 : decode cX12_movesOf 42 = .ok (.iconst 2, 1) := by decide +kernel
theorem dX12_movesOf_43 : decode cX12_movesOf 43 = .ok (.iaload, 1) := by decide +kernel
theorem dX12_movesOf_44 : decode cX12_movesOf 44 = .ok (.iconst 0, 1) := by decide +kernel
theorem dX12_movesOf_45 : decode cX12_movesOf 45 = .ok (.invokevirtual 315, 3) := by decide +kernel
theorem dX12_movesOf_48 : decode cX12_movesOf 48 = .ok (.ireturn, 1) := by decide +kernel
theorem dX12_changesOf_0 : decode cX12_changesOf 0 = .ok (.aload_n 0, 1) := by decide +kernel
theorem dX12_changesOf_1 : decode cX12_changesOf 1 = .ok (.iload_n 2, 1) := by decide +kernel
theorem dX12_changesOf_2 : decode cX12_changesOf 2 = .ok (.invokevirtual 312, 3) := by decide +kernel
theorem dX12_changesOf_5 : decode cX12_changesOf 5 = .ok (.aload_n 0, 1) := by decide +kernel
theorem dX12_changesOf_6 : decode cX12_changesOf 6 = .ok (.getfield 32, 3) := by decide +kernel
theorem dX12_changesOf_9 : decode cX12_changesOf 9 = .ok (.bipush 9, 2) := by decide +kernel
theorem dX12_changesOf_11 : decode cX12_changesOf 11 = .ok (.aload_n 0, 1) := by decide +kernel
theorem dX12_changesOf_12 : decode cX12_changesOf 12 = .ok (.getfield 7, 3) := by decide +kernel
theorem dX12_changesOf_15 : decode cX12_changesOf 15 = .ok (.bipush 9, 2) := by decide +kernel
theorem dX12_changesOf_17 : decode cX12_changesOf 17 = .ok (.iaload, 1) := by decide +kernel
theorem dX12_changesOf_18 : decode cX12_changesOf 18 = .ok (.iastore, 1) := by decide +kernel
theorem dX12_changesOf_19 : decode cX12_changesOf 19 = .ok (.aload_n 0, 1) := by decide +kernel
theorem dX12_changesOf_20 : decode cX12_changesOf 20 = .ok (.getfield 32, 3) := by decide +kernel
theorem dX12_changesOf_23 : decode cX12_changesOf 23 = .ok (.bipush 10, 2) := by decide +kernel
theorem dX12_changesOf_25 : decode cX12_changesOf 25 = .ok (.aload_n 0, 1) := by decide +kernel
theorem dX12_changesOf_26 : decode cX12_changesOf 26 = .ok (.getfield 7, 3) := by decide +kernel
theorem dX12_changesOf_29 : decode cX12_changesOf 29 = .ok (.bipush 10, 2) := by decide +kernel
theorem dX12_changesOf_31 : decode cX12_changesOf 31 = .ok (.iaload, 1) := by decide +kernel
theorem dX12_changesOf_32 : decode cX12_changesOf 32 = .ok (.iastore, 1) := by decide +kernel
theorem dX12_changesOf_33 : decode cX12_changesOf 33 = .ok (.aload_n 0, 1) := by decide +kernel
theorem dX12_changesOf_34 : decode cX12_changesOf 34 = .ok (.iload_n 1, 1) := by decide +kernel
theorem dX12_changesOf_35 : decode cX12_changesOf 35 = .ok (.iconst 1, 1) := by decide +kernel
theorem dX12_changesOf_36 : decode cX12_changesOf 36 = .ok (.invokevirtual 315, 3) := by decide +kernel
theorem dX12_changesOf_39 : decode cX12_changesOf 39 = .ok (.ireturn, 1) := by decide +kernel
theorem dX12_write_0 : decode cX12_write 0 = .ok (.aload_n 0, 1) := by decide +kernel
theorem dX12_write_1 : decode cX12_write 1 = .ok (.getfield 43, 3) := by decide +kernel
theorem dX12_write_4 : decode cX12_write 4 = .ok (.ifCond .ne 4, 3) := by decide +kernel
theorem dX12_write_7 : decode cX12_write 7 = .ok (.return_, 1) := by decide +kernel
theorem dX12_write_8 : decode cX12_write 8 = .ok (.aload_n 0, 1) := by decide +kernel
theorem dX12_write_9 : decode cX12_write 9 = .ok (.getfield 7, 3) := by decide +kernel
theorem dX12_write_12 : decode cX12_write 12 = .ok (.bipush 11, 2) := by decide +kernel
theorem dX12_write_14 : decode cX12_write 14 = .ok (.iaload, 1) := by decide +kernel
theorem dX12_write_15 : decode cX12_write 15 = .ok (.bipush 30, 2) := by decide +kernel
theorem dX12_write_17 : decode cX12_write 17 = .ok (.if_icmp .ne 54, 3) := by decide +kernel
theorem dX12_write_20 : decode cX12_write 20 = .ok (.iconst 1, 1) := by decide +kernel
theorem dX12_write_21 : decode cX12_write 21 = .ok (.istore 4, 2) := by decide +kernel
theorem dX12_write_23 : decode cX12_write 23 = .ok (.iload 4, 2) := by decide +kernel
theorem dX12_write_25 : decode cX12_write 25 = .ok (.bipush 30, 2) := by decide +kernel
theorem dX12_write_27 : decode cX12_write 27 = .ok (.if_icmp .ge 33, 3) := by decide +kernel
theorem dX12_write_30 : decode cX12_write 30 = .ok (.aload_n 0, 1) := by decide +kernel
theorem dX12_write_31 : decode cX12_write 31 = .ok (.getfield 7, 3) := by decide +kernel
theorem dX12_write_34 : decode cX12_write 34 = .ok (.sipush 1924, 3) := by decide +kernel
theorem dX12_write_37 : decode cX12_write 37 = .ok (.iload 4, 2) := by decide +kernel
theorem dX12_write_39 : decode cX12_write 39 = .ok (.iadd, 1) := by decide +kernel
theorem dX12_write_40 : decode cX12_write 40 = .ok (.iconst 1, 1) := by decide +kernel
theorem dX12_write_41 : decode cX12_write 41 = .ok (.isub, 1) := by decide +kernel
theorem dX12_write_42 : decode cX12_write 42 = .ok (.aload_n 0, 1) := by decide +kernel
theorem dX12_write_43 : decode cX12_write 43 = .ok (.getfield 7, 3) := by decide +kernel
theorem dX12_write_46 : decode cX12_write 46 = .ok (.sipush 1924, 3) := by decide +kernel
theorem dX12_write_49 : decode cX12_write 49 = .ok (.iload 4, 2) := by decide +kernel
theorem dX12_write_51 : decode cX12_write 51 = .ok (.iadd, 1) := by decide +kernel
theorem dX12_write_52 : decode cX12_write 52 = .ok (.iaload, 1) := by decide +kernel
theorem dX12_write_53 : decode cX12_write 53 = .ok (.iastore, 1) := by decide +kernel
theorem dX12_write_54 : decode cX12_write 54 = .ok (.iinc 4 1, 3) := by decide +kernel
theorem dX12_write_57 : decode cX12_write 57 = .ok (.goto (-34), 3) := by decide +kernel
theorem dX12_write_60 : decode cX12_write 60 = .ok (.aload_n 0, 1) := by decide +kernel
theorem dX12_write_61 : decode cX12_write 61 = .ok (.getfield 7, 3) := by decide +kernel
theorem dX12_write_64 : decode cX12_write 64 = .ok (.bipush 11, 2) := by decide +kernel
theorem dX12_write_66 : decode cX12_write 66 = .ok (.dup2, 1) := by decide +kernel
theorem dX12_write_67 : decode cX12_write 67 = .ok (.iaload, 1) := by decide +kernel
theorem dX12_write_68 : decode cX12_write 68 = .ok (.iconst 1, 1) := by decide +kernel
theorem dX12_write_69 : decode cX12_write 69 = .ok (.isub, 1) := by decide +kernel
theorem dX12_write_70 : decode cX12_write 70 = .ok (.iastore, 1) := by decide +kernel
theorem dX12_write_71 : decode cX12_write 71 = .ok (.aload_n 0, 1) := by decide +kernel
theorem dX12_write_72 : decode cX12_write 72 = .ok (.getfield 7, 3) := by decide +kernel
theorem dX12_write_75 : decode cX12_write 75 = .ok (.sipush 1924, 3) := by decide +kernel
theorem dX12_write_78 : decode cX12_write 78 = .ok (.aload_n 0, 1) := by decide +kernel
theorem dX12_write_79 : decode cX12_write 79 = .ok (.getfield 7, 3) := by decide +kernel
theorem dX12_write_82 : decode cX12_write 82 = .ok (.bipush 11, 2) := by decide +kernel
theorem dX12_write_84 : decode cX12_write 84 = .ok (.iaload, 1) := by decide +kernel
theorem dX12_write_85 : decode cX12_write 85 = .ok (.iadd, 1) := by decide +kernel
theorem dX12_write_86 : decode cX12_write 86 = .ok (.aload_n 0, 1) := by decide +kernel
theorem dX12_write_87 : decode cX12_write 87 = .ok (.getfield 7, 3) := by decide +kernel
theorem dX12_write_90 : decode cX12_write 90 = .ok (.bipush 7, 2) := by decide +kernel
theorem dX12_write_92 : decode cX12_write 92 = .ok (.iaload, 1) := by decide +kernel
theorem dX12_write_93 : decode cX12_write 93 = .ok (.bipush 6, 2) := by decide +kernel
theorem dX12_write_95 : decode cX12_write 95 = .ok (.imul, 1) := by decide +kernel
theorem dX12_write_96 : decode cX12_write 96 = .ok (.iload_n 1, 1) := by decide +kernel
theorem dX12_write_97 : decode cX12_write 97 = .ok (.iadd, 1) := by decide +kernel
theorem dX12_write_98 : decode cX12_write 98 = .ok (.iconst 1, 1) := by decide +kernel
theorem dX12_write_99 : decode cX12_write 99 = .ok (.iadd, 1) := by decide +kernel
theorem dX12_write_100 : decode cX12_write 100 = .ok (.iconst 3, 1) := by decide +kernel
theorem dX12_write_101 : decode cX12_write 101 = .ok (.imul, 1) := by decide +kernel
theorem dX12_write_102 : decode cX12_write 102 = .ok (.iload_n 2, 1) := by decide +kernel
theorem dX12_write_103 : decode cX12_write 103 = .ok (.iadd, 1) := by decide +kernel
theorem dX12_write_104 : decode cX12_write 104 = .ok (.iconst 3, 1) := by decide +kernel
theorem dX12_write_105 : decode cX12_write 105 = .ok (.imul, 1) := by decide +kernel
theorem dX12_write_106 : decode cX12_write 106 = .ok (.iload_n 3, 1) := by decide +kernel
theorem dX12_write_107 : decode cX12_write 107 = .ok (.iadd, 1) := by decide +kernel
theorem dX12_write_108 : decode cX12_write 108 = .ok (.iastore, 1) := by decide +kernel
theorem dX12_write_109 : decode cX12_write 109 = .ok (.aload_n 0, 1) := by decide +kernel
theorem dX12_write_110 : decode cX12_write 110 = .ok (.getfield 7, 3) := by decide +kernel
theorem dX12_write_113 : decode cX12_write 113 = .ok (.bipush 11, 2) := by decide +kernel
theorem dX12_write_115 : decode cX12_write 115 = .ok (.dup2, 1) := by decide +kernel
theorem dX12_write_116 : decode cX12_write 116 = .ok (.iaload, 1) := by decide +kernel
theorem dX12_write_117 : decode cX12_write 117 = .ok (.iconst 1, 1) := by decide +kernel
theorem dX12_write_118 : decode cX12_write 118 = .ok (.iadd, 1) := by decide +kernel
theorem dX12_write_119 : decode cX12_write 119 = .ok (.iastore, 1) := by decide +kernel
theorem dX12_write_120 : decode cX12_write 120 = .ok (.return_, 1) := by decide +kernel
theorem dX12_drawnBy_0 : decode cX12_drawnBy 0 = .ok (.aload_n 0, 1) := by decide +kernel
theorem dX12_drawnBy_1 : decode cX12_drawnBy 1 = .ok (.getfield 7, 3) := by decide +kernel
theorem dX12_drawnBy_4 : decode cX12_drawnBy 4 = .ok (.bipush 8, 2) := by decide +kernel
theorem dX12_drawnBy_6 : decode cX12_drawnBy 6 = .ok (.iaload, 1) := by decide +kernel
theorem dX12_drawnBy_7 : decode cX12_drawnBy 7 = .ok (.iload_n 1, 1) := by decide +kernel
theorem dX12_drawnBy_8 : decode cX12_drawnBy 8 = .ok (.irem, 1) := by decide +kernel
theorem dX12_drawnBy_9 : decode cX12_drawnBy 9 = .ok (.istore_n 2, 1) := by decide +kernel
theorem dX12_drawnBy_10 : decode cX12_drawnBy 10 = .ok (.aload_n 0, 1) := by decide +kernel
theorem dX12_drawnBy_11 : decode cX12_drawnBy 11 = .ok (.invokevirtual 318, 3) := by decide +kernel
theorem dX12_drawnBy_14 : decode cX12_drawnBy 14 = .ok (.iload_n 2, 1) := by decide +kernel
theorem dX12_drawnBy_15 : decode cX12_drawnBy 15 = .ok (.ireturn, 1) := by decide +kernel
theorem dX12_anew_0 : decode cX12_anew 0 = .ok (.aload_n 0, 1) := by decide +kernel
theorem dX12_anew_1 : decode cX12_anew 1 = .ok (.getfield 7, 3) := by decide +kernel
theorem dX12_anew_4 : decode cX12_anew 4 = .ok (.bipush 8, 2) := by decide +kernel
theorem dX12_anew_6 : decode cX12_anew 6 = .ok (.aload_n 0, 1) := by decide +kernel
theorem dX12_anew_7 : decode cX12_anew 7 = .ok (.getfield 7, 3) := by decide +kernel
theorem dX12_anew_10 : decode cX12_anew 10 = .ok (.bipush 8, 2) := by decide +kernel
theorem dX12_anew_12 : decode cX12_anew 12 = .ok (.iaload, 1) := by decide +kernel
theorem dX12_anew_13 : decode cX12_anew 13 = .ok (.i2l, 1) := by decide +kernel
theorem dX12_anew_14 : decode cX12_anew 14 = .ok (.ldc2_w 321, 3) := by decide +kernel
theorem dX12_anew_17 : decode cX12_anew 17 = .ok (.lmul, 1) := by decide +kernel
theorem dX12_anew_18 : decode cX12_anew 18 = .ok (.ldc2_w 323, 3) := by decide +kernel
theorem dX12_anew_21 : decode cX12_anew 21 = .ok (.ladd, 1) := by decide +kernel
theorem dX12_anew_22 : decode cX12_anew 22 = .ok (.ldc2_w 325, 3) := by decide +kernel
theorem dX12_anew_25 : decode cX12_anew 25 = .ok (.lrem, 1) := by decide +kernel
theorem dX12_anew_26 : decode cX12_anew 26 = .ok (.l2i, 1) := by decide +kernel
theorem dX12_anew_27 : decode cX12_anew 27 = .ok (.iastore, 1) := by decide +kernel
theorem dX12_anew_28 : decode cX12_anew 28 = .ok (.return_, 1) := by decide +kernel
theorem dX12_canMove_0 : decode cX12_canMove 0 = .ok (.iload_n 1, 1) := by decide +kernel
theorem dX12_canMove_1 : decode cX12_canMove 1 = .ok (.invokestatic 327, 3) := by decide +kernel
theorem dX12_canMove_4 : decode cX12_canMove 4 = .ok (.ifCond .eq 27, 3) := by decide +kernel
theorem dX12_canMove_7 : decode cX12_canMove 7 = .ok (.iload_n 2, 1) := by decide +kernel
theorem dX12_canMove_8 : decode cX12_canMove 8 = .ok (.invokestatic 327, 3) := by decide +kernel
theorem dX12_canMove_11 : decode cX12_canMove 11 = .ok (.ifCond .eq 20, 3) := by decide +kernel
theorem dX12_canMove_14 : decode cX12_canMove 14 = .ok (.iload_n 1, 1) := by decide +kernel
theorem dX12_canMove_15 : decode cX12_canMove 15 = .ok (.iload_n 2, 1) := by decide +kernel
theorem dX12_canMove_16 : decode cX12_canMove 16 = .ok (.if_icmp .eq 15, 3) := by decide +kernel
theorem dX12_canMove_19 : decode cX12_canMove 19 = .ok (.aload_n 0, 1) := by decide +kernel
theorem dX12_canMove_20 : decode cX12_canMove 20 = .ok (.getfield 7, 3) := by decide +kernel
theorem dX12_canMove_23 : decode cX12_canMove 23 = .ok (.bipush 12, 2) := by decide +kernel
theorem dX12_canMove_25 : decode cX12_canMove 25 = .ok (.iload_n 1, 1) := by decide +kernel
theorem dX12_canMove_26 : decode cX12_canMove 26 = .ok (.iadd, 1) := by decide +kernel
theorem dX12_canMove_27 : decode cX12_canMove 27 = .ok (.iaload, 1) := by decide +kernel
theorem dX12_canMove_28 : decode cX12_canMove 28 = .ok (.ifCond .ne 5, 3) := by decide +kernel
theorem dX12_canMove_31 : decode cX12_canMove 31 = .ok (.iconst 0, 1) := by decide +kernel
theorem dX12_canMove_32 : decode cX12_canMove 32 = .ok (.ireturn, 1) := by decide +kernel
theorem dX12_canMove_33 : decode cX12_canMove 33 = .ok (.aload_n 0, 1) := by decide +kernel
theorem dX12_canMove_34 : decode cX12_canMove 34 = .ok (.iload_n 1, 1) := by decide +kernel
theorem dX12_canMove_35 : decode cX12_canMove 35 = .ok (.invokevirtual 278, 3) := by decide +kernel
theorem dX12_canMove_38 : decode cX12_canMove 38 = .ok (.istore_n 3, 1) := by decide +kernel
theorem dX12_canMove_39 : decode cX12_canMove 39 = .ok (.aload_n 0, 1) := by decide +kernel
theorem dX12_canMove_40 : decode cX12_canMove 40 = .ok (.getfield 7, 3) := by decide +kernel
theorem dX12_canMove_43 : decode cX12_canMove 43 = .ok (.bipush 12, 2) := by decide +kernel
theorem dX12_canMove_45 : decode cX12_canMove 45 = .ok (.iload_n 2, 1) := by decide +kernel
theorem dX12_canMove_46 : decode cX12_canMove 46 = .ok (.iadd, 1) := by decide +kernel
theorem dX12_canMove_47 : decode cX12_canMove 47 = .ok (.iaload, 1) := by decide +kernel
theorem dX12_canMove_48 : decode cX12_canMove 48 = .ok (.ifCond .le 18, 3) := by decide +kernel
theorem dX12_canMove_51 : decode cX12_canMove 51 = .ok (.aload_n 0, 1) := by decide +kernel
theorem dX12_canMove_52 : decode cX12_canMove 52 = .ok (.iload_n 3, 1) := by decide +kernel
theorem dX12_canMove_53 : decode cX12_canMove 53 = .ok (.aload_n 0, 1) := by decide +kernel
theorem dX12_canMove_54 : decode cX12_canMove 54 = .ok (.iload_n 2, 1) := by decide +kernel
theorem dX12_canMove_55 : decode cX12_canMove 55 = .ok (.invokevirtual 278, 3) := by decide +kernel
theorem dX12_canMove_58 : decode cX12_canMove 58 = .ok (.invokevirtual 330, 3) := by decide +kernel
theorem dX12_canMove_61 : decode cX12_canMove 61 = .ok (.ifCond .eq 5, 3) := by decide +kernel
theorem dX12_canMove_64 : decode cX12_canMove 64 = .ok (.iconst 0, 1) := by decide +kernel
theorem dX12_canMove_65 : decode cX12_canMove 65 = .ok (.ireturn, 1) := by decide +kernel
theorem dX12_canMove_66 : decode cX12_canMove 66 = .ok (.iload_n 2, 1) := by decide +kernel
theorem dX12_canMove_67 : decode cX12_canMove 67 = .ok (.iconst 1, 1) := by decide +kernel
theorem dX12_canMove_68 : decode cX12_canMove 68 = .ok (.if_icmp .eq 14, 3) := by decide +kernel
theorem dX12_canMove_71 : decode cX12_canMove 71 = .ok (.aload_n 0, 1) := by decide +kernel
theorem dX12_canMove_72 : decode cX12_canMove 72 = .ok (.iload_n 3, 1) := by decide +kernel
theorem dX12_canMove_73 : decode cX12_canMove 73 = .ok (.invokevirtual 309, 3) := by decide +kernel
theorem dX12_canMove_76 : decode cX12_canMove 76 = .ok (.iload_n 2, 1) := by decide +kernel
theorem dX12_canMove_77 : decode cX12_canMove 77 = .ok (.iconst 2, 1) := by decide +kernel
theorem dX12_canMove_78 : decode cX12_canMove 78 = .ok (.idiv, 1) := by decide +kernel
theorem dX12_canMove_79 : decode cX12_canMove 79 = .ok (.if_icmp .ne 17, 3) := by decide +kernel
theorem dX12_canMove_82 : decode cX12_canMove 82 = .ok (.aload_n 0, 1) := by decide +kernel
theorem dX12_canMove_83 : decode cX12_canMove 83 = .ok (.iload_n 3, 1) := by decide +kernel
theorem dX12_canMove_84 : decode cX12_canMove 84 = .ok (.iload_n 1, 1) := by decide +kernel
theorem dX12_canMove_85 : decode cX12_canMove 85 = .ok (.iload_n 2, 1) := by decide +kernel
theorem dX12_canMove_86 : decode cX12_canMove 86 = .ok (.invokevirtual 333, 3) := by decide +kernel
theorem dX12_canMove_89 : decode cX12_canMove 89 = .ok (.ifCond .le 7, 3) := by decide +kernel
theorem dX12_canMove_92 : decode cX12_canMove 92 = .ok (.iconst 1, 1) := by decide +kernel
theorem dX12_canMove_93 : decode cX12_canMove 93 = .ok (.goto 4, 3) := by decide +kernel
theorem dX12_canMove_96 : decode cX12_canMove 96 = .ok (.iconst 0, 1) := by decide +kernel
theorem dX12_canMove_97 : decode cX12_canMove 97 = .ok (.ireturn, 1) := by decide +kernel
theorem dX12_moveNow_0 : decode cX12_moveNow 0 = .ok (.aload_n 0, 1) := by decide +kernel
theorem dX12_moveNow_1 : decode cX12_moveNow 1 = .ok (.iload_n 1, 1) := by decide +kernel
theorem dX12_moveNow_2 : decode cX12_moveNow 2 = .ok (.invokevirtual 278, 3) := by decide +kernel
theorem dX12_moveNow_5 : decode cX12_moveNow 5 = .ok (.istore_n 3, 1) := by decide +kernel
theorem dX12_moveNow_6 : decode cX12_moveNow 6 = .ok (.aload_n 0, 1) := by decide +kernel
theorem dX12_moveNow_7 : decode cX12_moveNow 7 = .ok (.getfield 7, 3) := by decide +kernel
theorem dX12_moveNow_10 : decode cX12_moveNow 10 = .ok (.bipush 12, 2) := by decide +kernel
theorem dX12_moveNow_12 : decode cX12_moveNow 12 = .ok (.iload_n 1, 1) := by decide +kernel
theorem dX12_moveNow_13 : decode cX12_moveNow 13 = .ok (.iadd, 1) := by decide +kernel
theorem dX12_moveNow_14 : decode cX12_moveNow 14 = .ok (.dup2, 1) := by decide +kernel
theorem dX12_moveNow_15 : decode cX12_moveNow 15 = .ok (.iaload, 1) := by decide +kernel
theorem dX12_moveNow_16 : decode cX12_moveNow 16 = .ok (.iconst 1, 1) := by decide +kernel
theorem dX12_moveNow_17 : decode cX12_moveNow 17 = .ok (.isub, 1) := by decide +kernel
theorem dX12_moveNow_18 : decode cX12_moveNow 18 = .ok (.iastore, 1) := by decide +kernel
theorem dX12_moveNow_19 : decode cX12_moveNow 19 = .ok (.aload_n 0, 1) := by decide +kernel
theorem dX12_moveNow_20 : decode cX12_moveNow 20 = .ok (.iload_n 2, 1) := by decide +kernel
theorem dX12_moveNow_21 : decode cX12_moveNow 21 = .ok (.iload_n 3, 1) := by decide +kernel
theorem dX12_moveNow_22 : decode cX12_moveNow 22 = .ok (.invokevirtual 94, 3) := by decide +kernel
theorem dX12_moveNow_25 : decode cX12_moveNow 25 = .ok (.aload_n 0, 1) := by decide +kernel
theorem dX12_moveNow_26 : decode cX12_moveNow 26 = .ok (.iload_n 3, 1) := by decide +kernel
theorem dX12_moveNow_27 : decode cX12_moveNow 27 = .ok (.iconst 0, 1) := by decide +kernel
theorem dX12_moveNow_28 : decode cX12_moveNow 28 = .ok (.iload_n 2, 1) := by decide +kernel
theorem dX12_moveNow_29 : decode cX12_moveNow 29 = .ok (.invokevirtual 336, 3) := by decide +kernel
theorem dX12_moveNow_32 : decode cX12_moveNow 32 = .ok (.iload_n 3, 1) := by decide +kernel
theorem dX12_moveNow_33 : decode cX12_moveNow 33 = .ok (.ireturn, 1) := by decide +kernel
theorem dX12_canChange_0 : decode cX12_canChange 0 = .ok (.aload_n 0, 1) := by decide +kernel
theorem dX12_canChange_1 : decode cX12_canChange 1 = .ok (.iconst 1, 1) := by decide +kernel
theorem dX12_canChange_2 : decode cX12_canChange 2 = .ok (.invokevirtual 278, 3) := by decide +kernel
theorem dX12_canChange_5 : decode cX12_canChange 5 = .ok (.istore_n 1, 1) := by decide +kernel
theorem dX12_canChange_6 : decode cX12_canChange 6 = .ok (.iload_n 1, 1) := by decide +kernel
theorem dX12_canChange_7 : decode cX12_canChange 7 = .ok (.iconst (-1), 1) := by decide +kernel
theorem dX12_canChange_8 : decode cX12_canChange 8 = .ok (.if_icmp .eq 37, 3) := by decide +kernel
theorem dX12_canChange_11 : decode cX12_canChange 11 = .ok (.aload_n 0, 1) := by decide +kernel
theorem dX12_canChange_12 : decode cX12_canChange 12 = .ok (.getfield 7, 3) := by decide +kernel
theorem dX12_canChange_15 : decode cX12_canChange 15 = .ok (.bipush 10, 2) := by decide +kernel
theorem dX12_canChange_17 : decode cX12_canChange 17 = .ok (.aload_n 0, 1) := by decide +kernel
theorem dX12_canChange_18 : decode cX12_canChange 18 = .ok (.iload_n 1, 1) := by decide +kernel
theorem dX12_canChange_19 : decode cX12_canChange 19 = .ok (.invokevirtual 309, 3) := by decide +kernel
theorem dX12_canChange_22 : decode cX12_canChange 22 = .ok (.isub, 1) := by decide +kernel
theorem dX12_canChange_23 : decode cX12_canChange 23 = .ok (.iaload, 1) := by decide +kernel
theorem dX12_canChange_24 : decode cX12_canChange 24 = .ok (.ifCond .le 21, 3) := by decide +kernel
theorem dX12_canChange_27 : decode cX12_canChange 27 = .ok (.aload_n 0, 1) := by decide +kernel
theorem dX12_canChange_28 : decode cX12_canChange 28 = .ok (.aload_n 0, 1) := by decide +kernel
theorem dX12_canChange_29 : decode cX12_canChange 29 = .ok (.getfield 7, 3) := by decide +kernel
theorem dX12_canChange_32 : decode cX12_canChange 32 = .ok (.iconst 2, 1) := by decide +kernel
theorem dX12_canChange_33 : decode cX12_canChange 33 = .ok (.iaload, 1) := by decide +kernel
theorem dX12_canChange_34 : decode cX12_canChange 34 = .ok (.iload_n 1, 1) := by decide +kernel
theorem dX12_canChange_35 : decode cX12_canChange 35 = .ok (.invokevirtual 340, 3) := by decide +kernel
theorem dX12_canChange_38 : decode cX12_canChange 38 = .ok (.ifCond .le 7, 3) := by decide +kernel
theorem dX12_canChange_41 : decode cX12_canChange 41 = .ok (.iconst 1, 1) := by decide +kernel
theorem dX12_canChange_42 : decode cX12_canChange 42 = .ok (.goto 4, 3) := by decide +kernel
theorem dX12_canChange_45 : decode cX12_canChange 45 = .ok (.iconst 0, 1) := by decide +kernel
theorem dX12_canChange_46 : decode cX12_canChange 46 = .ok (.ireturn, 1) := by decide +kernel
theorem dX12_changeNow_0 : decode cX12_changeNow 0 = .ok (.aload_n 0, 1) := by decide +kernel
theorem dX12_changeNow_1 : decode cX12_changeNow 1 = .ok (.iconst 1, 1) := by decide +kernel
theorem dX12_changeNow_2 : decode cX12_changeNow 2 = .ok (.invokevirtual 278, 3) := by decide +kernel
theorem dX12_changeNow_5 : decode cX12_changeNow 5 = .ok (.istore_n 1, 1) := by decide +kernel
theorem dX12_changeNow_6 : decode cX12_changeNow 6 = .ok (.aload_n 0, 1) := by decide +kernel
theorem dX12_changeNow_7 : decode cX12_changeNow 7 = .ok (.iload_n 1, 1) := by decide +kernel
theorem dX12_changeNow_8 : decode cX12_changeNow 8 = .ok (.invokevirtual 309, 3) := by decide +kernel
theorem dX12_changeNow_11 : decode cX12_changeNow 11 = .ok (.istore_n 2, 1) := by decide +kernel
theorem dX12_changeNow_12 : decode cX12_changeNow 12 = .ok (.aload_n 0, 1) := by decide +kernel
theorem dX12_changeNow_13 : decode cX12_changeNow 13 = .ok (.getfield 7, 3) := by decide +kernel
theorem dX12_changeNow_16 : decode cX12_changeNow 16 = .ok (.bipush 10, 2) := by decide +kernel
theorem dX12_changeNow_18 : decode cX12_changeNow 18 = .ok (.iload_n 2, 1) := by decide +kernel
theorem dX12_changeNow_19 : decode cX12_changeNow 19 = .ok (.isub, 1) := by decide +kernel
theorem dX12_changeNow_20 : decode cX12_changeNow 20 = .ok (.dup2, 1) := by decide +kernel
theorem dX12_changeNow_21 : decode cX12_changeNow 21 = .ok (.iaload, 1) := by decide +kernel
theorem dX12_changeNow_22 : decode cX12_changeNow 22 = .ok (.iconst 1, 1) := by decide +kernel
theorem dX12_changeNow_23 : decode cX12_changeNow 23 = .ok (.isub, 1) := by decide +kernel
theorem dX12_changeNow_24 : decode cX12_changeNow 24 = .ok (.iastore, 1) := by decide +kernel
theorem dX12_changeNow_25 : decode cX12_changeNow 25 = .ok (.aload_n 0, 1) := by decide +kernel
theorem dX12_changeNow_26 : decode cX12_changeNow 26 = .ok (.getfield 7, 3) := by decide +kernel
theorem dX12_changeNow_29 : decode cX12_changeNow 29 = .ok (.bipush 9, 2) := by decide +kernel
theorem dX12_changeNow_31 : decode cX12_changeNow 31 = .ok (.iload_n 2, 1) := by decide +kernel
theorem dX12_changeNow_32 : decode cX12_changeNow 32 = .ok (.iadd, 1) := by decide +kernel
theorem dX12_changeNow_33 : decode cX12_changeNow 33 = .ok (.aload_n 0, 1) := by decide +kernel
theorem dX12_changeNow_34 : decode cX12_changeNow 34 = .ok (.getfield 7, 3) := by decide +kernel
theorem dX12_changeNow_37 : decode cX12_changeNow 37 = .ok (.bipush 9, 2) := by decide +kernel
theorem dX12_changeNow_39 : decode cX12_changeNow 39 = .ok (.iload_n 2, 1) := by decide +kernel
theorem dX12_changeNow_40 : decode cX12_changeNow 40 = .ok (.iadd, 1) := by decide +kernel
theorem dX12_changeNow_41 : decode cX12_changeNow 41 = .ok (.iaload, 1) := by decide +kernel
theorem dX12_changeNow_42 : decode cX12_changeNow 42 = .ok (.iconst 1, 1) := by decide +kernel
theorem dX12_changeNow_43 : decode cX12_changeNow 43 = .ok (.iadd, 1) := by decide +kernel
theorem dX12_changeNow_44 : decode cX12_changeNow 44 = .ok (.i2l, 1) := by decide +kernel
theorem dX12_changeNow_45 : decode cX12_changeNow 45 = .ok (.iconst 0, 1) := by decide +kernel
theorem dX12_changeNow_46 : decode cX12_changeNow 46 = .ok (.bipush 9, 2) := by decide +kernel
theorem dX12_changeNow_48 : decode cX12_changeNow 48 = .ok (.invokestatic 305, 3) := by decide +kernel
theorem dX12_changeNow_51 : decode cX12_changeNow 51 = .ok (.iastore, 1) := by decide +kernel
theorem dX12_changeNow_52 : decode cX12_changeNow 52 = .ok (.aload_n 0, 1) := by decide +kernel
theorem dX12_changeNow_53 : decode cX12_changeNow 53 = .ok (.getfield 7, 3) := by decide +kernel
theorem dX12_changeNow_56 : decode cX12_changeNow 56 = .ok (.bipush 30, 2) := by decide +kernel
theorem dX12_changeNow_58 : decode cX12_changeNow 58 = .ok (.dup2, 1) := by decide +kernel
theorem dX12_changeNow_59 : decode cX12_changeNow 59 = .ok (.iaload, 1) := by decide +kernel
theorem dX12_changeNow_60 : decode cX12_changeNow 60 = .ok (.iconst 1, 1) := by decide +kernel
theorem dX12_changeNow_61 : decode cX12_changeNow 61 = .ok (.iload_n 1, 1) := by decide +kernel
theorem dX12_changeNow_62 : decode cX12_changeNow 62 = .ok (.ishl, 1) := by decide +kernel
theorem dX12_changeNow_63 : decode cX12_changeNow 63 = .ok (.ixor, 1) := by decide +kernel
theorem dX12_changeNow_64 : decode cX12_changeNow 64 = .ok (.iastore, 1) := by decide +kernel
theorem dX12_changeNow_65 : decode cX12_changeNow 65 = .ok (.aload_n 0, 1) := by decide +kernel
theorem dX12_changeNow_66 : decode cX12_changeNow 66 = .ok (.getfield 7, 3) := by decide +kernel
theorem dX12_changeNow_69 : decode cX12_changeNow 69 = .ok (.bipush 31, 2) := by decide +kernel
theorem dX12_changeNow_71 : decode cX12_changeNow 71 = .ok (.iload_n 1, 1) := by decide +kernel
theorem dX12_changeNow_72 : decode cX12_changeNow 72 = .ok (.iadd, 1) := by decide +kernel
theorem dX12_changeNow_73 : decode cX12_changeNow 73 = .ok (.iconst 0, 1) := by decide +kernel
theorem dX12_changeNow_74 : decode cX12_changeNow 74 = .ok (.iastore, 1) := by decide +kernel
theorem dX12_changeNow_75 : decode cX12_changeNow 75 = .ok (.aload_n 0, 1) := by decide +kernel
theorem dX12_changeNow_76 : decode cX12_changeNow 76 = .ok (.iload_n 1, 1) := by decide +kernel
theorem dX12_changeNow_77 : decode cX12_changeNow 77 = .ok (.iconst 1, 1) := by decide +kernel
theorem dX12_changeNow_78 : decode cX12_changeNow 78 = .ok (.iconst 1, 1) := by decide +kernel
theorem dX12_changeNow_79 : decode cX12_changeNow 79 = .ok (.iload_n 2, 1) := by decide +kernel
theorem dX12_changeNow_80 : decode cX12_changeNow 80 = .ok (.isub, 1) := by decide +kernel
theorem dX12_changeNow_81 : decode cX12_changeNow 81 = .ok (.invokevirtual 336, 3) := by decide +kernel
theorem dX12_changeNow_84 : decode cX12_changeNow 84 = .ok (.iload_n 1, 1) := by decide +kernel
theorem dX12_changeNow_85 : decode cX12_changeNow 85 = .ok (.ireturn, 1) := by decide +kernel
theorem dX12_canLend_0 : decode cX12_canLend 0 = .ok (.iload_n 1, 1) := by decide +kernel
theorem dX12_canLend_1 : decode cX12_canLend 1 = .ok (.iconst 0, 1) := by decide +kernel
theorem dX12_canLend_2 : decode cX12_canLend 2 = .ok (.iconst 1, 1) := by decide +kernel
theorem dX12_canLend_3 : decode cX12_canLend 3 = .ok (.invokestatic 78, 3) := by decide +kernel
theorem dX12_canLend_6 : decode cX12_canLend 6 = .ok (.ifCond .eq 42, 3) := by decide +kernel
theorem dX12_canLend_9 : decode cX12_canLend 9 = .ok (.iload_n 2, 1) := by decide +kernel
theorem dX12_canLend_10 : decode cX12_canLend 10 = .ok (.ifCond .eq 38, 3) := by decide +kernel
theorem dX12_canLend_13 : decode cX12_canLend 13 = .ok (.iload_n 2, 1) := by decide +kernel
theorem dX12_canLend_14 : decode cX12_canLend 14 = .ok (.bipush (-9), 2) := by decide +kernel
theorem dX12_canLend_16 : decode cX12_canLend 16 = .ok (.bipush 9, 2) := by decide +kernel
theorem dX12_canLend_18 : decode cX12_canLend 18 = .ok (.invokestatic 78, 3) := by decide +kernel
theorem dX12_canLend_21 : decode cX12_canLend 21 = .ok (.ifCond .eq 27, 3) := by decide +kernel
theorem dX12_canLend_24 : decode cX12_canLend 24 = .ok (.aload_n 0, 1) := by decide +kernel
theorem dX12_canLend_25 : decode cX12_canLend 25 = .ok (.getfield 7, 3) := by decide +kernel
theorem dX12_canLend_28 : decode cX12_canLend 28 = .ok (.bipush 9, 2) := by decide +kernel
theorem dX12_canLend_30 : decode cX12_canLend 30 = .ok (.iload_n 1, 1) := by decide +kernel
theorem dX12_canLend_31 : decode cX12_canLend 31 = .ok (.iadd, 1) := by decide +kernel
theorem dX12_canLend_32 : decode cX12_canLend 32 = .ok (.iaload, 1) := by decide +kernel
theorem dX12_canLend_33 : decode cX12_canLend 33 = .ok (.iload_n 2, 1) := by decide +kernel
theorem dX12_canLend_34 : decode cX12_canLend 34 = .ok (.iadd, 1) := by decide +kernel
theorem dX12_canLend_35 : decode cX12_canLend 35 = .ok (.iconst 0, 1) := by decide +kernel
theorem dX12_canLend_36 : decode cX12_canLend 36 = .ok (.bipush 9, 2) := by decide +kernel
theorem dX12_canLend_38 : decode cX12_canLend 38 = .ok (.invokestatic 78, 3) := by decide +kernel
theorem dX12_canLend_41 : decode cX12_canLend 41 = .ok (.ifCond .eq 7, 3) := by decide +kernel
theorem dX12_canLend_44 : decode cX12_canLend 44 = .ok (.iconst 1, 1) := by decide +kernel
theorem dX12_canLend_45 : decode cX12_canLend 45 = .ok (.goto 4, 3) := by decide +kernel
theorem dX12_canLend_48 : decode cX12_canLend 48 = .ok (.iconst 0, 1) := by decide +kernel
theorem dX12_canLend_49 : decode cX12_canLend 49 = .ok (.ireturn, 1) := by decide +kernel
theorem dX12_pass_0 : decode cX12_pass 0 = .ok (.aload_n 0, 1) := by decide +kernel
theorem dX12_pass_1 : decode cX12_pass 1 = .ok (.bipush 10, 2) := by decide +kernel
theorem dX12_pass_3 : decode cX12_pass 3 = .ok (.invokevirtual 343, 3) := by decide +kernel
theorem dX12_pass_6 : decode cX12_pass 6 = .ok (.istore_n 1, 1) := by decide +kernel
theorem dX12_pass_7 : decode cX12_pass 7 = .ok (.iload_n 1, 1) := by decide +kernel
theorem dX12_pass_8 : decode cX12_pass 8 = .ok (.iconst 2, 1) := by decide +kernel
theorem dX12_pass_9 : decode cX12_pass 9 = .ok (.irem, 1) := by decide +kernel
theorem dX12_pass_10 : decode cX12_pass 10 = .ok (.istore_n 2, 1) := by decide +kernel
theorem dX12_pass_11 : decode cX12_pass 11 = .ok (.iload_n 1, 1) := by decide +kernel
theorem dX12_pass_12 : decode cX12_pass 12 = .ok (.iconst 2, 1) := by decide +kernel
theorem dX12_pass_13 : decode cX12_pass 13 = .ok (.if_icmp .ge 30, 3) := by decide +kernel
theorem dX12_pass_16 : decode cX12_pass 16 = .ok (.aload_n 0, 1) := by decide +kernel
theorem dX12_pass_17 : decode cX12_pass 17 = .ok (.getfield 7, 3) := by decide +kernel
theorem dX12_pass_20 : decode cX12_pass 20 = .ok (.bipush 9, 2) := by decide +kernel
theorem dX12_pass_22 : decode cX12_pass 22 = .ok (.iload_n 2, 1) := by decide +kernel
theorem dX12_pass_23 : decode cX12_pass 23 = .ok (.iadd, 1) := by decide +kernel
theorem dX12_pass_24 : decode cX12_pass 24 = .ok (.aload_n 0, 1) := by decide +kernel
theorem dX12_pass_25 : decode cX12_pass 25 = .ok (.getfield 7, 3) := by decide +kernel
theorem dX12_pass_28 : decode cX12_pass 28 = .ok (.bipush 9, 2) := by decide +kernel
theorem dX12_pass_30 : decode cX12_pass 30 = .ok (.iload_n 2, 1) := by decide +kernel
theorem dX12_pass_31 : decode cX12_pass 31 = .ok (.iadd, 1) := by decide +kernel
theorem dX12_pass_32 : decode cX12_pass 32 = .ok (.iaload, 1) := by decide +kernel
theorem dX12_pass_33 : decode cX12_pass 33 = .ok (.iconst 1, 1) := by decide +kernel
theorem dX12_pass_34 : decode cX12_pass 34 = .ok (.iadd, 1) := by decide +kernel
theorem dX12_pass_35 : decode cX12_pass 35 = .ok (.i2l, 1) := by decide +kernel
theorem dX12_pass_36 : decode cX12_pass 36 = .ok (.iconst 0, 1) := by decide +kernel
theorem dX12_pass_37 : decode cX12_pass 37 = .ok (.bipush 9, 2) := by decide +kernel
theorem dX12_pass_39 : decode cX12_pass 39 = .ok (.invokestatic 305, 3) := by decide +kernel
theorem dX12_pass_42 : decode cX12_pass 42 = .ok (.iastore, 1) := by decide +kernel
theorem dX12_pass_43 : decode cX12_pass 43 = .ok (.iload_n 1, 1) := by decide +kernel
theorem dX12_pass_44 : decode cX12_pass 44 = .ok (.iconst 2, 1) := by decide +kernel
theorem dX12_pass_45 : decode cX12_pass 45 = .ok (.iconst 3, 1) := by decide +kernel
theorem dX12_pass_46 : decode cX12_pass 46 = .ok (.invokestatic 78, 3) := by decide +kernel
theorem dX12_pass_49 : decode cX12_pass 49 = .ok (.ifCond .eq 45, 3) := by decide +kernel
theorem dX12_pass_52 : decode cX12_pass 52 = .ok (.aload_n 0, 1) := by decide +kernel
theorem dX12_pass_53 : decode cX12_pass 53 = .ok (.getfield 7, 3) := by decide +kernel
theorem dX12_pass_56 : decode cX12_pass 56 = .ok (.bipush 9, 2) := by decide +kernel
theorem dX12_pass_58 : decode cX12_pass 58 = .ok (.iload_n 2, 1) := by decide +kernel
theorem dX12_pass_59 : decode cX12_pass 59 = .ok (.iadd, 1) := by decide +kernel
theorem dX12_pass_60 : decode cX12_pass 60 = .ok (.iaload, 1) := by decide +kernel
theorem dX12_pass_61 : decode cX12_pass 61 = .ok (.ifCond .le 33, 3) := by decide +kernel
theorem dX12_pass_64 : decode cX12_pass 64 = .ok (.aload_n 0, 1) := by decide +kernel
theorem dX12_pass_65 : decode cX12_pass 65 = .ok (.getfield 7, 3) := by decide +kernel
theorem dX12_pass_68 : decode cX12_pass 68 = .ok (.bipush 9, 2) := by decide +kernel
theorem dX12_pass_70 : decode cX12_pass 70 = .ok (.iload_n 2, 1) := by decide +kernel
theorem dX12_pass_71 : decode cX12_pass 71 = .ok (.iadd, 1) := by decide +kernel
theorem dX12_pass_72 : decode cX12_pass 72 = .ok (.dup2, 1) := by decide +kernel
theorem dX12_pass_73 : decode cX12_pass 73 = .ok (.iaload, 1) := by decide +kernel
theorem dX12_pass_74 : decode cX12_pass 74 = .ok (.iconst 1, 1) := by decide +kernel
theorem dX12_pass_75 : decode cX12_pass 75 = .ok (.isub, 1) := by decide +kernel
theorem dX12_pass_76 : decode cX12_pass 76 = .ok (.iastore, 1) := by decide +kernel
theorem dX12_pass_77 : decode cX12_pass 77 = .ok (.aload_n 0, 1) := by decide +kernel
theorem dX12_pass_78 : decode cX12_pass 78 = .ok (.dup, 1) := by decide +kernel
theorem dX12_pass_79 : decode cX12_pass 79 = .ok (.getfield 346, 3) := by decide +kernel
theorem dX12_pass_82 : decode cX12_pass 82 = .ok (.iconst 1, 1) := by decide +kernel
theorem dX12_pass_83 : decode cX12_pass 83 = .ok (.iadd, 1) := by decide +kernel
theorem dX12_pass_84 : decode cX12_pass 84 = .ok (.putfield 346, 3) := by decide +kernel
theorem dX12_pass_87 : decode cX12_pass 87 = .ok (.aload_n 0, 1) := by decide +kernel
theorem dX12_pass_88 : decode cX12_pass 88 = .ok (.iconst (-1), 1) := by decide +kernel
theorem dX12_pass_89 : decode cX12_pass 89 = .ok (.iconst 2, 1) := by decide +kernel
theorem dX12_pass_90 : decode cX12_pass 90 = .ok (.iload_n 2, 1) := by decide +kernel
theorem dX12_pass_91 : decode cX12_pass 91 = .ok (.invokevirtual 336, 3) := by decide +kernel
theorem dX12_pass_94 : decode cX12_pass 94 = .ok (.aload_n 0, 1) := by decide +kernel
theorem dX12_pass_95 : decode cX12_pass 95 = .ok (.getfield 7, 3) := by decide +kernel
theorem dX12_pass_98 : decode cX12_pass 98 = .ok (.iconst 0, 1) := by decide +kernel
theorem dX12_pass_99 : decode cX12_pass 99 = .ok (.iaload, 1) := by decide +kernel
theorem dX12_pass_100 : decode cX12_pass 100 = .ok (.ifCond .le 41, 3) := by decide +kernel
theorem dX12_pass_103 : decode cX12_pass 103 = .ok (.aload_n 0, 1) := by decide +kernel
theorem dX12_pass_104 : decode cX12_pass 104 = .ok (.aload_n 0, 1) := by decide +kernel
theorem dX12_pass_105 : decode cX12_pass 105 = .ok (.getfield 7, 3) := by decide +kernel
theorem dX12_pass_108 : decode cX12_pass 108 = .ok (.iconst 0, 1) := by decide +kernel
theorem dX12_pass_109 : decode cX12_pass 109 = .ok (.iaload, 1) := by decide +kernel
theorem dX12_pass_110 : decode cX12_pass 110 = .ok (.invokevirtual 343, 3) := by decide +kernel
theorem dX12_pass_113 : decode cX12_pass 113 = .ok (.istore_n 3, 1) := by decide +kernel
theorem dX12_pass_114 : decode cX12_pass 114 = .ok (.aload_n 0, 1) := by decide +kernel
theorem dX12_pass_115 : decode cX12_pass 115 = .ok (.getfield 7, 3) := by decide +kernel
theorem dX12_pass_118 : decode cX12_pass 118 = .ok (.bipush 31, 2) := by decide +kernel
theorem dX12_pass_120 : decode cX12_pass 120 = .ok (.iload_n 3, 1) := by decide +kernel
theorem dX12_pass_121 : decode cX12_pass 121 = .ok (.iadd, 1) := by decide +kernel
theorem dX12_pass_122 : decode cX12_pass 122 = .ok (.aload_n 0, 1) := by decide +kernel
theorem dX12_pass_123 : decode cX12_pass 123 = .ok (.getfield 7, 3) := by decide +kernel
theorem dX12_pass_126 : decode cX12_pass 126 = .ok (.bipush 31, 2) := by decide +kernel
theorem dX12_pass_128 : decode cX12_pass 128 = .ok (.iload_n 3, 1) := by decide +kernel
theorem dX12_pass_129 : decode cX12_pass 129 = .ok (.iadd, 1) := by decide +kernel
theorem dX12_pass_130 : decode cX12_pass 130 = .ok (.iaload, 1) := by decide +kernel
theorem dX12_pass_131 : decode cX12_pass 131 = .ok (.iconst 1, 1) := by decide +kernel
theorem dX12_pass_132 : decode cX12_pass 132 = .ok (.iadd, 1) := by decide +kernel
theorem dX12_pass_133 : decode cX12_pass 133 = .ok (.i2l, 1) := by decide +kernel
theorem dX12_pass_134 : decode cX12_pass 134 = .ok (.iconst 0, 1) := by decide +kernel
theorem dX12_pass_135 : decode cX12_pass 135 = .ok (.bipush 9, 2) := by decide +kernel
theorem dX12_pass_137 : decode cX12_pass 137 = .ok (.invokestatic 305, 3) := by decide +kernel
theorem dX12_pass_140 : decode cX12_pass 140 = .ok (.iastore, 1) := by decide +kernel
theorem dX12_pass_141 : decode cX12_pass 141 = .ok (.aload_n 0, 1) := by decide +kernel
theorem dX12_pass_142 : decode cX12_pass 142 = .ok (.getfield 7, 3) := by decide +kernel
theorem dX12_pass_145 : decode cX12_pass 145 = .ok (.bipush 7, 2) := by decide +kernel
theorem dX12_pass_147 : decode cX12_pass 147 = .ok (.dup2, 1) := by decide +kernel
theorem dX12_pass_148 : decode cX12_pass 148 = .ok (.iaload, 1) := by decide +kernel
theorem dX12_pass_149 : decode cX12_pass 149 = .ok (.iconst 1, 1) := by decide +kernel
theorem dX12_pass_150 : decode cX12_pass 150 = .ok (.iadd, 1) := by decide +kernel
theorem dX12_pass_151 : decode cX12_pass 151 = .ok (.iastore, 1) := by decide +kernel
theorem dX12_pass_152 : decode cX12_pass 152 = .ok (.return_, 1) := by decide +kernel
theorem dX12_keep_0 : decode cX12_keep 0 = .ok (.aload_n 0, 1) := by decide +kernel
theorem dX12_keep_1 : decode cX12_keep 1 = .ok (.getfield 7, 3) := by decide +kernel
theorem dX12_keep_4 : decode cX12_keep 4 = .ok (.iconst 3, 1) := by decide +kernel
theorem dX12_keep_5 : decode cX12_keep 5 = .ok (.iaload, 1) := by decide +kernel
theorem dX12_keep_6 : decode cX12_keep 6 = .ok (.bipush 30, 2) := by decide +kernel
theorem dX12_keep_8 : decode cX12_keep 8 = .ok (.if_icmp .ne 47, 3) := by decide +kernel
theorem dX12_keep_11 : decode cX12_keep 11 = .ok (.iconst 0, 1) := by decide +kernel
theorem dX12_keep_12 : decode cX12_keep 12 = .ok (.istore_n 1, 1) := by decide +kernel
theorem dX12_keep_13 : decode cX12_keep 13 = .ok (.iload_n 1, 1) := by decide +kernel
theorem dX12_keep_14 : decode cX12_keep 14 = .ok (.sipush 1740, 3) := by decide +kernel
theorem dX12_keep_17 : decode cX12_keep 17 = .ok (.if_icmp .ge 28, 3) := by decide +kernel
theorem dX12_keep_20 : decode cX12_keep 20 = .ok (.aload_n 0, 1) := by decide +kernel
theorem dX12_keep_21 : decode cX12_keep 21 = .ok (.getfield 7, 3) := by decide +kernel
theorem dX12_keep_24 : decode cX12_keep 24 = .ok (.bipush 124, 2) := by decide +kernel
theorem dX12_keep_26 : decode cX12_keep 26 = .ok (.iload_n 1, 1) := by decide +kernel
theorem dX12_keep_27 : decode cX12_keep 27 = .ok (.iadd, 1) := by decide +kernel
theorem dX12_keep_28 : decode cX12_keep 28 = .ok (.aload_n 0, 1) := by decide +kernel
theorem dX12_keep_29 : decode cX12_keep 29 = .ok (.getfield 7, 3) := by decide +kernel
theorem dX12_keep_32 : decode cX12_keep 32 = .ok (.sipush 184, 3) := by decide +kernel
theorem dX12_keep_35 : decode cX12_keep 35 = .ok (.iload_n 1, 1) := by decide +kernel
theorem dX12_keep_36 : decode cX12_keep 36 = .ok (.iadd, 1) := by decide +kernel
theorem dX12_keep_37 : decode cX12_keep 37 = .ok (.iaload, 1) := by decide +kernel
theorem dX12_keep_38 : decode cX12_keep 38 = .ok (.iastore, 1) := by decide +kernel
theorem dX12_keep_39 : decode cX12_keep 39 = .ok (.iinc 1 1, 3) := by decide +kernel
theorem dX12_keep_42 : decode cX12_keep 42 = .ok (.goto (-29), 3) := by decide +kernel
theorem dX12_keep_45 : decode cX12_keep 45 = .ok (.aload_n 0, 1) := by decide +kernel
theorem dX12_keep_46 : decode cX12_keep 46 = .ok (.getfield 7, 3) := by decide +kernel
theorem dX12_keep_49 : decode cX12_keep 49 = .ok (.iconst 3, 1) := by decide +kernel
theorem dX12_keep_50 : decode cX12_keep 50 = .ok (.dup2, 1) := by decide +kernel
theorem dX12_keep_51 : decode cX12_keep 51 = .ok (.iaload, 1) := by decide +kernel
theorem dX12_keep_52 : decode cX12_keep 52 = .ok (.iconst 1, 1) := by decide +kernel
theorem dX12_keep_53 : decode cX12_keep 53 = .ok (.isub, 1) := by decide +kernel
theorem dX12_keep_54 : decode cX12_keep 54 = .ok (.iastore, 1) := by decide +kernel
theorem dX12_keep_55 : decode cX12_keep 55 = .ok (.bipush 124, 2) := by decide +kernel
theorem dX12_keep_57 : decode cX12_keep 57 = .ok (.bipush 60, 2) := by decide +kernel
theorem dX12_keep_59 : decode cX12_keep 59 = .ok (.aload_n 0, 1) := by decide +kernel
theorem dX12_keep_60 : decode cX12_keep 60 = .ok (.getfield 7, 3) := by decide +kernel
theorem dX12_keep_63 : decode cX12_keep 63 = .ok (.iconst 3, 1) := by decide +kernel
theorem dX12_keep_64 : decode cX12_keep 64 = .ok (.iaload, 1) := by decide +kernel
theorem dX12_keep_65 : decode cX12_keep 65 = .ok (.imul, 1) := by decide +kernel
theorem dX12_keep_66 : decode cX12_keep 66 = .ok (.iadd, 1) := by decide +kernel
theorem dX12_keep_67 : decode cX12_keep 67 = .ok (.istore_n 1, 1) := by decide +kernel
theorem dX12_keep_68 : decode cX12_keep 68 = .ok (.aload_n 0, 1) := by decide +kernel
theorem dX12_keep_69 : decode cX12_keep 69 = .ok (.getfield 7, 3) := by decide +kernel
theorem dX12_keep_72 : decode cX12_keep 72 = .ok (.iload_n 1, 1) := by decide +kernel
theorem dX12_keep_73 : decode cX12_keep 73 = .ok (.aload_n 0, 1) := by decide +kernel
theorem dX12_keep_74 : decode cX12_keep 74 = .ok (.getfield 7, 3) := by decide +kernel
theorem dX12_keep_77 : decode cX12_keep 77 = .ok (.iconst 0, 1) := by decide +kernel
theorem dX12_keep_78 : decode cX12_keep 78 = .ok (.iaload, 1) := by decide +kernel
theorem dX12_keep_79 : decode cX12_keep 79 = .ok (.iastore, 1) := by decide +kernel
theorem dX12_keep_80 : decode cX12_keep 80 = .ok (.iconst 0, 1) := by decide +kernel
theorem dX12_keep_81 : decode cX12_keep 81 = .ok (.istore_n 2, 1) := by decide +kernel
theorem dX12_keep_82 : decode cX12_keep 82 = .ok (.iload_n 2, 1) := by decide +kernel
theorem dX12_keep_83 : decode cX12_keep 83 = .ok (.bipush 29, 2) := by decide +kernel
theorem dX12_keep_85 : decode cX12_keep 85 = .ok (.if_icmp .ge 28, 3) := by decide +kernel
theorem dX12_keep_88 : decode cX12_keep 88 = .ok (.aload_n 0, 1) := by decide +kernel
theorem dX12_keep_89 : decode cX12_keep 89 = .ok (.getfield 7, 3) := by decide +kernel
theorem dX12_keep_92 : decode cX12_keep 92 = .ok (.iload_n 1, 1) := by decide +kernel
theorem dX12_keep_93 : decode cX12_keep 93 = .ok (.iconst 1, 1) := by decide +kernel
theorem dX12_keep_94 : decode cX12_keep 94 = .ok (.iadd, 1) := by decide +kernel
theorem dX12_keep_95 : decode cX12_keep 95 = .ok (.iload_n 2, 1) := by decide +kernel
theorem dX12_keep_96 : decode cX12_keep 96 = .ok (.iadd, 1) := by decide +kernel
theorem dX12_keep_97 : decode cX12_keep 97 = .ok (.aload_n 0, 1) := by decide +kernel
theorem dX12_keep_98 : decode cX12_keep 98 = .ok (.getfield 7, 3) := by decide +kernel
theorem dX12_keep_101 : decode cX12_keep 101 = .ok (.bipush 7, 2) := by decide +kernel
theorem dX12_keep_103 : decode cX12_keep 103 = .ok (.iload_n 2, 1) := by decide +kernel
theorem dX12_keep_104 : decode cX12_keep 104 = .ok (.iadd, 1) := by decide +kernel
theorem dX12_keep_105 : decode cX12_keep 105 = .ok (.iaload, 1) := by decide +kernel
theorem dX12_keep_106 : decode cX12_keep 106 = .ok (.iastore, 1) := by decide +kernel
theorem dX12_keep_107 : decode cX12_keep 107 = .ok (.iinc 2 1, 3) := by decide +kernel
theorem dX12_keep_110 : decode cX12_keep 110 = .ok (.goto (-28), 3) := by decide +kernel
theorem dX12_keep_113 : decode cX12_keep 113 = .ok (.iconst 0, 1) := by decide +kernel
theorem dX12_keep_114 : decode cX12_keep 114 = .ok (.istore_n 2, 1) := by decide +kernel
theorem dX12_keep_115 : decode cX12_keep 115 = .ok (.iload_n 2, 1) := by decide +kernel
theorem dX12_keep_116 : decode cX12_keep 116 = .ok (.bipush 30, 2) := by decide +kernel
theorem dX12_keep_118 : decode cX12_keep 118 = .ok (.if_icmp .ge 32, 3) := by decide +kernel
theorem dX12_keep_121 : decode cX12_keep 121 = .ok (.aload_n 0, 1) := by decide +kernel
theorem dX12_keep_122 : decode cX12_keep 122 = .ok (.getfield 7, 3) := by decide +kernel
theorem dX12_keep_125 : decode cX12_keep 125 = .ok (.iload_n 1, 1) := by decide +kernel
theorem dX12_keep_126 : decode cX12_keep 126 = .ok (.iconst 1, 1) := by decide +kernel
theorem dX12_keep_127 : decode cX12_keep 127 = .ok (.iadd, 1) := by decide +kernel
theorem dX12_keep_128 : decode cX12_keep 128 = .ok (.bipush 29, 2) := by decide +kernel
theorem dX12_keep_130 : decode cX12_keep 130 = .ok (.iadd, 1) := by decide +kernel
theorem dX12_keep_131 : decode cX12_keep 131 = .ok (.iload_n 2, 1) := by decide +kernel
theorem dX12_keep_132 : decode cX12_keep 132 = .ok (.iadd, 1) := by decide +kernel
theorem dX12_keep_133 : decode cX12_keep 133 = .ok (.aload_n 0, 1) := by decide +kernel
theorem dX12_keep_134 : decode cX12_keep 134 = .ok (.getfield 7, 3) := by decide +kernel
theorem dX12_keep_137 : decode cX12_keep 137 = .ok (.sipush 1924, 3) := by decide +kernel
theorem dX12_keep_140 : decode cX12_keep 140 = .ok (.iload_n 2, 1) := by decide +kernel
theorem dX12_keep_141 : decode cX12_keep 141 = .ok (.iadd, 1) := by decide +kernel
theorem dX12_keep_142 : decode cX12_keep 142 = .ok (.iaload, 1) := by decide +kernel
theorem dX12_keep_143 : decode cX12_keep 143 = .ok (.iastore, 1) := by decide +kernel
theorem dX12_keep_144 : decode cX12_keep 144 = .ok (.iinc 2 1, 3) := by decide +kernel
theorem dX12_keep_147 : decode cX12_keep 147 = .ok (.goto (-32), 3) := by decide +kernel
theorem dX12_keep_150 : decode cX12_keep 150 = .ok (.aload_n 0, 1) := by decide +kernel
theorem dX12_keep_151 : decode cX12_keep 151 = .ok (.getfield 7, 3) := by decide +kernel
theorem dX12_keep_154 : decode cX12_keep 154 = .ok (.iconst 3, 1) := by decide +kernel
theorem dX12_keep_155 : decode cX12_keep 155 = .ok (.dup2, 1) := by decide +kernel
theorem dX12_keep_156 : decode cX12_keep 156 = .ok (.iaload, 1) := by decide +kernel
theorem dX12_keep_157 : decode cX12_keep 157 = .ok (.iconst 1, 1) := by decide +kernel
theorem dX12_keep_158 : decode cX12_keep 158 = .ok (.iadd, 1) := by decide +kernel
theorem dX12_keep_159 : decode cX12_keep 159 = .ok (.iastore, 1) := by decide +kernel
theorem dX12_keep_160 : decode cX12_keep 160 = .ok (.return_, 1) := by decide +kernel
theorem dX12_undo_0 : decode cX12_undo 0 = .ok (.aload_n 0, 1) := by decide +kernel
theorem dX12_undo_1 : decode cX12_undo 1 = .ok (.getfield 7, 3) := by decide +kernel
theorem dX12_undo_4 : decode cX12_undo 4 = .ok (.iconst 3, 1) := by decide +kernel
theorem dX12_undo_5 : decode cX12_undo 5 = .ok (.iaload, 1) := by decide +kernel
theorem dX12_undo_6 : decode cX12_undo 6 = .ok (.ifCond .ne 5, 3) := by decide +kernel
theorem dX12_undo_9 : decode cX12_undo 9 = .ok (.iconst (-1), 1) := by decide +kernel
theorem dX12_undo_10 : decode cX12_undo 10 = .ok (.ireturn, 1) := by decide +kernel
theorem dX12_undo_11 : decode cX12_undo 11 = .ok (.aload_n 0, 1) := by decide +kernel
theorem dX12_undo_12 : decode cX12_undo 12 = .ok (.getfield 7, 3) := by decide +kernel
theorem dX12_undo_15 : decode cX12_undo 15 = .ok (.iconst 3, 1) := by decide +kernel
theorem dX12_undo_16 : decode cX12_undo 16 = .ok (.dup2, 1) := by decide +kernel
theorem dX12_undo_17 : decode cX12_undo 17 = .ok (.iaload, 1) := by decide +kernel
theorem dX12_undo_18 : decode cX12_undo 18 = .ok (.iconst 1, 1) := by decide +kernel
theorem dX12_undo_19 : decode cX12_undo 19 = .ok (.isub, 1) := by decide +kernel
theorem dX12_undo_20 : decode cX12_undo 20 = .ok (.iastore, 1) := by decide +kernel
theorem dX12_undo_21 : decode cX12_undo 21 = .ok (.bipush 124, 2) := by decide +kernel
theorem dX12_undo_23 : decode cX12_undo 23 = .ok (.bipush 60, 2) := by decide +kernel
theorem dX12_undo_25 : decode cX12_undo 25 = .ok (.aload_n 0, 1) := by decide +kernel
theorem dX12_undo_26 : decode cX12_undo 26 = .ok (.getfield 7, 3) := by decide +kernel
theorem dX12_undo_29 : decode cX12_undo 29 = .ok (.iconst 3, 1) := by decide +kernel
theorem dX12_undo_30 : decode cX12_undo 30 = .ok (.iaload, 1) := by decide +kernel
theorem dX12_undo_31 : decode cX12_undo 31 = .ok (.imul, 1) := by decide +kernel
theorem dX12_undo_32 : decode cX12_undo 32 = .ok (.iadd, 1) := by decide +kernel
theorem dX12_undo_33 : decode cX12_undo 33 = .ok (.istore_n 1, 1) := by decide +kernel
theorem dX12_undo_34 : decode cX12_undo 34 = .ok (.iconst 0, 1) := by decide +kernel
theorem dX12_undo_35 : decode cX12_undo 35 = .ok (.istore_n 2, 1) := by decide +kernel
theorem dX12_undo_36 : decode cX12_undo 36 = .ok (.iload_n 2, 1) := by decide +kernel
theorem dX12_undo_37 : decode cX12_undo 37 = .ok (.bipush 29, 2) := by decide +kernel
theorem dX12_undo_39 : decode cX12_undo 39 = .ok (.if_icmp .ge 28, 3) := by decide +kernel
theorem dX12_undo_42 : decode cX12_undo 42 = .ok (.aload_n 0, 1) := by decide +kernel
theorem dX12_undo_43 : decode cX12_undo 43 = .ok (.getfield 7, 3) := by decide +kernel
theorem dX12_undo_46 : decode cX12_undo 46 = .ok (.bipush 7, 2) := by decide +kernel
theorem dX12_undo_48 : decode cX12_undo 48 = .ok (.iload_n 2, 1) := by decide +kernel
theorem dX12_undo_49 : decode cX12_undo 49 = .ok (.iadd, 1) := by decide +kernel
theorem dX12_undo_50 : decode cX12_undo 50 = .ok (.aload_n 0, 1) := by decide +kernel
theorem dX12_undo_51 : decode cX12_undo 51 = .ok (.getfield 7, 3) := by decide +kernel
theorem dX12_undo_54 : decode cX12_undo 54 = .ok (.iload_n 1, 1) := by decide +kernel
theorem dX12_undo_55 : decode cX12_undo 55 = .ok (.iconst 1, 1) := by decide +kernel
theorem dX12_undo_56 : decode cX12_undo 56 = .ok (.iadd, 1) := by decide +kernel
theorem dX12_undo_57 : decode cX12_undo 57 = .ok (.iload_n 2, 1) := by decide +kernel
theorem dX12_undo_58 : decode cX12_undo 58 = .ok (.iadd, 1) := by decide +kernel
theorem dX12_undo_59 : decode cX12_undo 59 = .ok (.iaload, 1) := by decide +kernel
theorem dX12_undo_60 : decode cX12_undo 60 = .ok (.iastore, 1) := by decide +kernel
theorem dX12_undo_61 : decode cX12_undo 61 = .ok (.iinc 2 1, 3) := by decide +kernel
theorem dX12_undo_64 : decode cX12_undo 64 = .ok (.goto (-28), 3) := by decide +kernel
theorem dX12_undo_67 : decode cX12_undo 67 = .ok (.aload_n 0, 1) := by decide +kernel
theorem dX12_undo_68 : decode cX12_undo 68 = .ok (.getfield 7, 3) := by decide +kernel
theorem dX12_undo_71 : decode cX12_undo 71 = .ok (.iload_n 1, 1) := by decide +kernel
theorem dX12_undo_72 : decode cX12_undo 72 = .ok (.iaload, 1) := by decide +kernel
theorem dX12_undo_73 : decode cX12_undo 73 = .ok (.istore_n 2, 1) := by decide +kernel
theorem dX12_undo_74 : decode cX12_undo 74 = .ok (.iload_n 2, 1) := by decide +kernel
theorem dX12_undo_75 : decode cX12_undo 75 = .ok (.aload_n 0, 1) := by decide +kernel
theorem dX12_undo_76 : decode cX12_undo 76 = .ok (.getfield 7, 3) := by decide +kernel
theorem dX12_undo_79 : decode cX12_undo 79 = .ok (.iconst 0, 1) := by decide +kernel
theorem dX12_undo_80 : decode cX12_undo 80 = .ok (.iaload, 1) := by decide +kernel
theorem dX12_undo_81 : decode cX12_undo 81 = .ok (.if_icmp .ge 15, 3) := by decide +kernel
theorem dX12_undo_84 : decode cX12_undo 84 = .ok (.aload_n 0, 1) := by decide +kernel
theorem dX12_undo_85 : decode cX12_undo 85 = .ok (.iconst 0, 1) := by decide +kernel
theorem dX12_undo_86 : decode cX12_undo 86 = .ok (.iload_n 2, 1) := by decide +kernel
theorem dX12_undo_87 : decode cX12_undo 87 = .ok (.invokevirtual 94, 3) := by decide +kernel
theorem dX12_undo_90 : decode cX12_undo 90 = .ok (.iinc 2 1, 3) := by decide +kernel
theorem dX12_undo_93 : decode cX12_undo 93 = .ok (.goto (-19), 3) := by decide +kernel
theorem dX12_undo_96 : decode cX12_undo 96 = .ok (.iconst 0, 1) := by decide +kernel
theorem dX12_undo_97 : decode cX12_undo 97 = .ok (.istore_n 2, 1) := by decide +kernel
theorem dX12_undo_98 : decode cX12_undo 98 = .ok (.iload_n 2, 1) := by decide +kernel
theorem dX12_undo_99 : decode cX12_undo 99 = .ok (.bipush 30, 2) := by decide +kernel
theorem dX12_undo_101 : decode cX12_undo 101 = .ok (.if_icmp .ge 32, 3) := by decide +kernel
theorem dX12_undo_104 : decode cX12_undo 104 = .ok (.aload_n 0, 1) := by decide +kernel
theorem dX12_undo_105 : decode cX12_undo 105 = .ok (.getfield 7, 3) := by decide +kernel
theorem dX12_undo_108 : decode cX12_undo 108 = .ok (.sipush 1924, 3) := by decide +kernel
theorem dX12_undo_111 : decode cX12_undo 111 = .ok (.iload_n 2, 1) := by decide +kernel
theorem dX12_undo_112 : decode cX12_undo 112 = .ok (.iadd, 1) := by decide +kernel
theorem dX12_undo_113 : decode cX12_undo 113 = .ok (.aload_n 0, 1) := by decide +kernel
theorem dX12_undo_114 : decode cX12_undo 114 = .ok (.getfield 7, 3) := by decide +kernel
theorem dX12_undo_117 : decode cX12_undo 117 = .ok (.iload_n 1, 1) := by decide +kernel
theorem dX12_undo_118 : decode cX12_undo 118 = .ok (.iconst 1, 1) := by decide +kernel
theorem dX12_undo_119 : decode cX12_undo 119 = .ok (.iadd, 1) := by decide +kernel
theorem dX12_undo_120 : decode cX12_undo 120 = .ok (.bipush 29, 2) := by decide +kernel
theorem dX12_undo_122 : decode cX12_undo 122 = .ok (.iadd, 1) := by decide +kernel
theorem dX12_undo_123 : decode cX12_undo 123 = .ok (.iload_n 2, 1) := by decide +kernel
theorem dX12_undo_124 : decode cX12_undo 124 = .ok (.iadd, 1) := by decide +kernel
theorem dX12_undo_125 : decode cX12_undo 125 = .ok (.iaload, 1) := by decide +kernel
theorem dX12_undo_126 : decode cX12_undo 126 = .ok (.iastore, 1) := by decide +kernel
theorem dX12_undo_127 : decode cX12_undo 127 = .ok (.iinc 2 1, 3) := by decide +kernel
theorem dX12_undo_130 : decode cX12_undo 130 = .ok (.goto (-32), 3) := by decide +kernel
theorem dX12_undo_133 : decode cX12_undo 133 = .ok (.aload_n 0, 1) := by decide +kernel
theorem dX12_undo_134 : decode cX12_undo 134 = .ok (.getfield 7, 3) := by decide +kernel
theorem dX12_undo_137 : decode cX12_undo 137 = .ok (.iconst 3, 1) := by decide +kernel
theorem dX12_undo_138 : decode cX12_undo 138 = .ok (.iaload, 1) := by decide +kernel
theorem dX12_undo_139 : decode cX12_undo 139 = .ok (.ireturn, 1) := by decide +kernel
theorem dX12_move_0 : decode cX12_move 0 = .ok (.aload_n 0, 1) := by decide +kernel
theorem dX12_move_1 : decode cX12_move 1 = .ok (.iload_n 1, 1) := by decide +kernel
theorem dX12_move_2 : decode cX12_move 2 = .ok (.iload_n 2, 1) := by decide +kernel
theorem dX12_move_3 : decode cX12_move 3 = .ok (.invokevirtual 349, 3) := by decide +kernel
theorem dX12_move_6 : decode cX12_move 6 = .ok (.ifCond .ne 5, 3) := by decide +kernel
theorem dX12_move_9 : decode cX12_move 9 = .ok (.iconst (-1), 1) := by decide +kernel
theorem dX12_move_10 : decode cX12_move 10 = .ok (.ireturn, 1) := by decide +kernel
theorem dX12_move_11 : decode cX12_move 11 = .ok (.aload_n 0, 1) := by decide +kernel
theorem dX12_move_12 : decode cX12_move 12 = .ok (.invokevirtual 352, 3) := by decide +kernel
theorem dX12_move_15 : decode cX12_move 15 = .ok (.aload_n 0, 1) := by decide +kernel
theorem dX12_move_16 : decode cX12_move 16 = .ok (.iload_n 1, 1) := by decide +kernel
theorem dX12_move_17 : decode cX12_move 17 = .ok (.iload_n 2, 1) := by decide +kernel
theorem dX12_move_18 : decode cX12_move 18 = .ok (.invokevirtual 355, 3) := by decide +kernel
theorem dX12_move_21 : decode cX12_move 21 = .ok (.ireturn, 1) := by decide +kernel
theorem dX12_change_0 : decode cX12_change 0 = .ok (.aload_n 0, 1) := by decide +kernel
theorem dX12_change_1 : decode cX12_change 1 = .ok (.invokevirtual 358, 3) := by decide +kernel
theorem dX12_change_4 : decode cX12_change 4 = .ok (.ifCond .ne 5, 3) := by decide +kernel
theorem dX12_change_7 : decode cX12_change 7 = .ok (.iconst (-1), 1) := by decide +kernel
theorem dX12_change_8 : decode cX12_change 8 = .ok (.ireturn, 1) := by decide +kernel
theorem dX12_change_9 : decode cX12_change 9 = .ok (.aload_n 0, 1) := by decide +kernel
theorem dX12_change_10 : decode cX12_change 10 = .ok (.invokevirtual 352, 3) := by decide +kernel
theorem dX12_change_13 : decode cX12_change 13 = .ok (.aload_n 0, 1) := by decide +kernel
theorem dX12_change_14 : decode cX12_change 14 = .ok (.invokevirtual 361, 3) := by decide +kernel
theorem dX12_change_17 : decode cX12_change 17 = .ok (.ireturn, 1) := by decide +kernel
theorem dX12_lend_0 : decode cX12_lend 0 = .ok (.aload_n 0, 1) := by decide +kernel
theorem dX12_lend_1 : decode cX12_lend 1 = .ok (.iload_n 1, 1) := by decide +kernel
theorem dX12_lend_2 : decode cX12_lend 2 = .ok (.iload_n 2, 1) := by decide +kernel
theorem dX12_lend_3 : decode cX12_lend 3 = .ok (.invokevirtual 364, 3) := by decide +kernel
theorem dX12_lend_6 : decode cX12_lend 6 = .ok (.ifCond .ne 5, 3) := by decide +kernel
theorem dX12_lend_9 : decode cX12_lend 9 = .ok (.iconst 0, 1) := by decide +kernel
theorem dX12_lend_10 : decode cX12_lend 10 = .ok (.ireturn, 1) := by decide +kernel
theorem dX12_lend_11 : decode cX12_lend 11 = .ok (.aload_n 0, 1) := by decide +kernel
theorem dX12_lend_12 : decode cX12_lend 12 = .ok (.invokevirtual 352, 3) := by decide +kernel
theorem dX12_lend_15 : decode cX12_lend 15 = .ok (.aload_n 0, 1) := by decide +kernel
theorem dX12_lend_16 : decode cX12_lend 16 = .ok (.getfield 7, 3) := by decide +kernel
theorem dX12_lend_19 : decode cX12_lend 19 = .ok (.bipush 9, 2) := by decide +kernel
theorem dX12_lend_21 : decode cX12_lend 21 = .ok (.iload_n 1, 1) := by decide +kernel
theorem dX12_lend_22 : decode cX12_lend 22 = .ok (.iadd, 1) := by decide +kernel
theorem dX12_lend_23 : decode cX12_lend 23 = .ok (.dup2, 1) := by decide +kernel
theorem dX12_lend_24 : decode cX12_lend 24 = .ok (.iaload, 1) := by decide +kernel
theorem dX12_lend_25 : decode cX12_lend 25 = .ok (.iload_n 2, 1) := by decide +kernel
theorem dX12_lend_26 : decode cX12_lend 26 = .ok (.iadd, 1) := by decide +kernel
theorem dX12_lend_27 : decode cX12_lend 27 = .ok (.iastore, 1) := by decide +kernel
theorem dX12_lend_28 : decode cX12_lend 28 = .ok (.iconst 1, 1) := by decide +kernel
theorem dX12_lend_29 : decode cX12_lend 29 = .ok (.ireturn, 1) := by decide +kernel
theorem dX12_arePassed_0 : decode cX12_arePassed 0 = .ok (.aload_n 0, 1) := by decide +kernel
theorem dX12_arePassed_1 : decode cX12_arePassed 1 = .ok (.iconst 0, 1) := by decide +kernel
theorem dX12_arePassed_2 : decode cX12_arePassed 2 = .ok (.putfield 346, 3) := by decide +kernel
theorem dX12_arePassed_5 : decode cX12_arePassed 5 = .ok (.iconst 0, 1) := by decide +kernel
theorem dX12_arePassed_6 : decode cX12_arePassed 6 = .ok (.istore_n 2, 1) := by decide +kernel
theorem dX12_arePassed_7 : decode cX12_arePassed 7 = .ok (.iload_n 2, 1) := by decide +kernel
theorem dX12_arePassed_8 : decode cX12_arePassed 8 = .ok (.iload_n 1, 1) := by decide +kernel
theorem dX12_arePassed_9 : decode cX12_arePassed 9 = .ok (.if_icmp .ge 32, 3) := by decide +kernel
theorem dX12_arePassed_12 : decode cX12_arePassed 12 = .ok (.aload_n 0, 1) := by decide +kernel
theorem dX12_arePassed_13 : decode cX12_arePassed 13 = .ok (.getfield 7, 3) := by decide +kernel
theorem dX12_arePassed_16 : decode cX12_arePassed 16 = .ok (.bipush 7, 2) := by decide +kernel
theorem dX12_arePassed_18 : decode cX12_arePassed 18 = .ok (.iaload, 1) := by decide +kernel
theorem dX12_arePassed_19 : decode cX12_arePassed 19 = .ok (.sipush 9999, 3) := by decide +kernel
theorem dX12_arePassed_22 : decode cX12_arePassed 22 = .ok (.if_icmp .ne 5, 3) := by decide +kernel
theorem dX12_arePassed_25 : decode cX12_arePassed 25 = .ok (.iconst 0, 1) := by decide +kernel
theorem dX12_arePassed_26 : decode cX12_arePassed 26 = .ok (.ireturn, 1) := by decide +kernel
theorem dX12_arePassed_27 : decode cX12_arePassed 27 = .ok (.aload_n 0, 1) := by decide +kernel
theorem dX12_arePassed_28 : decode cX12_arePassed 28 = .ok (.invokevirtual 352, 3) := by decide +kernel
theorem dX12_arePassed_31 : decode cX12_arePassed 31 = .ok (.aload_n 0, 1) := by decide +kernel
theorem dX12_arePassed_32 : decode cX12_arePassed 32 = .ok (.invokevirtual 367, 3) := by decide +kernel
theorem dX12_arePassed_35 : decode cX12_arePassed 35 = .ok (.iinc 2 1, 3) := by decide +kernel
theorem dX12_arePassed_38 : decode cX12_arePassed 38 = .ok (.goto (-31), 3) := by decide +kernel
theorem dX12_arePassed_41 : decode cX12_arePassed 41 = .ok (.iconst 1, 1) := by decide +kernel
theorem dX12_arePassed_42 : decode cX12_arePassed 42 = .ok (.ireturn, 1) := by decide +kernel
theorem dX12_hour_0 : decode cX12_hour 0 = .ok (.iload_n 1, 1) := by decide +kernel
theorem dX12_hour_1 : decode cX12_hour 1 = .ok (.iconst 1, 1) := by decide +kernel
theorem dX12_hour_2 : decode cX12_hour 2 = .ok (.bipush 60, 2) := by decide +kernel
theorem dX12_hour_4 : decode cX12_hour 4 = .ok (.invokestatic 78, 3) := by decide +kernel
theorem dX12_hour_7 : decode cX12_hour 7 = .ok (.ifCond .eq 33, 3) := by decide +kernel
theorem dX12_hour_10 : decode cX12_hour 10 = .ok (.aload_n 0, 1) := by decide +kernel
theorem dX12_hour_11 : decode cX12_hour 11 = .ok (.getfield 7, 3) := by decide +kernel
theorem dX12_hour_14 : decode cX12_hour 14 = .ok (.bipush 7, 2) := by decide +kernel
theorem dX12_hour_16 : decode cX12_hour 16 = .ok (.iaload, 1) := by decide +kernel
theorem dX12_hour_17 : decode cX12_hour 17 = .ok (.iload_n 1, 1) := by decide +kernel
theorem dX12_hour_18 : decode cX12_hour 18 = .ok (.iadd, 1) := by decide +kernel
theorem dX12_hour_19 : decode cX12_hour 19 = .ok (.sipush 9999, 3) := by decide +kernel
theorem dX12_hour_22 : decode cX12_hour 22 = .ok (.if_icmp .gt 18, 3) := by decide +kernel
theorem dX12_hour_25 : decode cX12_hour 25 = .ok (.aload_n 0, 1) := by decide +kernel
theorem dX12_hour_26 : decode cX12_hour 26 = .ok (.iload_n 1, 1) := by decide +kernel
theorem dX12_hour_27 : decode cX12_hour 27 = .ok (.invokevirtual 370, 3) := by decide +kernel
theorem dX12_hour_30 : decode cX12_hour 30 = .ok (.ifCond .eq 10, 3) := by decide +kernel
theorem dX12_hour_33 : decode cX12_hour 33 = .ok (.aload_n 0, 1) := by decide +kernel
theorem dX12_hour_34 : decode cX12_hour 34 = .ok (.getfield 346, 3) := by decide +kernel
theorem dX12_hour_37 : decode cX12_hour 37 = .ok (.goto 4, 3) := by decide +kernel
theorem dX12_hour_40 : decode cX12_hour 40 = .ok (.iconst (-1), 1) := by decide +kernel
theorem dX12_hour_41 : decode cX12_hour 41 = .ok (.ireturn, 1) := by decide +kernel
theorem dX12_isPlayed_0 : decode cX12_isPlayed 0 = .ok (.aload_n 0, 1) := by decide +kernel
theorem dX12_isPlayed_1 : decode cX12_isPlayed 1 = .ok (.getfield 16, 3) := by decide +kernel
theorem dX12_isPlayed_4 : decode cX12_isPlayed 4 = .ok (.iload_n 1, 1) := by decide +kernel
theorem dX12_isPlayed_5 : decode cX12_isPlayed 5 = .ok (.iconst 1, 1) := by decide +kernel
theorem dX12_isPlayed_6 : decode cX12_isPlayed 6 = .ok (.iadd, 1) := by decide +kernel
theorem dX12_isPlayed_7 : decode cX12_isPlayed 7 = .ok (.iaload, 1) := by decide +kernel
theorem dX12_isPlayed_8 : decode cX12_isPlayed 8 = .ok (.istore_n 2, 1) := by decide +kernel
theorem dX12_isPlayed_9 : decode cX12_isPlayed 9 = .ok (.aload_n 0, 1) := by decide +kernel
theorem dX12_isPlayed_10 : decode cX12_isPlayed 10 = .ok (.getfield 16, 3) := by decide +kernel
theorem dX12_isPlayed_13 : decode cX12_isPlayed 13 = .ok (.iload_n 1, 1) := by decide +kernel
theorem dX12_isPlayed_14 : decode cX12_isPlayed 14 = .ok (.iconst 2, 1) := by decide +kernel
theorem dX12_isPlayed_15 : decode cX12_isPlayed 15 = .ok (.iadd, 1) := by decide +kernel
theorem dX12_isPlayed_16 : decode cX12_isPlayed 16 = .ok (.iaload, 1) := by decide +kernel
theorem dX12_isPlayed_17 : decode cX12_isPlayed 17 = .ok (.istore_n 3, 1) := by decide +kernel
theorem dX12_isPlayed_18 : decode cX12_isPlayed 18 = .ok (.aload_n 0, 1) := by decide +kernel
theorem dX12_isPlayed_19 : decode cX12_isPlayed 19 = .ok (.getfield 16, 3) := by decide +kernel
theorem dX12_isPlayed_22 : decode cX12_isPlayed 22 = .ok (.iload_n 1, 1) := by decide +kernel
theorem dX12_isPlayed_23 : decode cX12_isPlayed 23 = .ok (.iaload, 1) := by decide +kernel
theorem dX12_isPlayed_24 : decode cX12_isPlayed 24 = .ok (.tableswitch 104 2 7 #[40, 55, 63, 78, 91, 98], 40) := by decide +kernel
theorem dX12_isPlayed_64 : decode cX12_isPlayed 64 = .ok (.aload_n 0, 1) := by decide +kernel
theorem dX12_isPlayed_65 : decode cX12_isPlayed 65 = .ok (.iload_n 2, 1) := by decide +kernel
theorem dX12_isPlayed_66 : decode cX12_isPlayed 66 = .ok (.iload_n 3, 1) := by decide +kernel
theorem dX12_isPlayed_67 : decode cX12_isPlayed 67 = .ok (.invokevirtual 373, 3) := by decide +kernel
theorem dX12_isPlayed_70 : decode cX12_isPlayed 70 = .ok (.ifCond .lt 7, 3) := by decide +kernel
theorem dX12_isPlayed_73 : decode cX12_isPlayed 73 = .ok (.iconst 1, 1) := by decide +kernel
theorem dX12_isPlayed_74 : decode cX12_isPlayed 74 = .ok (.goto 4, 3) := by decide +kernel
theorem dX12_isPlayed_77 : decode cX12_isPlayed 77 = .ok (.iconst 0, 1) := by decide +kernel
theorem dX12_isPlayed_78 : decode cX12_isPlayed 78 = .ok (.ireturn, 1) := by decide +kernel
theorem dX12_isPlayed_79 : decode cX12_isPlayed 79 = .ok (.aload_n 0, 1) := by decide +kernel
theorem dX12_isPlayed_80 : decode cX12_isPlayed 80 = .ok (.iload_n 2, 1) := by decide +kernel
theorem dX12_isPlayed_81 : decode cX12_isPlayed 81 = .ok (.iload_n 3, 1) := by decide +kernel
theorem dX12_isPlayed_82 : decode cX12_isPlayed 82 = .ok (.iconst 1, 1) := by decide +kernel
theorem dX12_isPlayed_83 : decode cX12_isPlayed 83 = .ok (.invokevirtual 376, 3) := by decide +kernel
theorem dX12_isPlayed_86 : decode cX12_isPlayed 86 = .ok (.ireturn, 1) := by decide +kernel
theorem dX12_isPlayed_87 : decode cX12_isPlayed 87 = .ok (.aload_n 0, 1) := by decide +kernel
theorem dX12_isPlayed_88 : decode cX12_isPlayed 88 = .ok (.iload_n 2, 1) := by decide +kernel
theorem dX12_isPlayed_89 : decode cX12_isPlayed 89 = .ok (.iload_n 3, 1) := by decide +kernel
theorem dX12_isPlayed_90 : decode cX12_isPlayed 90 = .ok (.invokevirtual 380, 3) := by decide +kernel
theorem dX12_isPlayed_93 : decode cX12_isPlayed 93 = .ok (.ifCond .lt 7, 3) := by decide +kernel
theorem dX12_isPlayed_96 : decode cX12_isPlayed 96 = .ok (.iconst 1, 1) := by decide +kernel
theorem dX12_isPlayed_97 : decode cX12_isPlayed 97 = .ok (.goto 4, 3) := by decide +kernel
theorem dX12_isPlayed_100 : decode cX12_isPlayed 100 = .ok (.iconst 0, 1) := by decide +kernel
theorem dX12_isPlayed_101 : decode cX12_isPlayed 101 = .ok (.ireturn, 1) := by decide +kernel
theorem dX12_isPlayed_102 : decode cX12_isPlayed 102 = .ok (.aload_n 0, 1) := by decide +kernel
theorem dX12_isPlayed_103 : decode cX12_isPlayed 103 = .ok (.invokevirtual 383, 3) := by decide +kernel
theorem dX12_isPlayed_106 : decode cX12_isPlayed 106 = .ok (.ifCond .lt 7, 3) := by decide +kernel
theorem dX12_isPlayed_109 : decode cX12_isPlayed 109 = .ok (.iconst 1, 1) := by decide +kernel
theorem dX12_isPlayed_110 : decode cX12_isPlayed 110 = .ok (.goto 4, 3) := by decide +kernel
theorem dX12_isPlayed_113 : decode cX12_isPlayed 113 = .ok (.iconst 0, 1) := by decide +kernel
theorem dX12_isPlayed_114 : decode cX12_isPlayed 114 = .ok (.ireturn, 1) := by decide +kernel
theorem dX12_isPlayed_115 : decode cX12_isPlayed 115 = .ok (.aload_n 0, 1) := by decide +kernel
theorem dX12_isPlayed_116 : decode cX12_isPlayed 116 = .ok (.iload_n 3, 1) := by decide +kernel
theorem dX12_isPlayed_117 : decode cX12_isPlayed 117 = .ok (.iload_n 2, 1) := by decide +kernel
theorem dX12_isPlayed_118 : decode cX12_isPlayed 118 = .ok (.invokevirtual 386, 3) := by decide +kernel
theorem dX12_isPlayed_121 : decode cX12_isPlayed 121 = .ok (.ireturn, 1) := by decide +kernel
theorem dX12_isPlayed_122 : decode cX12_isPlayed 122 = .ok (.aload_n 0, 1) := by decide +kernel
theorem dX12_isPlayed_123 : decode cX12_isPlayed 123 = .ok (.iload_n 2, 1) := by decide +kernel
theorem dX12_isPlayed_124 : decode cX12_isPlayed 124 = .ok (.invokevirtual 370, 3) := by decide +kernel
theorem dX12_isPlayed_127 : decode cX12_isPlayed 127 = .ok (.ireturn, 1) := by decide +kernel
theorem dX12_isPlayed_128 : decode cX12_isPlayed 128 = .ok (.iconst 1, 1) := by decide +kernel
theorem dX12_isPlayed_129 : decode cX12_isPlayed 129 = .ok (.ireturn, 1) := by decide +kernel
theorem dX12_played_0 : decode cX12_played 0 = .ok (.iload_n 1, 1) := by decide +kernel
theorem dX12_played_1 : decode cX12_played 1 = .ok (.iconst 0, 1) := by decide +kernel
theorem dX12_played_2 : decode cX12_played 2 = .ok (.aload_n 0, 1) := by decide +kernel
theorem dX12_played_3 : decode cX12_played 3 = .ok (.getfield 7, 3) := by decide +kernel
theorem dX12_played_6 : decode cX12_played 6 = .ok (.iconst 1, 1) := by decide +kernel
theorem dX12_played_7 : decode cX12_played 7 = .ok (.iaload, 1) := by decide +kernel
theorem dX12_played_8 : decode cX12_played 8 = .ok (.iconst 1, 1) := by decide +kernel
theorem dX12_played_9 : decode cX12_played 9 = .ok (.isub, 1) := by decide +kernel
theorem dX12_played_10 : decode cX12_played 10 = .ok (.invokestatic 78, 3) := by decide +kernel
theorem dX12_played_13 : decode cX12_played 13 = .ok (.ifCond .ne 6, 3) := by decide +kernel
theorem dX12_played_16 : decode cX12_played 16 = .ok (.bipush (-2), 2) := by decide +kernel
theorem dX12_played_18 : decode cX12_played 18 = .ok (.ireturn, 1) := by decide +kernel
theorem dX12_played_19 : decode cX12_played 19 = .ok (.iconst 0, 1) := by decide +kernel
theorem dX12_played_20 : decode cX12_played 20 = .ok (.istore_n 2, 1) := by decide +kernel
theorem dX12_played_21 : decode cX12_played 21 = .ok (.iload_n 2, 1) := by decide +kernel
theorem dX12_played_22 : decode cX12_played 22 = .ok (.aload_n 0, 1) := by decide +kernel
theorem dX12_played_23 : decode cX12_played 23 = .ok (.getfield 16, 3) := by decide +kernel
theorem dX12_played_26 : decode cX12_played 26 = .ok (.sipush 681, 3) := by decide +kernel
theorem dX12_played_29 : decode cX12_played 29 = .ok (.iload_n 1, 1) := by decide +kernel
theorem dX12_played_30 : decode cX12_played 30 = .ok (.imul, 1) := by decide +kernel
theorem dX12_played_31 : decode cX12_played 31 = .ok (.iaload, 1) := by decide +kernel
theorem dX12_played_32 : decode cX12_played 32 = .ok (.if_icmp .ge 29, 3) := by decide +kernel
theorem dX12_played_35 : decode cX12_played 35 = .ok (.aload_n 0, 1) := by decide +kernel
theorem dX12_played_36 : decode cX12_played 36 = .ok (.sipush 681, 3) := by decide +kernel
theorem dX12_played_39 : decode cX12_played 39 = .ok (.iload_n 1, 1) := by decide +kernel
theorem dX12_played_40 : decode cX12_played 40 = .ok (.imul, 1) := by decide +kernel
theorem dX12_played_41 : decode cX12_played 41 = .ok (.iconst 1, 1) := by decide +kernel
theorem dX12_played_42 : decode cX12_played 42 = .ok (.iadd, 1) := by decide +kernel
theorem dX12_played_43 : decode cX12_played 43 = .ok (.iconst 3, 1) := by decide +kernel
theorem dX12_played_44 : decode cX12_played 44 = .ok (.iload_n 2, 1) := by decide +kernel
theorem dX12_played_45 : decode cX12_played 45 = .ok (.imul, 1) := by decide +kernel
theorem dX12_played_46 : decode cX12_played 46 = .ok (.iadd, 1) := by decide +kernel
theorem dX12_played_47 : decode cX12_played 47 = .ok (.invokevirtual 389, 3) := by decide +kernel
theorem dX12_played_50 : decode cX12_played 50 = .ok (.ifCond .ne 5, 3) := by decide +kernel
theorem dX12_played_53 : decode cX12_played 53 = .ok (.iload_n 2, 1) := by decide +kernel
theorem dX12_played_54 : decode cX12_played 54 = .ok (.ireturn, 1) := by decide +kernel
theorem dX12_played_55 : decode cX12_played 55 = .ok (.iinc 2 1, 3) := by decide +kernel
theorem dX12_played_58 : decode cX12_played 58 = .ok (.goto (-37), 3) := by decide +kernel
theorem dX12_played_61 : decode cX12_played 61 = .ok (.iconst (-1), 1) := by decide +kernel
theorem dX12_played_62 : decode cX12_played 62 = .ok (.ireturn, 1) := by decide +kernel
theorem dX12_happens_0 : decode cX12_happens 0 = .ok (.iload_n 1, 1) := by decide +kernel
theorem dX12_happens_1 : decode cX12_happens 1 = .ok (.bipush 6, 2) := by decide +kernel
theorem dX12_happens_3 : decode cX12_happens 3 = .ok (.idiv, 1) := by decide +kernel
theorem dX12_happens_4 : decode cX12_happens 4 = .ok (.iconst 3, 1) := by decide +kernel
theorem dX12_happens_5 : decode cX12_happens 5 = .ok (.irem, 1) := by decide +kernel
theorem dX12_happens_6 : decode cX12_happens 6 = .ok (.istore_n 2, 1) := by decide +kernel
theorem dX12_happens_7 : decode cX12_happens 7 = .ok (.iload_n 2, 1) := by decide +kernel
theorem dX12_happens_8 : decode cX12_happens 8 = .ok (.iload_n 1, 1) := by decide +kernel
theorem dX12_happens_9 : decode cX12_happens 9 = .ok (.iconst 4, 1) := by decide +kernel
theorem dX12_happens_10 : decode cX12_happens 10 = .ok (.irem, 1) := by decide +kernel
theorem dX12_happens_11 : decode cX12_happens 11 = .ok (.iconst 1, 1) := by decide +kernel
theorem dX12_happens_12 : decode cX12_happens 12 = .ok (.if_icmp .le 7, 3) := by decide +kernel
theorem dX12_happens_15 : decode cX12_happens 15 = .ok (.iconst 2, 1) := by decide +kernel
theorem dX12_happens_16 : decode cX12_happens 16 = .ok (.goto 4, 3) := by decide +kernel
theorem dX12_happens_19 : decode cX12_happens 19 = .ok (.iconst 1, 1) := by decide +kernel
theorem dX12_happens_20 : decode cX12_happens 20 = .ok (.iadd, 1) := by decide +kernel
theorem dX12_happens_21 : decode cX12_happens 21 = .ok (.iconst 3, 1) := by decide +kernel
theorem dX12_happens_22 : decode cX12_happens 22 = .ok (.irem, 1) := by decide +kernel
theorem dX12_happens_23 : decode cX12_happens 23 = .ok (.istore_n 3, 1) := by decide +kernel
theorem dX12_happens_24 : decode cX12_happens 24 = .ok (.iload_n 1, 1) := by decide +kernel
theorem dX12_happens_25 : decode cX12_happens 25 = .ok (.bipush 6, 2) := by decide +kernel
theorem dX12_happens_27 : decode cX12_happens 27 = .ok (.irem, 1) := by decide +kernel
theorem dX12_happens_28 : decode cX12_happens 28 = .ok (.tableswitch 101 0 3 #[32, 32, 51, 66], 32) := by decide +kernel
theorem dX12_happens_60 : decode cX12_happens 60 = .ok (.aload_n 0, 1) := by decide +kernel
theorem dX12_happens_61 : decode cX12_happens 61 = .ok (.iload_n 2, 1) := by decide +kernel
theorem dX12_happens_62 : decode cX12_happens 62 = .ok (.iload_n 3, 1) := by decide +kernel
theorem dX12_happens_63 : decode cX12_happens 63 = .ok (.invokevirtual 349, 3) := by decide +kernel
theorem dX12_happens_66 : decode cX12_happens 66 = .ok (.ifCond .eq 80, 3) := by decide +kernel
theorem dX12_happens_69 : decode cX12_happens 69 = .ok (.aload_n 0, 1) := by decide +kernel
theorem dX12_happens_70 : decode cX12_happens 70 = .ok (.iload_n 2, 1) := by decide +kernel
theorem dX12_happens_71 : decode cX12_happens 71 = .ok (.iload_n 3, 1) := by decide +kernel
theorem dX12_happens_72 : decode cX12_happens 72 = .ok (.invokevirtual 355, 3) := by decide +kernel
theorem dX12_happens_75 : decode cX12_happens 75 = .ok (.ifCond .ge 71, 3) := by decide +kernel
theorem dX12_happens_78 : decode cX12_happens 78 = .ok (.return_, 1) := by decide +kernel
theorem dX12_happens_79 : decode cX12_happens 79 = .ok (.aload_n 0, 1) := by decide +kernel
theorem dX12_happens_80 : decode cX12_happens 80 = .ok (.invokevirtual 358, 3) := by decide +kernel
theorem dX12_happens_83 : decode cX12_happens 83 = .ok (.ifCond .eq 63, 3) := by decide +kernel
theorem dX12_happens_86 : decode cX12_happens 86 = .ok (.aload_n 0, 1) := by decide +kernel
theorem dX12_happens_87 : decode cX12_happens 87 = .ok (.invokevirtual 361, 3) := by decide +kernel
theorem dX12_happens_90 : decode cX12_happens 90 = .ok (.ifCond .ge 56, 3) := by decide +kernel
theorem dX12_happens_93 : decode cX12_happens 93 = .ok (.return_, 1) := by decide +kernel
theorem dX12_happens_94 : decode cX12_happens 94 = .ok (.aload_n 0, 1) := by decide +kernel
theorem dX12_happens_95 : decode cX12_happens 95 = .ok (.iload_n 1, 1) := by decide +kernel
theorem dX12_happens_96 : decode cX12_happens 96 = .ok (.bipush 6, 2) := by decide +kernel
theorem dX12_happens_98 : decode cX12_happens 98 = .ok (.idiv, 1) := by decide +kernel
theorem dX12_happens_99 : decode cX12_happens 99 = .ok (.iconst 2, 1) := by decide +kernel
theorem dX12_happens_100 : decode cX12_happens 100 = .ok (.irem, 1) := by decide +kernel
theorem dX12_happens_101 : decode cX12_happens 101 = .ok (.iconst 1, 1) := by decide +kernel
theorem dX12_happens_102 : decode cX12_happens 102 = .ok (.invokevirtual 364, 3) := by decide +kernel
theorem dX12_happens_105 : decode cX12_happens 105 = .ok (.ifCond .eq 41, 3) := by decide +kernel
theorem dX12_happens_108 : decode cX12_happens 108 = .ok (.aload_n 0, 1) := by decide +kernel
theorem dX12_happens_109 : decode cX12_happens 109 = .ok (.getfield 7, 3) := by decide +kernel
theorem dX12_happens_112 : decode cX12_happens 112 = .ok (.bipush 9, 2) := by decide +kernel
theorem dX12_happens_114 : decode cX12_happens 114 = .ok (.iload_n 1, 1) := by decide +kernel
theorem dX12_happens_115 : decode cX12_happens 115 = .ok (.bipush 6, 2) := by decide +kernel
theorem dX12_happens_117 : decode cX12_happens 117 = .ok (.idiv, 1) := by decide +kernel
theorem dX12_happens_118 : decode cX12_happens 118 = .ok (.iconst 2, 1) := by decide +kernel
theorem dX12_happens_119 : decode cX12_happens 119 = .ok (.irem, 1) := by decide +kernel
theorem dX12_happens_120 : decode cX12_happens 120 = .ok (.iadd, 1) := by decide +kernel
theorem dX12_happens_121 : decode cX12_happens 121 = .ok (.dup2, 1) := by decide +kernel
theorem dX12_happens_122 : decode cX12_happens 122 = .ok (.iaload, 1) := by decide +kernel
theorem dX12_happens_123 : decode cX12_happens 123 = .ok (.iconst 1, 1) := by decide +kernel
theorem dX12_happens_124 : decode cX12_happens 124 = .ok (.iadd, 1) := by decide +kernel
theorem dX12_happens_125 : decode cX12_happens 125 = .ok (.iastore, 1) := by decide +kernel
theorem dX12_happens_126 : decode cX12_happens 126 = .ok (.goto 20, 3) := by decide +kernel
theorem dX12_happens_129 : decode cX12_happens 129 = .ok (.aload_n 0, 1) := by decide +kernel
theorem dX12_happens_130 : decode cX12_happens 130 = .ok (.getfield 7, 3) := by decide +kernel
theorem dX12_happens_133 : decode cX12_happens 133 = .ok (.bipush 7, 2) := by decide +kernel
theorem dX12_happens_135 : decode cX12_happens 135 = .ok (.iaload, 1) := by decide +kernel
theorem dX12_happens_136 : decode cX12_happens 136 = .ok (.sipush 9999, 3) := by decide +kernel
theorem dX12_happens_139 : decode cX12_happens 139 = .ok (.if_icmp .ge 7, 3) := by decide +kernel
theorem dX12_happens_142 : decode cX12_happens 142 = .ok (.aload_n 0, 1) := by decide +kernel
theorem dX12_happens_143 : decode cX12_happens 143 = .ok (.invokevirtual 367, 3) := by decide +kernel
theorem dX12_happens_146 : decode cX12_happens 146 = .ok (.return_, 1) := by decide +kernel
theorem dX12_years_0 : decode cX12_years 0 = .ok (.iload_n 1, 1) := by decide +kernel
theorem dX12_years_1 : decode cX12_years 1 = .ok (.iconst 0, 1) := by decide +kernel
theorem dX12_years_2 : decode cX12_years 2 = .ok (.sipush 9999, 3) := by decide +kernel
theorem dX12_years_5 : decode cX12_years 5 = .ok (.invokestatic 78, 3) := by decide +kernel
theorem dX12_years_8 : decode cX12_years 8 = .ok (.ifCond .eq 13, 3) := by decide +kernel
theorem dX12_years_11 : decode cX12_years 11 = .ok (.iload_n 2, 1) := by decide +kernel
theorem dX12_years_12 : decode cX12_years 12 = .ok (.iconst 1, 1) := by decide +kernel
theorem dX12_years_13 : decode cX12_years 13 = .ok (.bipush 40, 2) := by decide +kernel
theorem dX12_years_15 : decode cX12_years 15 = .ok (.invokestatic 78, 3) := by decide +kernel
theorem dX12_years_18 : decode cX12_years 18 = .ok (.ifCond .ne 5, 3) := by decide +kernel
theorem dX12_years_21 : decode cX12_years 21 = .ok (.iconst (-1), 1) := by decide +kernel
theorem dX12_years_22 : decode cX12_years 22 = .ok (.ireturn, 1) := by decide +kernel
theorem dX12_years_23 : decode cX12_years 23 = .ok (.aload_n 0, 1) := by decide +kernel
theorem dX12_years_24 : decode cX12_years 24 = .ok (.invokevirtual 352, 3) := by decide +kernel
theorem dX12_years_27 : decode cX12_years 27 = .ok (.aload_n 0, 1) := by decide +kernel
theorem dX12_years_28 : decode cX12_years 28 = .ok (.getfield 7, 3) := by decide +kernel
theorem dX12_years_31 : decode cX12_years 31 = .ok (.bipush 8, 2) := by decide +kernel
theorem dX12_years_33 : decode cX12_years 33 = .ok (.iload_n 1, 1) := by decide +kernel
theorem dX12_years_34 : decode cX12_years 34 = .ok (.iconst 2, 1) := by decide +kernel
theorem dX12_years_35 : decode cX12_years 35 = .ok (.imul, 1) := by decide +kernel
theorem dX12_years_36 : decode cX12_years 36 = .ok (.sipush 353, 3) := by decide +kernel
theorem dX12_years_39 : decode cX12_years 39 = .ok (.iadd, 1) := by decide +kernel
theorem dX12_years_40 : decode cX12_years 40 = .ok (.iastore, 1) := by decide +kernel
theorem dX12_years_41 : decode cX12_years 41 = .ok (.iconst 0, 1) := by decide +kernel
theorem dX12_years_42 : decode cX12_years 42 = .ok (.istore_n 3, 1) := by decide +kernel
theorem dX12_years_43 : decode cX12_years 43 = .ok (.iload_n 3, 1) := by decide +kernel
theorem dX12_years_44 : decode cX12_years 44 = .ok (.iload_n 2, 1) := by decide +kernel
theorem dX12_years_45 : decode cX12_years 45 = .ok (.if_icmp .ge 28, 3) := by decide +kernel
theorem dX12_years_48 : decode cX12_years 48 = .ok (.aload_n 0, 1) := by decide +kernel
theorem dX12_years_49 : decode cX12_years 49 = .ok (.getfield 7, 3) := by decide +kernel
theorem dX12_years_52 : decode cX12_years 52 = .ok (.bipush 8, 2) := by decide +kernel
theorem dX12_years_54 : decode cX12_years 54 = .ok (.iaload, 1) := by decide +kernel
theorem dX12_years_55 : decode cX12_years 55 = .ok (.istore 4, 2) := by decide +kernel
theorem dX12_years_57 : decode cX12_years 57 = .ok (.aload_n 0, 1) := by decide +kernel
theorem dX12_years_58 : decode cX12_years 58 = .ok (.invokevirtual 318, 3) := by decide +kernel
theorem dX12_years_61 : decode cX12_years 61 = .ok (.aload_n 0, 1) := by decide +kernel
theorem dX12_years_62 : decode cX12_years 62 = .ok (.iload 4, 2) := by decide +kernel
theorem dX12_years_64 : decode cX12_years 64 = .ok (.invokevirtual 392, 3) := by decide +kernel
theorem dX12_years_67 : decode cX12_years 67 = .ok (.iinc 3 1, 3) := by decide +kernel
theorem dX12_years_70 : decode cX12_years 70 = .ok (.goto (-27), 3) := by decide +kernel
theorem dX12_years_73 : decode cX12_years 73 = .ok (.aload_n 0, 1) := by decide +kernel
theorem dX12_years_74 : decode cX12_years 74 = .ok (.getfield 7, 3) := by decide +kernel
theorem dX12_years_77 : decode cX12_years 77 = .ok (.bipush 7, 2) := by decide +kernel
theorem dX12_years_79 : decode cX12_years 79 = .ok (.iaload, 1) := by decide +kernel
theorem dX12_years_80 : decode cX12_years 80 = .ok (.ireturn, 1) := by decide +kernel
theorem dX12_of_0 : decode cX12_of 0 = .ok (.aload_n 0, 1) := by decide +kernel
theorem dX12_of_1 : decode cX12_of 1 = .ok (.iload_n 1, 1) := by decide +kernel
theorem dX12_of_2 : decode cX12_of 2 = .ok (.invokevirtual 102, 3) := by decide +kernel
theorem dX12_of_5 : decode cX12_of 5 = .ok (.ifCond .ne 5, 3) := by decide +kernel
theorem dX12_of_8 : decode cX12_of 8 = .ok (.iconst (-1), 1) := by decide +kernel
theorem dX12_of_9 : decode cX12_of 9 = .ok (.ireturn, 1) := by decide +kernel
theorem dX12_of_10 : decode cX12_of 10 = .ok (.iload_n 2, 1) := by decide +kernel
theorem dX12_of_11 : decode cX12_of 11 = .ok (.tableswitch 85 0 5 #[37, 47, 57, 63, 69, 75], 37) := by decide +kernel
theorem dX12_of_48 : decode cX12_of 48 = .ok (.aload_n 0, 1) := by decide +kernel
theorem dX12_of_49 : decode cX12_of 49 = .ok (.getfield 7, 3) := by decide +kernel
theorem dX12_of_52 : decode cX12_of 52 = .ok (.bipush 36, 2) := by decide +kernel
theorem dX12_of_54 : decode cX12_of 54 = .ok (.iload_n 1, 1) := by decide +kernel
theorem dX12_of_55 : decode cX12_of 55 = .ok (.iadd, 1) := by decide +kernel
theorem dX12_of_56 : decode cX12_of 56 = .ok (.iaload, 1) := by decide +kernel
theorem dX12_of_57 : decode cX12_of 57 = .ok (.ireturn, 1) := by decide +kernel
theorem dX12_of_58 : decode cX12_of 58 = .ok (.aload_n 0, 1) := by decide +kernel
theorem dX12_of_59 : decode cX12_of 59 = .ok (.getfield 7, 3) := by decide +kernel
theorem dX12_of_62 : decode cX12_of 62 = .ok (.bipush 41, 2) := by decide +kernel
theorem dX12_of_64 : decode cX12_of 64 = .ok (.iload_n 1, 1) := by decide +kernel
theorem dX12_of_65 : decode cX12_of 65 = .ok (.iadd, 1) := by decide +kernel
theorem dX12_of_66 : decode cX12_of 66 = .ok (.iaload, 1) := by decide +kernel
theorem dX12_of_67 : decode cX12_of 67 = .ok (.ireturn, 1) := by decide +kernel
theorem dX12_of_68 : decode cX12_of 68 = .ok (.aload_n 0, 1) := by decide +kernel
theorem dX12_of_69 : decode cX12_of 69 = .ok (.iload_n 1, 1) := by decide +kernel
theorem dX12_of_70 : decode cX12_of 70 = .ok (.invokevirtual 86, 3) := by decide +kernel
theorem dX12_of_73 : decode cX12_of 73 = .ok (.ireturn, 1) := by decide +kernel
theorem dX12_of_74 : decode cX12_of 74 = .ok (.aload_n 0, 1) := by decide +kernel
theorem dX12_of_75 : decode cX12_of 75 = .ok (.iload_n 1, 1) := by decide +kernel
theorem dX12_of_76 : decode cX12_of 76 = .ok (.invokevirtual 395, 3) := by decide +kernel
theorem dX12_of_79 : decode cX12_of 79 = .ok (.ireturn, 1) := by decide +kernel
theorem dX12_of_80 : decode cX12_of 80 = .ok (.aload_n 0, 1) := by decide +kernel
theorem dX12_of_81 : decode cX12_of 81 = .ok (.iload_n 1, 1) := by decide +kernel
theorem dX12_of_82 : decode cX12_of 82 = .ok (.invokevirtual 309, 3) := by decide +kernel
theorem dX12_of_85 : decode cX12_of 85 = .ok (.ireturn, 1) := by decide +kernel
theorem dX12_of_86 : decode cX12_of 86 = .ok (.aload_n 0, 1) := by decide +kernel
theorem dX12_of_87 : decode cX12_of 87 = .ok (.getfield 7, 3) := by decide +kernel
theorem dX12_of_90 : decode cX12_of 90 = .ok (.bipush 31, 2) := by decide +kernel
theorem dX12_of_92 : decode cX12_of 92 = .ok (.iload_n 1, 1) := by decide +kernel
theorem dX12_of_93 : decode cX12_of 93 = .ok (.iadd, 1) := by decide +kernel
theorem dX12_of_94 : decode cX12_of 94 = .ok (.iaload, 1) := by decide +kernel
theorem dX12_of_95 : decode cX12_of 95 = .ok (.ireturn, 1) := by decide +kernel
theorem dX12_of_96 : decode cX12_of 96 = .ok (.iconst (-1), 1) := by decide +kernel
theorem dX12_of_97 : decode cX12_of 97 = .ok (.ireturn, 1) := by decide +kernel
theorem dX12_track_0 : decode cX12_track 0 = .ok (.iload_n 1, 1) := by decide +kernel
theorem dX12_track_1 : decode cX12_track 1 = .ok (.invokestatic 327, 3) := by decide +kernel
theorem dX12_track_4 : decode cX12_track 4 = .ok (.ifCond .ne 6, 3) := by decide +kernel
theorem dX12_track_7 : decode cX12_track 7 = .ok (.bipush (-2), 2) := by decide +kernel
theorem dX12_track_9 : decode cX12_track 9 = .ok (.ireturn, 1) := by decide +kernel
theorem dX12_track_10 : decode cX12_track 10 = .ok (.iload_n 2, 1) := by decide +kernel
theorem dX12_track_11 : decode cX12_track 11 = .ok (.iconst (-1), 1) := by decide +kernel
theorem dX12_track_12 : decode cX12_track 12 = .ok (.if_icmp .ne 15, 3) := by decide +kernel
theorem dX12_track_15 : decode cX12_track 15 = .ok (.aload_n 0, 1) := by decide +kernel
theorem dX12_track_16 : decode cX12_track 16 = .ok (.getfield 7, 3) := by decide +kernel
theorem dX12_track_19 : decode cX12_track 19 = .ok (.bipush 12, 2) := by decide +kernel
theorem dX12_track_21 : decode cX12_track 21 = .ok (.iload_n 1, 1) := by decide +kernel
theorem dX12_track_22 : decode cX12_track 22 = .ok (.iadd, 1) := by decide +kernel
theorem dX12_track_23 : decode cX12_track 23 = .ok (.iaload, 1) := by decide +kernel
theorem dX12_track_24 : decode cX12_track 24 = .ok (.goto 33, 3) := by decide +kernel
theorem dX12_track_27 : decode cX12_track 27 = .ok (.iload_n 2, 1) := by decide +kernel
theorem dX12_track_28 : decode cX12_track 28 = .ok (.iconst 0, 1) := by decide +kernel
theorem dX12_track_29 : decode cX12_track 29 = .ok (.aload_n 0, 1) := by decide +kernel
theorem dX12_track_30 : decode cX12_track 30 = .ok (.getfield 7, 3) := by decide +kernel
theorem dX12_track_33 : decode cX12_track 33 = .ok (.bipush 12, 2) := by decide +kernel
theorem dX12_track_35 : decode cX12_track 35 = .ok (.iload_n 1, 1) := by decide +kernel
theorem dX12_track_36 : decode cX12_track 36 = .ok (.iadd, 1) := by decide +kernel
theorem dX12_track_37 : decode cX12_track 37 = .ok (.iaload, 1) := by decide +kernel
theorem dX12_track_38 : decode cX12_track 38 = .ok (.iconst 1, 1) := by decide +kernel
theorem dX12_track_39 : decode cX12_track 39 = .ok (.isub, 1) := by decide +kernel
theorem dX12_track_40 : decode cX12_track 40 = .ok (.invokestatic 78, 3) := by decide +kernel
theorem dX12_track_43 : decode cX12_track 43 = .ok (.ifCond .eq 12, 3) := by decide +kernel
theorem dX12_track_46 : decode cX12_track 46 = .ok (.aload_n 0, 1) := by decide +kernel
theorem dX12_track_47 : decode cX12_track 47 = .ok (.iload_n 1, 1) := by decide +kernel
theorem dX12_track_48 : decode cX12_track 48 = .ok (.iload_n 2, 1) := by decide +kernel
theorem dX12_track_49 : decode cX12_track 49 = .ok (.invokevirtual 82, 3) := by decide +kernel
theorem dX12_track_52 : decode cX12_track 52 = .ok (.goto 5, 3) := by decide +kernel
theorem dX12_track_55 : decode cX12_track 55 = .ok (.bipush (-2), 2) := by decide +kernel
theorem dX12_track_57 : decode cX12_track 57 = .ok (.ireturn, 1) := by decide +kernel
theorem dX12_law_0 : decode cX12_law 0 = .ok (.iload_n 1, 1) := by decide +kernel
theorem dX12_law_1 : decode cX12_law 1 = .ok (.invokestatic 327, 3) := by decide +kernel
theorem dX12_law_4 : decode cX12_law 4 = .ok (.ifCond .eq 22, 3) := by decide +kernel
theorem dX12_law_7 : decode cX12_law 7 = .ok (.iload_n 2, 1) := by decide +kernel
theorem dX12_law_8 : decode cX12_law 8 = .ok (.invokestatic 327, 3) := by decide +kernel
theorem dX12_law_11 : decode cX12_law 11 = .ok (.ifCond .eq 15, 3) := by decide +kernel
theorem dX12_law_14 : decode cX12_law 14 = .ok (.aload_n 0, 1) := by decide +kernel
theorem dX12_law_15 : decode cX12_law 15 = .ok (.getfield 7, 3) := by decide +kernel
theorem dX12_law_18 : decode cX12_law 18 = .ok (.bipush 12, 2) := by decide +kernel
theorem dX12_law_20 : decode cX12_law 20 = .ok (.iload_n 1, 1) := by decide +kernel
theorem dX12_law_21 : decode cX12_law 21 = .ok (.iadd, 1) := by decide +kernel
theorem dX12_law_22 : decode cX12_law 22 = .ok (.iaload, 1) := by decide +kernel
theorem dX12_law_23 : decode cX12_law 23 = .ok (.ifCond .ne 6, 3) := by decide +kernel
theorem dX12_law_26 : decode cX12_law 26 = .ok (.bipush (-100), 2) := by decide +kernel
theorem dX12_law_28 : decode cX12_law 28 = .ok (.ireturn, 1) := by decide +kernel
theorem dX12_law_29 : decode cX12_law 29 = .ok (.iload_n 1, 1) := by decide +kernel
theorem dX12_law_30 : decode cX12_law 30 = .ok (.iload_n 2, 1) := by decide +kernel
theorem dX12_law_31 : decode cX12_law 31 = .ok (.if_icmp .ne 21, 3) := by decide +kernel
theorem dX12_law_34 : decode cX12_law 34 = .ok (.aload_n 0, 1) := by decide +kernel
theorem dX12_law_35 : decode cX12_law 35 = .ok (.aload_n 0, 1) := by decide +kernel
theorem dX12_law_36 : decode cX12_law 36 = .ok (.getfield 7, 3) := by decide +kernel
theorem dX12_law_39 : decode cX12_law 39 = .ok (.iconst 2, 1) := by decide +kernel
theorem dX12_law_40 : decode cX12_law 40 = .ok (.iaload, 1) := by decide +kernel
theorem dX12_law_41 : decode cX12_law 41 = .ok (.aload_n 0, 1) := by decide +kernel
theorem dX12_law_42 : decode cX12_law 42 = .ok (.iload_n 1, 1) := by decide +kernel
theorem dX12_law_43 : decode cX12_law 43 = .ok (.invokevirtual 278, 3) := by decide +kernel
theorem dX12_law_46 : decode cX12_law 46 = .ok (.invokevirtual 340, 3) := by decide +kernel
theorem dX12_law_49 : decode cX12_law 49 = .ok (.goto 14, 3) := by decide +kernel
theorem dX12_law_52 : decode cX12_law 52 = .ok (.aload_n 0, 1) := by decide +kernel
theorem dX12_law_53 : decode cX12_law 53 = .ok (.aload_n 0, 1) := by decide +kernel
theorem dX12_law_54 : decode cX12_law 54 = .ok (.iload_n 1, 1) := by decide +kernel
theorem dX12_law_55 : decode cX12_law 55 = .ok (.invokevirtual 278, 3) := by decide +kernel
theorem dX12_law_58 : decode cX12_law 58 = .ok (.iload_n 1, 1) := by decide +kernel
theorem dX12_law_59 : decode cX12_law 59 = .ok (.iload_n 2, 1) := by decide +kernel
theorem dX12_law_60 : decode cX12_law 60 = .ok (.invokevirtual 333, 3) := by decide +kernel
theorem dX12_law_63 : decode cX12_law 63 = .ok (.ireturn, 1) := by decide +kernel
theorem dX12_is_0 : decode cX12_is 0 = .ok (.iload_n 1, 1) := by decide +kernel
theorem dX12_is_1 : decode cX12_is 1 = .ok (.iconst 0, 1) := by decide +kernel
theorem dX12_is_2 : decode cX12_is 2 = .ok (.iconst 3, 1) := by decide +kernel
theorem dX12_is_3 : decode cX12_is 3 = .ok (.invokestatic 78, 3) := by decide +kernel
theorem dX12_is_6 : decode cX12_is 6 = .ok (.ifCond .eq 15, 3) := by decide +kernel
theorem dX12_is_9 : decode cX12_is 9 = .ok (.aload_n 0, 1) := by decide +kernel
theorem dX12_is_10 : decode cX12_is 10 = .ok (.getfield 7, 3) := by decide +kernel
theorem dX12_is_13 : decode cX12_is 13 = .ok (.bipush 7, 2) := by decide +kernel
theorem dX12_is_15 : decode cX12_is 15 = .ok (.iload_n 1, 1) := by decide +kernel
theorem dX12_is_16 : decode cX12_is 16 = .ok (.iadd, 1) := by decide +kernel
theorem dX12_is_17 : decode cX12_is 17 = .ok (.iaload, 1) := by decide +kernel
theorem dX12_is_18 : decode cX12_is 18 = .ok (.goto 20, 3) := by decide +kernel
theorem dX12_is_21 : decode cX12_is 21 = .ok (.iload_n 1, 1) := by decide +kernel
theorem dX12_is_22 : decode cX12_is 22 = .ok (.iconst 4, 1) := by decide +kernel
theorem dX12_is_23 : decode cX12_is 23 = .ok (.if_icmp .ne 13, 3) := by decide +kernel
theorem dX12_is_26 : decode cX12_is 26 = .ok (.aload_n 0, 1) := by decide +kernel
theorem dX12_is_27 : decode cX12_is 27 = .ok (.getfield 7, 3) := by decide +kernel
theorem dX12_is_30 : decode cX12_is 30 = .ok (.bipush 30, 2) := by decide +kernel
theorem dX12_is_32 : decode cX12_is 32 = .ok (.iaload, 1) := by decide +kernel
theorem dX12_is_33 : decode cX12_is 33 = .ok (.goto 5, 3) := by decide +kernel
theorem dX12_is_36 : decode cX12_is 36 = .ok (.bipush (-2), 2) := by decide +kernel
theorem dX12_is_38 : decode cX12_is 38 = .ok (.ireturn, 1) := by decide +kernel
theorem dX12_entry_0 : decode cX12_entry 0 = .ok (.aload_n 0, 1) := by decide +kernel
theorem dX12_entry_1 : decode cX12_entry 1 = .ok (.getfield 7, 3) := by decide +kernel
theorem dX12_entry_4 : decode cX12_entry 4 = .ok (.sipush 1924, 3) := by decide +kernel
theorem dX12_entry_7 : decode cX12_entry 7 = .ok (.iload_n 1, 1) := by decide +kernel
theorem dX12_entry_8 : decode cX12_entry 8 = .ok (.iadd, 1) := by decide +kernel
theorem dX12_entry_9 : decode cX12_entry 9 = .ok (.iaload, 1) := by decide +kernel
theorem dX12_entry_10 : decode cX12_entry 10 = .ok (.istore_n 3, 1) := by decide +kernel
theorem dX12_entry_11 : decode cX12_entry 11 = .ok (.iload_n 2, 1) := by decide +kernel
theorem dX12_entry_12 : decode cX12_entry 12 = .ok (.ifCond .ne 10, 3) := by decide +kernel
theorem dX12_entry_15 : decode cX12_entry 15 = .ok (.iload_n 3, 1) := by decide +kernel
theorem dX12_entry_16 : decode cX12_entry 16 = .ok (.bipush 54, 2) := by decide +kernel
theorem dX12_entry_18 : decode cX12_entry 18 = .ok (.idiv, 1) := by decide +kernel
theorem dX12_entry_19 : decode cX12_entry 19 = .ok (.goto 36, 3) := by decide +kernel
theorem dX12_entry_22 : decode cX12_entry 22 = .ok (.iload_n 2, 1) := by decide +kernel
theorem dX12_entry_23 : decode cX12_entry 23 = .ok (.iconst 1, 1) := by decide +kernel
theorem dX12_entry_24 : decode cX12_entry 24 = .ok (.if_icmp .ne 15, 3) := by decide +kernel
theorem dX12_entry_27 : decode cX12_entry 27 = .ok (.iload_n 3, 1) := by decide +kernel
theorem dX12_entry_28 : decode cX12_entry 28 = .ok (.bipush 9, 2) := by decide +kernel
theorem dX12_entry_30 : decode cX12_entry 30 = .ok (.idiv, 1) := by decide +kernel
theorem dX12_entry_31 : decode cX12_entry 31 = .ok (.bipush 6, 2) := by decide +kernel
theorem dX12_entry_33 : decode cX12_entry 33 = .ok (.irem, 1) := by decide +kernel
theorem dX12_entry_34 : decode cX12_entry 34 = .ok (.iconst 1, 1) := by decide +kernel
theorem dX12_entry_35 : decode cX12_entry 35 = .ok (.isub, 1) := by decide +kernel
theorem dX12_entry_36 : decode cX12_entry 36 = .ok (.goto 19, 3) := by decide +kernel
theorem dX12_entry_39 : decode cX12_entry 39 = .ok (.iload_n 2, 1) := by decide +kernel
theorem dX12_entry_40 : decode cX12_entry 40 = .ok (.iconst 2, 1) := by decide +kernel
theorem dX12_entry_41 : decode cX12_entry 41 = .ok (.if_icmp .ne 11, 3) := by decide +kernel
theorem dX12_entry_44 : decode cX12_entry 44 = .ok (.iload_n 3, 1) := by decide +kernel
theorem dX12_entry_45 : decode cX12_entry 45 = .ok (.iconst 3, 1) := by decide +kernel
theorem dX12_entry_46 : decode cX12_entry 46 = .ok (.idiv, 1) := by decide +kernel
theorem dX12_entry_47 : decode cX12_entry 47 = .ok (.iconst 3, 1) := by decide +kernel
theorem dX12_entry_48 : decode cX12_entry 48 = .ok (.irem, 1) := by decide +kernel
theorem dX12_entry_49 : decode cX12_entry 49 = .ok (.goto 6, 3) := by decide +kernel
theorem dX12_entry_52 : decode cX12_entry 52 = .ok (.iload_n 3, 1) := by decide +kernel
theorem dX12_entry_53 : decode cX12_entry 53 = .ok (.iconst 3, 1) := by decide +kernel
theorem dX12_entry_54 : decode cX12_entry 54 = .ok (.irem, 1) := by decide +kernel
theorem dX12_entry_55 : decode cX12_entry 55 = .ok (.ireturn, 1) := by decide +kernel
theorem dX12_book_0 : decode cX12_book 0 = .ok (.iload_n 1, 1) := by decide +kernel
theorem dX12_book_1 : decode cX12_book 1 = .ok (.iconst (-1), 1) := by decide +kernel
theorem dX12_book_2 : decode cX12_book 2 = .ok (.if_icmp .ne 11, 3) := by decide +kernel
theorem dX12_book_5 : decode cX12_book 5 = .ok (.aload_n 0, 1) := by decide +kernel
theorem dX12_book_6 : decode cX12_book 6 = .ok (.getfield 7, 3) := by decide +kernel
theorem dX12_book_9 : decode cX12_book 9 = .ok (.bipush 11, 2) := by decide +kernel
theorem dX12_book_11 : decode cX12_book 11 = .ok (.iaload, 1) := by decide +kernel
theorem dX12_book_12 : decode cX12_book 12 = .ok (.ireturn, 1) := by decide +kernel
theorem dX12_book_13 : decode cX12_book 13 = .ok (.iload_n 1, 1) := by decide +kernel
theorem dX12_book_14 : decode cX12_book 14 = .ok (.iconst 0, 1) := by decide +kernel
theorem dX12_book_15 : decode cX12_book 15 = .ok (.aload_n 0, 1) := by decide +kernel
theorem dX12_book_16 : decode cX12_book 16 = .ok (.getfield 7, 3) := by decide +kernel
theorem dX12_book_19 : decode cX12_book 19 = .ok (.bipush 11, 2) := by decide +kernel
theorem dX12_book_21 : decode cX12_book 21 = .ok (.iaload, 1) := by decide +kernel
theorem dX12_book_22 : decode cX12_book 22 = .ok (.iconst 1, 1) := by decide +kernel
theorem dX12_book_23 : decode cX12_book 23 = .ok (.isub, 1) := by decide +kernel
theorem dX12_book_24 : decode cX12_book 24 = .ok (.invokestatic 78, 3) := by decide +kernel
theorem dX12_book_27 : decode cX12_book 27 = .ok (.ifCond .eq 21, 3) := by decide +kernel
theorem dX12_book_30 : decode cX12_book 30 = .ok (.iload_n 2, 1) := by decide +kernel
theorem dX12_book_31 : decode cX12_book 31 = .ok (.iconst 0, 1) := by decide +kernel
theorem dX12_book_32 : decode cX12_book 32 = .ok (.iconst 3, 1) := by decide +kernel
theorem dX12_book_33 : decode cX12_book 33 = .ok (.invokestatic 78, 3) := by decide +kernel
theorem dX12_book_36 : decode cX12_book 36 = .ok (.ifCond .eq 12, 3) := by decide +kernel
theorem dX12_book_39 : decode cX12_book 39 = .ok (.aload_n 0, 1) := by decide +kernel
theorem dX12_book_40 : decode cX12_book 40 = .ok (.iload_n 1, 1) := by decide +kernel
theorem dX12_book_41 : decode cX12_book 41 = .ok (.iload_n 2, 1) := by decide +kernel
theorem dX12_book_42 : decode cX12_book 42 = .ok (.invokevirtual 398, 3) := by decide +kernel
theorem dX12_book_45 : decode cX12_book 45 = .ok (.goto 5, 3) := by decide +kernel
theorem dX12_book_48 : decode cX12_book 48 = .ok (.bipush (-2), 2) := by decide +kernel
theorem dX12_book_50 : decode cX12_book 50 = .ok (.ireturn, 1) := by decide +kernel
theorem dX12_ledger_0 : decode cX12_ledger 0 = .ok (.iload_n 1, 1) := by decide +kernel
theorem dX12_ledger_1 : decode cX12_ledger 1 = .ok (.iconst 0, 1) := by decide +kernel
theorem dX12_ledger_2 : decode cX12_ledger 2 = .ok (.iconst 2, 1) := by decide +kernel
theorem dX12_ledger_3 : decode cX12_ledger 3 = .ok (.invokestatic 78, 3) := by decide +kernel
theorem dX12_ledger_6 : decode cX12_ledger 6 = .ok (.ifCond .ne 6, 3) := by decide +kernel
theorem dX12_ledger_9 : decode cX12_ledger 9 = .ok (.bipush (-2), 2) := by decide +kernel
theorem dX12_ledger_11 : decode cX12_ledger 11 = .ok (.ireturn, 1) := by decide +kernel
theorem dX12_ledger_12 : decode cX12_ledger 12 = .ok (.iconst 0, 1) := by decide +kernel
theorem dX12_ledger_13 : decode cX12_ledger 13 = .ok (.istore_n 2, 1) := by decide +kernel
theorem dX12_ledger_14 : decode cX12_ledger 14 = .ok (.iconst 0, 1) := by decide +kernel
theorem dX12_ledger_15 : decode cX12_ledger 15 = .ok (.istore_n 3, 1) := by decide +kernel
theorem dX12_ledger_16 : decode cX12_ledger 16 = .ok (.iload_n 3, 1) := by decide +kernel
theorem dX12_ledger_17 : decode cX12_ledger 17 = .ok (.aload_n 0, 1) := by decide +kernel
theorem dX12_ledger_18 : decode cX12_ledger 18 = .ok (.getfield 7, 3) := by decide +kernel
theorem dX12_ledger_21 : decode cX12_ledger 21 = .ok (.bipush 11, 2) := by decide +kernel
theorem dX12_ledger_23 : decode cX12_ledger 23 = .ok (.iaload, 1) := by decide +kernel
theorem dX12_ledger_24 : decode cX12_ledger 24 = .ok (.if_icmp .ge 27, 3) := by decide +kernel
theorem dX12_ledger_27 : decode cX12_ledger 27 = .ok (.iload_n 2, 1) := by decide +kernel
theorem dX12_ledger_28 : decode cX12_ledger 28 = .ok (.aload_n 0, 1) := by decide +kernel
theorem dX12_ledger_29 : decode cX12_ledger 29 = .ok (.iload_n 3, 1) := by decide +kernel
theorem dX12_ledger_30 : decode cX12_ledger 30 = .ok (.iconst 2, 1) := by decide +kernel
theorem dX12_ledger_31 : decode cX12_ledger 31 = .ok (.invokevirtual 398, 3) := by decide +kernel
theorem dX12_ledger_34 : decode cX12_ledger 34 = .ok (.iload_n 1, 1) := by decide +kernel
theorem dX12_ledger_35 : decode cX12_ledger 35 = .ok (.if_icmp .ne 7, 3) := by decide +kernel
theorem dX12_ledger_38 : decode cX12_ledger 38 = .ok (.iconst 1, 1) := by decide +kernel
theorem dX12_ledger_39 : decode cX12_ledger 39 = .ok (.goto 4, 3) := by decide +kernel
theorem dX12_ledger_42 : decode cX12_ledger 42 = .ok (.iconst 0, 1) := by decide +kernel
theorem dX12_ledger_43 : decode cX12_ledger 43 = .ok (.iadd, 1) := by decide +kernel
theorem dX12_ledger_44 : decode cX12_ledger 44 = .ok (.istore_n 2, 1) := by decide +kernel
theorem dX12_ledger_45 : decode cX12_ledger 45 = .ok (.iinc 3 1, 3) := by decide +kernel
theorem dX12_ledger_48 : decode cX12_ledger 48 = .ok (.goto (-32), 3) := by decide +kernel
theorem dX12_ledger_51 : decode cX12_ledger 51 = .ok (.iload_n 2, 1) := by decide +kernel
theorem dX12_ledger_52 : decode cX12_ledger 52 = .ok (.ireturn, 1) := by decide +kernel
theorem dX12_loadOf_0 : decode cX12_loadOf 0 = .ok (.iconst 0, 1) := by decide +kernel
theorem dX12_loadOf_1 : decode cX12_loadOf 1 = .ok (.istore_n 2, 1) := by decide +kernel
theorem dX12_loadOf_2 : decode cX12_loadOf 2 = .ok (.iconst 0, 1) := by decide +kernel
theorem dX12_loadOf_3 : decode cX12_loadOf 3 = .ok (.istore_n 3, 1) := by decide +kernel
theorem dX12_loadOf_4 : decode cX12_loadOf 4 = .ok (.iload_n 3, 1) := by decide +kernel
theorem dX12_loadOf_5 : decode cX12_loadOf 5 = .ok (.aload_n 0, 1) := by decide +kernel
theorem dX12_loadOf_6 : decode cX12_loadOf 6 = .ok (.getfield 7, 3) := by decide +kernel
theorem dX12_loadOf_9 : decode cX12_loadOf 9 = .ok (.bipush 12, 2) := by decide +kernel
theorem dX12_loadOf_11 : decode cX12_loadOf 11 = .ok (.iload_n 1, 1) := by decide +kernel
theorem dX12_loadOf_12 : decode cX12_loadOf 12 = .ok (.iadd, 1) := by decide +kernel
theorem dX12_loadOf_13 : decode cX12_loadOf 13 = .ok (.iaload, 1) := by decide +kernel
theorem dX12_loadOf_14 : decode cX12_loadOf 14 = .ok (.if_icmp .ge 26, 3) := by decide +kernel
theorem dX12_loadOf_17 : decode cX12_loadOf 17 = .ok (.iload_n 2, 1) := by decide +kernel
theorem dX12_loadOf_18 : decode cX12_loadOf 18 = .ok (.aload_n 0, 1) := by decide +kernel
theorem dX12_loadOf_19 : decode cX12_loadOf 19 = .ok (.getfield 7, 3) := by decide +kernel
theorem dX12_loadOf_22 : decode cX12_loadOf 22 = .ok (.bipush 41, 2) := by decide +kernel
theorem dX12_loadOf_24 : decode cX12_loadOf 24 = .ok (.aload_n 0, 1) := by decide +kernel
theorem dX12_loadOf_25 : decode cX12_loadOf 25 = .ok (.iload_n 1, 1) := by decide +kernel
theorem dX12_loadOf_26 : decode cX12_loadOf 26 = .ok (.iload_n 3, 1) := by decide +kernel
theorem dX12_loadOf_27 : decode cX12_loadOf 27 = .ok (.invokevirtual 82, 3) := by decide +kernel
theorem dX12_loadOf_30 : decode cX12_loadOf 30 = .ok (.iadd, 1) := by decide +kernel
theorem dX12_loadOf_31 : decode cX12_loadOf 31 = .ok (.iaload, 1) := by decide +kernel
theorem dX12_loadOf_32 : decode cX12_loadOf 32 = .ok (.iadd, 1) := by decide +kernel
theorem dX12_loadOf_33 : decode cX12_loadOf 33 = .ok (.istore_n 2, 1) := by decide +kernel
theorem dX12_loadOf_34 : decode cX12_loadOf 34 = .ok (.iinc 3 1, 3) := by decide +kernel
theorem dX12_loadOf_37 : decode cX12_loadOf 37 = .ok (.goto (-33), 3) := by decide +kernel
theorem dX12_loadOf_40 : decode cX12_loadOf 40 = .ok (.iload_n 2, 1) := by decide +kernel
theorem dX12_loadOf_41 : decode cX12_loadOf 41 = .ok (.ireturn, 1) := by decide +kernel
theorem dX12_heaviest_0 : decode cX12_heaviest 0 = .ok (.iconst (-1), 1) := by decide +kernel
theorem dX12_heaviest_1 : decode cX12_heaviest 1 = .ok (.istore_n 1, 1) := by decide +kernel
theorem dX12_heaviest_2 : decode cX12_heaviest 2 = .ok (.iconst 0, 1) := by decide +kernel
theorem dX12_heaviest_3 : decode cX12_heaviest 3 = .ok (.istore_n 2, 1) := by decide +kernel
theorem dX12_heaviest_4 : decode cX12_heaviest 4 = .ok (.iload_n 2, 1) := by decide +kernel
theorem dX12_heaviest_5 : decode cX12_heaviest 5 = .ok (.iconst 3, 1) := by decide +kernel
theorem dX12_heaviest_6 : decode cX12_heaviest 6 = .ok (.if_icmp .ge 33, 3) := by decide +kernel
theorem dX12_heaviest_9 : decode cX12_heaviest 9 = .ok (.aload_n 0, 1) := by decide +kernel
theorem dX12_heaviest_10 : decode cX12_heaviest 10 = .ok (.iload_n 2, 1) := by decide +kernel
theorem dX12_heaviest_11 : decode cX12_heaviest 11 = .ok (.invokevirtual 401, 3) := by decide +kernel
theorem dX12_heaviest_14 : decode cX12_heaviest 14 = .ok (.iload_n 1, 1) := by decide +kernel
theorem dX12_heaviest_15 : decode cX12_heaviest 15 = .ok (.iconst (-1), 1) := by decide +kernel
theorem dX12_heaviest_16 : decode cX12_heaviest 16 = .ok (.if_icmp .ne 7, 3) := by decide +kernel
theorem dX12_heaviest_19 : decode cX12_heaviest 19 = .ok (.iconst 0, 1) := by decide +kernel
theorem dX12_heaviest_20 : decode cX12_heaviest 20 = .ok (.goto 8, 3) := by decide +kernel
theorem dX12_heaviest_23 : decode cX12_heaviest 23 = .ok (.aload_n 0, 1) := by decide +kernel
theorem dX12_heaviest_24 : decode cX12_heaviest 24 = .ok (.iload_n 1, 1) := by decide +kernel
theorem dX12_heaviest_25 : decode cX12_heaviest 25 = .ok (.invokevirtual 401, 3) := by decide +kernel
theorem dX12_heaviest_28 : decode cX12_heaviest 28 = .ok (.if_icmp .le 5, 3) := by decide +kernel
theorem dX12_heaviest_31 : decode cX12_heaviest 31 = .ok (.iload_n 2, 1) := by decide +kernel
theorem dX12_heaviest_32 : decode cX12_heaviest 32 = .ok (.istore_n 1, 1) := by decide +kernel
theorem dX12_heaviest_33 : decode cX12_heaviest 33 = .ok (.iinc 2 1, 3) := by decide +kernel
theorem dX12_heaviest_36 : decode cX12_heaviest 36 = .ok (.goto (-32), 3) := by decide +kernel
theorem dX12_heaviest_39 : decode cX12_heaviest 39 = .ok (.iload_n 1, 1) := by decide +kernel
theorem dX12_heaviest_40 : decode cX12_heaviest 40 = .ok (.ireturn, 1) := by decide +kernel
theorem dX12_worn_0 : decode cX12_worn 0 = .ok (.iconst (-1), 1) := by decide +kernel
theorem dX12_worn_1 : decode cX12_worn 1 = .ok (.istore_n 1, 1) := by decide +kernel
theorem dX12_worn_2 : decode cX12_worn 2 = .ok (.iconst 0, 1) := by decide +kernel
theorem dX12_worn_3 : decode cX12_worn 3 = .ok (.istore_n 2, 1) := by decide +kernel
theorem dX12_worn_4 : decode cX12_worn 4 = .ok (.iload_n 2, 1) := by decide +kernel
theorem dX12_worn_5 : decode cX12_worn 5 = .ok (.aload_n 0, 1) := by decide +kernel
theorem dX12_worn_6 : decode cX12_worn 6 = .ok (.getfield 7, 3) := by decide +kernel
theorem dX12_worn_9 : decode cX12_worn 9 = .ok (.iconst 0, 1) := by decide +kernel
theorem dX12_worn_10 : decode cX12_worn 10 = .ok (.iaload, 1) := by decide +kernel
theorem dX12_worn_11 : decode cX12_worn 11 = .ok (.if_icmp .ge 41, 3) := by decide +kernel
theorem dX12_worn_14 : decode cX12_worn 14 = .ok (.aload_n 0, 1) := by decide +kernel
theorem dX12_worn_15 : decode cX12_worn 15 = .ok (.getfield 7, 3) := by decide +kernel
theorem dX12_worn_18 : decode cX12_worn 18 = .ok (.bipush 31, 2) := by decide +kernel
theorem dX12_worn_20 : decode cX12_worn 20 = .ok (.iload_n 2, 1) := by decide +kernel
theorem dX12_worn_21 : decode cX12_worn 21 = .ok (.iadd, 1) := by decide +kernel
theorem dX12_worn_22 : decode cX12_worn 22 = .ok (.iaload, 1) := by decide +kernel
theorem dX12_worn_23 : decode cX12_worn 23 = .ok (.iload_n 1, 1) := by decide +kernel
theorem dX12_worn_24 : decode cX12_worn 24 = .ok (.iconst (-1), 1) := by decide +kernel
theorem dX12_worn_25 : decode cX12_worn 25 = .ok (.if_icmp .ne 7, 3) := by decide +kernel
theorem dX12_worn_28 : decode cX12_worn 28 = .ok (.iconst 0, 1) := by decide +kernel
theorem dX12_worn_29 : decode cX12_worn 29 = .ok (.goto 12, 3) := by decide +kernel
theorem dX12_worn_32 : decode cX12_worn 32 = .ok (.aload_n 0, 1) := by decide +kernel
theorem dX12_worn_33 : decode cX12_worn 33 = .ok (.getfield 7, 3) := by decide +kernel
theorem dX12_worn_36 : decode cX12_worn 36 = .ok (.bipush 31, 2) := by decide +kernel
theorem dX12_worn_38 : decode cX12_worn 38 = .ok (.iload_n 1, 1) := by decide +kernel
theorem dX12_worn_39 : decode cX12_worn 39 = .ok (.iadd, 1) := by decide +kernel
theorem dX12_worn_40 : decode cX12_worn 40 = .ok (.iaload, 1) := by decide +kernel
theorem dX12_worn_41 : decode cX12_worn 41 = .ok (.if_icmp .le 5, 3) := by decide +kernel
theorem dX12_worn_44 : decode cX12_worn 44 = .ok (.iload_n 2, 1) := by decide +kernel
theorem dX12_worn_45 : decode cX12_worn 45 = .ok (.istore_n 1, 1) := by decide +kernel
theorem dX12_worn_46 : decode cX12_worn 46 = .ok (.iinc 2 1, 3) := by decide +kernel
theorem dX12_worn_49 : decode cX12_worn 49 = .ok (.goto (-45), 3) := by decide +kernel
theorem dX12_worn_52 : decode cX12_worn 52 = .ok (.iload_n 1, 1) := by decide +kernel
theorem dX12_worn_53 : decode cX12_worn 53 = .ok (.ireturn, 1) := by decide +kernel
theorem dX12_amiss_0 : decode cX12_amiss 0 = .ok (.iconst 0, 1) := by decide +kernel
theorem dX12_amiss_1 : decode cX12_amiss 1 = .ok (.istore_n 1, 1) := by decide +kernel
theorem dX12_amiss_2 : decode cX12_amiss 2 = .ok (.iconst 0, 1) := by decide +kernel
theorem dX12_amiss_3 : decode cX12_amiss 3 = .ok (.istore_n 2, 1) := by decide +kernel
theorem dX12_amiss_4 : decode cX12_amiss 4 = .ok (.iload_n 2, 1) := by decide +kernel
theorem dX12_amiss_5 : decode cX12_amiss 5 = .ok (.iconst 3, 1) := by decide +kernel
theorem dX12_amiss_6 : decode cX12_amiss 6 = .ok (.if_icmp .ge 59, 3) := by decide +kernel
theorem dX12_amiss_9 : decode cX12_amiss 9 = .ok (.iconst 1, 1) := by decide +kernel
theorem dX12_amiss_10 : decode cX12_amiss 10 = .ok (.istore_n 3, 1) := by decide +kernel
theorem dX12_amiss_11 : decode cX12_amiss 11 = .ok (.iload_n 3, 1) := by decide +kernel
theorem dX12_amiss_12 : decode cX12_amiss 12 = .ok (.aload_n 0, 1) := by decide +kernel
theorem dX12_amiss_13 : decode cX12_amiss 13 = .ok (.getfield 7, 3) := by decide +kernel
theorem dX12_amiss_16 : decode cX12_amiss 16 = .ok (.bipush 12, 2) := by decide +kernel
theorem dX12_amiss_18 : decode cX12_amiss 18 = .ok (.iload_n 2, 1) := by decide +kernel
theorem dX12_amiss_19 : decode cX12_amiss 19 = .ok (.iadd, 1) := by decide +kernel
theorem dX12_amiss_20 : decode cX12_amiss 20 = .ok (.iaload, 1) := by decide +kernel
theorem dX12_amiss_21 : decode cX12_amiss 21 = .ok (.if_icmp .ge 38, 3) := by decide +kernel
theorem dX12_amiss_24 : decode cX12_amiss 24 = .ok (.iload_n 1, 1) := by decide +kernel
theorem dX12_amiss_25 : decode cX12_amiss 25 = .ok (.aload_n 0, 1) := by decide +kernel
theorem dX12_amiss_26 : decode cX12_amiss 26 = .ok (.aload_n 0, 1) := by decide +kernel
theorem dX12_amiss_27 : decode cX12_amiss 27 = .ok (.iload_n 2, 1) := by decide +kernel
theorem dX12_amiss_28 : decode cX12_amiss 28 = .ok (.iload_n 3, 1) := by decide +kernel
theorem dX12_amiss_29 : decode cX12_amiss 29 = .ok (.iconst 1, 1) := by decide +kernel
theorem dX12_amiss_30 : decode cX12_amiss 30 = .ok (.isub, 1) := by decide +kernel
theorem dX12_amiss_31 : decode cX12_amiss 31 = .ok (.invokevirtual 82, 3) := by decide +kernel
theorem dX12_amiss_34 : decode cX12_amiss 34 = .ok (.aload_n 0, 1) := by decide +kernel
theorem dX12_amiss_35 : decode cX12_amiss 35 = .ok (.iload_n 2, 1) := by decide +kernel
theorem dX12_amiss_36 : decode cX12_amiss 36 = .ok (.iload_n 3, 1) := by decide +kernel
theorem dX12_amiss_37 : decode cX12_amiss 37 = .ok (.invokevirtual 82, 3) := by decide +kernel
theorem dX12_amiss_40 : decode cX12_amiss 40 = .ok (.invokevirtual 330, 3) := by decide +kernel
theorem dX12_amiss_43 : decode cX12_amiss 43 = .ok (.ifCond .eq 7, 3) := by decide +kernel
theorem dX12_amiss_46 : decode cX12_amiss 46 = .ok (.iconst 1, 1) := by decide +kernel
theorem dX12_amiss_47 : decode cX12_amiss 47 = .ok (.goto 4, 3) := by decide +kernel
theorem dX12_amiss_50 : decode cX12_amiss 50 = .ok (.iconst 0, 1) := by decide +kernel
theorem dX12_amiss_51 : decode cX12_amiss 51 = .ok (.iadd, 1) := by decide +kernel
theorem dX12_amiss_52 : decode cX12_amiss 52 = .ok (.istore_n 1, 1) := by decide +kernel
theorem dX12_amiss_53 : decode cX12_amiss 53 = .ok (.iinc 3 1, 3) := by decide +kernel
theorem dX12_amiss_56 : decode cX12_amiss 56 = .ok (.goto (-45), 3) := by decide +kernel
theorem dX12_amiss_59 : decode cX12_amiss 59 = .ok (.iinc 2 1, 3) := by decide +kernel
theorem dX12_amiss_62 : decode cX12_amiss 62 = .ok (.goto (-58), 3) := by decide +kernel
theorem dX12_amiss_65 : decode cX12_amiss 65 = .ok (.iload_n 1, 1) := by decide +kernel
theorem dX12_amiss_66 : decode cX12_amiss 66 = .ok (.ireturn, 1) := by decide +kernel
theorem dX12_foretold_0 : decode cX12_foretold 0 = .ok (.iload_n 1, 1) := by decide +kernel
theorem dX12_foretold_1 : decode cX12_foretold 1 = .ok (.iconst 1, 1) := by decide +kernel
theorem dX12_foretold_2 : decode cX12_foretold 2 = .ok (.bipush 60, 2) := by decide +kernel
theorem dX12_foretold_4 : decode cX12_foretold 4 = .ok (.invokestatic 78, 3) := by decide +kernel
theorem dX12_foretold_7 : decode cX12_foretold 7 = .ok (.ifCond .eq 12, 3) := by decide +kernel
theorem dX12_foretold_10 : decode cX12_foretold 10 = .ok (.iload_n 2, 1) := by decide +kernel
theorem dX12_foretold_11 : decode cX12_foretold 11 = .ok (.iconst 0, 1) := by decide +kernel
theorem dX12_foretold_12 : decode cX12_foretold 12 = .ok (.iconst 2, 1) := by decide +kernel
theorem dX12_foretold_13 : decode cX12_foretold 13 = .ok (.invokestatic 78, 3) := by decide +kernel
theorem dX12_foretold_16 : decode cX12_foretold 16 = .ok (.ifCond .ne 5, 3) := by decide +kernel
theorem dX12_foretold_19 : decode cX12_foretold 19 = .ok (.iconst (-1), 1) := by decide +kernel
theorem dX12_foretold_20 : decode cX12_foretold 20 = .ok (.ireturn, 1) := by decide +kernel
theorem dX12_foretold_21 : decode cX12_foretold 21 = .ok (.bipush 7, 2) := by decide +kernel
theorem dX12_foretold_23 : decode cX12_foretold 23 = .ok (.istore_n 3, 1) := by decide +kernel
theorem dX12_foretold_24 : decode cX12_foretold 24 = .ok (.iload_n 3, 1) := by decide +kernel
theorem dX12_foretold_25 : decode cX12_foretold 25 = .ok (.bipush 36, 2) := by decide +kernel
theorem dX12_foretold_27 : decode cX12_foretold 27 = .ok (.if_icmp .ge 21, 3) := by decide +kernel
theorem dX12_foretold_30 : decode cX12_foretold 30 = .ok (.aload_n 0, 1) := by decide +kernel
theorem dX12_foretold_31 : decode cX12_foretold 31 = .ok (.getfield 47, 3) := by decide +kernel
theorem dX12_foretold_34 : decode cX12_foretold 34 = .ok (.iload_n 3, 1) := by decide +kernel
theorem dX12_foretold_35 : decode cX12_foretold 35 = .ok (.aload_n 0, 1) := by decide +kernel
theorem dX12_foretold_36 : decode cX12_foretold 36 = .ok (.getfield 7, 3) := by decide +kernel
theorem dX12_foretold_39 : decode cX12_foretold 39 = .ok (.iload_n 3, 1) := by decide +kernel
theorem dX12_foretold_40 : decode cX12_foretold 40 = .ok (.iaload, 1) := by decide +kernel
theorem dX12_foretold_41 : decode cX12_foretold 41 = .ok (.iastore, 1) := by decide +kernel
theorem dX12_foretold_42 : decode cX12_foretold 42 = .ok (.iinc 3 1, 3) := by decide +kernel
theorem dX12_foretold_45 : decode cX12_foretold 45 = .ok (.goto (-21), 3) := by decide +kernel
theorem dX12_foretold_48 : decode cX12_foretold 48 = .ok (.aload_n 0, 1) := by decide +kernel
theorem dX12_foretold_49 : decode cX12_foretold 49 = .ok (.iconst 0, 1) := by decide +kernel
theorem dX12_foretold_50 : decode cX12_foretold 50 = .ok (.putfield 43, 3) := by decide +kernel
theorem dX12_foretold_53 : decode cX12_foretold 53 = .ok (.iconst 0, 1) := by decide +kernel
theorem dX12_foretold_54 : decode cX12_foretold 54 = .ok (.istore_n 3, 1) := by decide +kernel
theorem dX12_foretold_55 : decode cX12_foretold 55 = .ok (.iload_n 3, 1) := by decide +kernel
theorem dX12_foretold_56 : decode cX12_foretold 56 = .ok (.iload_n 1, 1) := by decide +kernel
theorem dX12_foretold_57 : decode cX12_foretold 57 = .ok (.if_icmp .ge 26, 3) := by decide +kernel
theorem dX12_foretold_60 : decode cX12_foretold 60 = .ok (.aload_n 0, 1) := by decide +kernel
theorem dX12_foretold_61 : decode cX12_foretold 61 = .ok (.getfield 7, 3) := by decide +kernel
theorem dX12_foretold_64 : decode cX12_foretold 64 = .ok (.bipush 7, 2) := by decide +kernel
theorem dX12_foretold_66 : decode cX12_foretold 66 = .ok (.iaload, 1) := by decide +kernel
theorem dX12_foretold_67 : decode cX12_foretold 67 = .ok (.sipush 9999, 3) := by decide +kernel
theorem dX12_foretold_70 : decode cX12_foretold 70 = .ok (.if_icmp .ge 7, 3) := by decide +kernel
theorem dX12_foretold_73 : decode cX12_foretold 73 = .ok (.aload_n 0, 1) := by decide +kernel
theorem dX12_foretold_74 : decode cX12_foretold 74 = .ok (.invokevirtual 367, 3) := by decide +kernel
theorem dX12_foretold_77 : decode cX12_foretold 77 = .ok (.iinc 3 1, 3) := by decide +kernel
theorem dX12_foretold_80 : decode cX12_foretold 80 = .ok (.goto (-25), 3) := by decide +kernel
theorem dX12_foretold_83 : decode cX12_foretold 83 = .ok (.iload_n 2, 1) := by decide +kernel
theorem dX12_foretold_84 : decode cX12_foretold 84 = .ok (.iconst 2, 1) := by decide +kernel
theorem dX12_foretold_85 : decode cX12_foretold 85 = .ok (.if_icmp .ge 15, 3) := by decide +kernel
theorem dX12_foretold_88 : decode cX12_foretold 88 = .ok (.aload_n 0, 1) := by decide +kernel
theorem dX12_foretold_89 : decode cX12_foretold 89 = .ok (.getfield 7, 3) := by decide +kernel
theorem dX12_foretold_92 : decode cX12_foretold 92 = .ok (.bipush 9, 2) := by decide +kernel
theorem dX12_foretold_94 : decode cX12_foretold 94 = .ok (.iload_n 2, 1) := by decide +kernel
theorem dX12_foretold_95 : decode cX12_foretold 95 = .ok (.iadd, 1) := by decide +kernel
theorem dX12_foretold_96 : decode cX12_foretold 96 = .ok (.iaload, 1) := by decide +kernel
theorem dX12_foretold_97 : decode cX12_foretold 97 = .ok (.goto 4, 3) := by decide +kernel
theorem dX12_foretold_100 : decode cX12_foretold 100 = .ok (.iconst 0, 1) := by decide +kernel
theorem dX12_foretold_101 : decode cX12_foretold 101 = .ok (.istore_n 3, 1) := by decide +kernel
theorem dX12_foretold_102 : decode cX12_foretold 102 = .ok (.iconst 0, 1) := by decide +kernel
theorem dX12_foretold_103 : decode cX12_foretold 103 = .ok (.istore 4, 2) := by decide +kernel
theorem dX12_foretold_105 : decode cX12_foretold 105 = .ok (.iload 4, 2) := by decide +kernel
theorem dX12_foretold_107 : decode cX12_foretold 107 = .ok (.iconst 5, 1) := by decide +kernel
theorem dX12_foretold_108 : decode cX12_foretold 108 = .ok (.if_icmp .ge 27, 3) := by decide +kernel
theorem dX12_foretold_111 : decode cX12_foretold 111 = .ok (.iload_n 2, 1) := by decide +kernel
theorem dX12_foretold_112 : decode cX12_foretold 112 = .ok (.iconst 2, 1) := by decide +kernel
theorem dX12_foretold_113 : decode cX12_foretold 113 = .ok (.if_icmp .ne 22, 3) := by decide +kernel
theorem dX12_foretold_116 : decode cX12_foretold 116 = .ok (.iload_n 3, 1) := by decide +kernel
theorem dX12_foretold_117 : decode cX12_foretold 117 = .ok (.aload_n 0, 1) := by decide +kernel
theorem dX12_foretold_118 : decode cX12_foretold 118 = .ok (.getfield 7, 3) := by decide +kernel
theorem dX12_foretold_121 : decode cX12_foretold 121 = .ok (.bipush 31, 2) := by decide +kernel
theorem dX12_foretold_123 : decode cX12_foretold 123 = .ok (.iload 4, 2) := by decide +kernel
theorem dX12_foretold_125 : decode cX12_foretold 125 = .ok (.iadd, 1) := by decide +kernel
theorem dX12_foretold_126 : decode cX12_foretold 126 = .ok (.iaload, 1) := by decide +kernel
theorem dX12_foretold_127 : decode cX12_foretold 127 = .ok (.iadd, 1) := by decide +kernel
theorem dX12_foretold_128 : decode cX12_foretold 128 = .ok (.istore_n 3, 1) := by decide +kernel
theorem dX12_foretold_129 : decode cX12_foretold 129 = .ok (.iinc 4 1, 3) := by decide +kernel
theorem dX12_foretold_132 : decode cX12_foretold 132 = .ok (.goto (-27), 3) := by decide +kernel
theorem dX12_foretold_135 : decode cX12_foretold 135 = .ok (.bipush 7, 2) := by decide +kernel
theorem dX12_foretold_137 : decode cX12_foretold 137 = .ok (.istore 4, 2) := by decide +kernel
theorem dX12_foretold_139 : decode cX12_foretold 139 = .ok (.iload 4, 2) := by decide +kernel
theorem dX12_foretold_141 : decode cX12_foretold 141 = .ok (.bipush 36, 2) := by decide +kernel
theorem dX12_foretold_143 : decode cX12_foretold 143 = .ok (.if_icmp .ge 23, 3) := by decide +kernel
theorem dX12_foretold_146 : decode cX12_foretold 146 = .ok (.aload_n 0, 1) := by decide +kernel
theorem dX12_foretold_147 : decode cX12_foretold 147 = .ok (.getfield 7, 3) := by decide +kernel
theorem dX12_foretold_150 : decode cX12_foretold 150 = .ok (.iload 4, 2) := by decide +kernel
theorem dX12_foretold_152 : decode cX12_foretold 152 = .ok (.aload_n 0, 1) := by decide +kernel
theorem dX12_foretold_153 : decode cX12_foretold 153 = .ok (.getfield 47, 3) := by decide +kernel
theorem dX12_foretold_156 : decode cX12_foretold 156 = .ok (.iload 4, 2) := by decide +kernel
theorem dX12_foretold_158 : decode cX12_foretold 158 = .ok (.iaload, 1) := by decide +kernel
theorem dX12_foretold_159 : decode cX12_foretold 159 = .ok (.iastore, 1) := by decide +kernel
theorem dX12_foretold_160 : decode cX12_foretold 160 = .ok (.iinc 4 1, 3) := by decide +kernel
theorem dX12_foretold_163 : decode cX12_foretold 163 = .ok (.goto (-24), 3) := by decide +kernel
theorem dX12_foretold_166 : decode cX12_foretold 166 = .ok (.aload_n 0, 1) := by decide +kernel
theorem dX12_foretold_167 : decode cX12_foretold 167 = .ok (.iconst 1, 1) := by decide +kernel
theorem dX12_foretold_168 : decode cX12_foretold 168 = .ok (.putfield 43, 3) := by decide +kernel
theorem dX12_foretold_171 : decode cX12_foretold 171 = .ok (.iload_n 3, 1) := by decide +kernel
theorem dX12_foretold_172 : decode cX12_foretold 172 = .ok (.ireturn, 1) := by decide +kernel
theorem dX12_factorial_0 : decode cX12_factorial 0 = .ok (.iconst 1, 1) := by decide +kernel
theorem dX12_factorial_1 : decode cX12_factorial 1 = .ok (.istore_n 1, 1) := by decide +kernel
theorem dX12_factorial_2 : decode cX12_factorial 2 = .ok (.iconst 2, 1) := by decide +kernel
theorem dX12_factorial_3 : decode cX12_factorial 3 = .ok (.istore_n 2, 1) := by decide +kernel
theorem dX12_factorial_4 : decode cX12_factorial 4 = .ok (.iload_n 2, 1) := by decide +kernel
theorem dX12_factorial_5 : decode cX12_factorial 5 = .ok (.iload_n 0, 1) := by decide +kernel
theorem dX12_factorial_6 : decode cX12_factorial 6 = .ok (.if_icmp .gt 13, 3) := by decide +kernel
theorem dX12_factorial_9 : decode cX12_factorial 9 = .ok (.iload_n 1, 1) := by decide +kernel
theorem dX12_factorial_10 : decode cX12_factorial 10 = .ok (.iload_n 2, 1) := by decide +kernel
theorem dX12_factorial_11 : decode cX12_factorial 11 = .ok (.imul, 1) := by decide +kernel
theorem dX12_factorial_12 : decode cX12_factorial 12 = .ok (.istore_n 1, 1) := by decide +kernel
theorem dX12_factorial_13 : decode cX12_factorial 13 = .ok (.iinc 2 1, 3) := by decide +kernel
theorem dX12_factorial_16 : decode cX12_factorial 16 = .ok (.goto (-12), 3) := by decide +kernel
theorem dX12_factorial_19 : decode cX12_factorial 19 = .ok (.iload_n 1, 1) := by decide +kernel
theorem dX12_factorial_20 : decode cX12_factorial 20 = .ok (.ireturn, 1) := by decide +kernel
theorem dX12_layRow_0 : decode cX12_layRow 0 = .ok (.iload_n 1, 1) := by decide +kernel
theorem dX12_layRow_1 : decode cX12_layRow 1 = .ok (.istore_n 2, 1) := by decide +kernel
theorem dX12_layRow_2 : decode cX12_layRow 2 = .ok (.iconst 0, 1) := by decide +kernel
theorem dX12_layRow_3 : decode cX12_layRow 3 = .ok (.istore_n 3, 1) := by decide +kernel
theorem dX12_layRow_4 : decode cX12_layRow 4 = .ok (.iconst 0, 1) := by decide +kernel
theorem dX12_layRow_5 : decode cX12_layRow 5 = .ok (.istore 4, 2) := by decide +kernel
theorem dX12_layRow_7 : decode cX12_layRow 7 = .ok (.iconst 4, 1) := by decide +kernel
theorem dX12_layRow_8 : decode cX12_layRow 8 = .ok (.istore 5, 2) := by decide +kernel
theorem dX12_layRow_10 : decode cX12_layRow 10 = .ok (.iload 5, 2) := by decide +kernel
theorem dX12_layRow_12 : decode cX12_layRow 12 = .ok (.ifCond .lt 101, 3) := by decide +kernel
theorem dX12_layRow_15 : decode cX12_layRow 15 = .ok (.iload_n 2, 1) := by decide +kernel
theorem dX12_layRow_16 : decode cX12_layRow 16 = .ok (.iload 5, 2) := by decide +kernel
theorem dX12_layRow_18 : decode cX12_layRow 18 = .ok (.invokestatic 404, 3) := by decide +kernel
theorem dX12_layRow_21 : decode cX12_layRow 21 = .ok (.idiv, 1) := by decide +kernel
theorem dX12_layRow_22 : decode cX12_layRow 22 = .ok (.istore 6, 2) := by decide +kernel
theorem dX12_layRow_24 : decode cX12_layRow 24 = .ok (.iload_n 2, 1) := by decide +kernel
theorem dX12_layRow_25 : decode cX12_layRow 25 = .ok (.iload 5, 2) := by decide +kernel
theorem dX12_layRow_27 : decode cX12_layRow 27 = .ok (.invokestatic 404, 3) := by decide +kernel
theorem dX12_layRow_30 : decode cX12_layRow 30 = .ok (.irem, 1) := by decide +kernel
theorem dX12_layRow_31 : decode cX12_layRow 31 = .ok (.istore_n 2, 1) := by decide +kernel
theorem dX12_layRow_32 : decode cX12_layRow 32 = .ok (.iconst 0, 1) := by decide +kernel
theorem dX12_layRow_33 : decode cX12_layRow 33 = .ok (.istore 7, 2) := by decide +kernel
theorem dX12_layRow_35 : decode cX12_layRow 35 = .ok (.iload_n 3, 1) := by decide +kernel
theorem dX12_layRow_36 : decode cX12_layRow 36 = .ok (.iload 7, 2) := by decide +kernel
theorem dX12_layRow_38 : decode cX12_layRow 38 = .ok (.invokestatic 90, 3) := by decide +kernel
theorem dX12_layRow_41 : decode cX12_layRow 41 = .ok (.ifCond .ne 8, 3) := by decide +kernel
theorem dX12_layRow_44 : decode cX12_layRow 44 = .ok (.iload 6, 2) := by decide +kernel
theorem dX12_layRow_46 : decode cX12_layRow 46 = .ok (.ifCond .le 28, 3) := by decide +kernel
theorem dX12_layRow_49 : decode cX12_layRow 49 = .ok (.iload 6, 2) := by decide +kernel
theorem dX12_layRow_51 : decode cX12_layRow 51 = .ok (.iload_n 3, 1) := by decide +kernel
theorem dX12_layRow_52 : decode cX12_layRow 52 = .ok (.iload 7, 2) := by decide +kernel
theorem dX12_layRow_54 : decode cX12_layRow 54 = .ok (.invokestatic 90, 3) := by decide +kernel
theorem dX12_layRow_57 : decode cX12_layRow 57 = .ok (.ifCond .eq 7, 3) := by decide +kernel
theorem dX12_layRow_60 : decode cX12_layRow 60 = .ok (.iconst 0, 1) := by decide +kernel
theorem dX12_layRow_61 : decode cX12_layRow 61 = .ok (.goto 4, 3) := by decide +kernel
theorem dX12_layRow_64 : decode cX12_layRow 64 = .ok (.iconst 1, 1) := by decide +kernel
theorem dX12_layRow_65 : decode cX12_layRow 65 = .ok (.isub, 1) := by decide +kernel
theorem dX12_layRow_66 : decode cX12_layRow 66 = .ok (.istore 6, 2) := by decide +kernel
theorem dX12_layRow_68 : decode cX12_layRow 68 = .ok (.iinc 7 1, 3) := by decide +kernel
theorem dX12_layRow_71 : decode cX12_layRow 71 = .ok (.goto (-36), 3) := by decide +kernel
theorem dX12_layRow_74 : decode cX12_layRow 74 = .ok (.iload_n 3, 1) := by decide +kernel
theorem dX12_layRow_75 : decode cX12_layRow 75 = .ok (.iconst 1, 1) := by decide +kernel
theorem dX12_layRow_76 : decode cX12_layRow 76 = .ok (.iload 7, 2) := by decide +kernel
theorem dX12_layRow_78 : decode cX12_layRow 78 = .ok (.ishl, 1) := by decide +kernel
theorem dX12_layRow_79 : decode cX12_layRow 79 = .ok (.ior, 1) := by decide +kernel
theorem dX12_layRow_80 : decode cX12_layRow 80 = .ok (.istore_n 3, 1) := by decide +kernel
theorem dX12_layRow_81 : decode cX12_layRow 81 = .ok (.iload 7, 2) := by decide +kernel
theorem dX12_layRow_83 : decode cX12_layRow 83 = .ok (.aload_n 0, 1) := by decide +kernel
theorem dX12_layRow_84 : decode cX12_layRow 84 = .ok (.getfield 7, 3) := by decide +kernel
theorem dX12_layRow_87 : decode cX12_layRow 87 = .ok (.iconst 0, 1) := by decide +kernel
theorem dX12_layRow_88 : decode cX12_layRow 88 = .ok (.iaload, 1) := by decide +kernel
theorem dX12_layRow_89 : decode cX12_layRow 89 = .ok (.if_icmp .lt 6, 3) := by decide +kernel
theorem dX12_layRow_92 : decode cX12_layRow 92 = .ok (.goto 15, 3) := by decide +kernel
theorem dX12_layRow_95 : decode cX12_layRow 95 = .ok (.aload_n 0, 1) := by decide +kernel
theorem dX12_layRow_96 : decode cX12_layRow 96 = .ok (.getfield 50, 3) := by decide +kernel
theorem dX12_layRow_99 : decode cX12_layRow 99 = .ok (.iload 4, 2) := by decide +kernel
theorem dX12_layRow_101 : decode cX12_layRow 101 = .ok (.iload 7, 2) := by decide +kernel
theorem dX12_layRow_103 : decode cX12_layRow 103 = .ok (.iastore, 1) := by decide +kernel
theorem dX12_layRow_104 : decode cX12_layRow 104 = .ok (.iinc 4 1, 3) := by decide +kernel
theorem dX12_layRow_107 : decode cX12_layRow 107 = .ok (.iinc 5 (-1), 3) := by decide +kernel
theorem dX12_layRow_110 : decode cX12_layRow 110 = .ok (.goto (-100), 3) := by decide +kernel
theorem dX12_layRow_113 : decode cX12_layRow 113 = .ok (.return_, 1) := by decide +kernel
theorem dX12_isOrder_0 : decode cX12_isOrder 0 = .ok (.iload_n 0, 1) := by decide +kernel
theorem dX12_isOrder_1 : decode cX12_isOrder 1 = .ok (.iconst 0, 1) := by decide +kernel
theorem dX12_isOrder_2 : decode cX12_isOrder 2 = .ok (.bipush 119, 2) := by decide +kernel
theorem dX12_isOrder_4 : decode cX12_isOrder 4 = .ok (.invokestatic 78, 3) := by decide +kernel
theorem dX12_isOrder_7 : decode cX12_isOrder 7 = .ok (.ireturn, 1) := by decide +kernel
theorem dX12_order_0 : decode cX12_order 0 = .ok (.iload_n 1, 1) := by decide +kernel
theorem dX12_order_1 : decode cX12_order 1 = .ok (.invokestatic 407, 3) := by decide +kernel
theorem dX12_order_4 : decode cX12_order 4 = .ok (.ifCond .eq 19, 3) := by decide +kernel
theorem dX12_order_7 : decode cX12_order 7 = .ok (.iload_n 2, 1) := by decide +kernel
theorem dX12_order_8 : decode cX12_order 8 = .ok (.iconst 0, 1) := by decide +kernel
theorem dX12_order_9 : decode cX12_order 9 = .ok (.aload_n 0, 1) := by decide +kernel
theorem dX12_order_10 : decode cX12_order 10 = .ok (.getfield 7, 3) := by decide +kernel
theorem dX12_order_13 : decode cX12_order 13 = .ok (.iconst 0, 1) := by decide +kernel
theorem dX12_order_14 : decode cX12_order 14 = .ok (.iaload, 1) := by decide +kernel
theorem dX12_order_15 : decode cX12_order 15 = .ok (.iconst 1, 1) := by decide +kernel
theorem dX12_order_16 : decode cX12_order 16 = .ok (.isub, 1) := by decide +kernel
theorem dX12_order_17 : decode cX12_order 17 = .ok (.invokestatic 78, 3) := by decide +kernel
theorem dX12_order_20 : decode cX12_order 20 = .ok (.ifCond .ne 6, 3) := by decide +kernel
theorem dX12_order_23 : decode cX12_order 23 = .ok (.bipush (-2), 2) := by decide +kernel
theorem dX12_order_25 : decode cX12_order 25 = .ok (.ireturn, 1) := by decide +kernel
theorem dX12_order_26 : decode cX12_order 26 = .ok (.aload_n 0, 1) := by decide +kernel
theorem dX12_order_27 : decode cX12_order 27 = .ok (.iload_n 1, 1) := by decide +kernel
theorem dX12_order_28 : decode cX12_order 28 = .ok (.invokevirtual 410, 3) := by decide +kernel
theorem dX12_order_31 : decode cX12_order 31 = .ok (.aload_n 0, 1) := by decide +kernel
theorem dX12_order_32 : decode cX12_order 32 = .ok (.getfield 50, 3) := by decide +kernel
theorem dX12_order_35 : decode cX12_order 35 = .ok (.iload_n 2, 1) := by decide +kernel
theorem dX12_order_36 : decode cX12_order 36 = .ok (.iaload, 1) := by decide +kernel
theorem dX12_order_37 : decode cX12_order 37 = .ok (.ireturn, 1) := by decide +kernel
theorem dX12_want_0 : decode cX12_want 0 = .ok (.iload_n 1, 1) := by decide +kernel
theorem dX12_want_1 : decode cX12_want 1 = .ok (.invokestatic 407, 3) := by decide +kernel
theorem dX12_want_4 : decode cX12_want 4 = .ok (.ifCond .ne 5, 3) := by decide +kernel
theorem dX12_want_7 : decode cX12_want 7 = .ok (.iconst 0, 1) := by decide +kernel
theorem dX12_want_8 : decode cX12_want 8 = .ok (.ireturn, 1) := by decide +kernel
theorem dX12_want_9 : decode cX12_want 9 = .ok (.aload_n 0, 1) := by decide +kernel
theorem dX12_want_10 : decode cX12_want 10 = .ok (.getfield 7, 3) := by decide +kernel
theorem dX12_want_13 : decode cX12_want 13 = .ok (.bipush 60, 2) := by decide +kernel
theorem dX12_want_15 : decode cX12_want 15 = .ok (.iload_n 1, 1) := by decide +kernel
theorem dX12_want_16 : decode cX12_want 16 = .ok (.iastore, 1) := by decide +kernel
theorem dX12_want_17 : decode cX12_want 17 = .ok (.iconst 1, 1) := by decide +kernel
theorem dX12_want_18 : decode cX12_want 18 = .ok (.ireturn, 1) := by decide +kernel
theorem dX12_takeFrom_0 : decode cX12_takeFrom 0 = .ok (.iconst 0, 1) := by decide +kernel
theorem dX12_takeFrom_1 : decode cX12_takeFrom 1 = .ok (.istore_n 2, 1) := by decide +kernel
theorem dX12_takeFrom_2 : decode cX12_takeFrom 2 = .ok (.iconst 0, 1) := by decide +kernel
theorem dX12_takeFrom_3 : decode cX12_takeFrom 3 = .ok (.istore_n 3, 1) := by decide +kernel
theorem dX12_takeFrom_4 : decode cX12_takeFrom 4 = .ok (.iload_n 3, 1) := by decide +kernel
theorem dX12_takeFrom_5 : decode cX12_takeFrom 5 = .ok (.iconst 3, 1) := by decide +kernel
theorem dX12_takeFrom_6 : decode cX12_takeFrom 6 = .ok (.if_icmp .ge 61, 3) := by decide +kernel
theorem dX12_takeFrom_9 : decode cX12_takeFrom 9 = .ok (.aload_n 0, 1) := by decide +kernel
theorem dX12_takeFrom_10 : decode cX12_takeFrom 10 = .ok (.getfield 56, 3) := by decide +kernel
theorem dX12_takeFrom_13 : decode cX12_takeFrom 13 = .ok (.iload_n 3, 1) := by decide +kernel
theorem dX12_takeFrom_14 : decode cX12_takeFrom 14 = .ok (.aload_n 1, 1) := by decide +kernel
theorem dX12_takeFrom_15 : decode cX12_takeFrom 15 = .ok (.bipush 12, 2) := by decide +kernel
theorem dX12_takeFrom_17 : decode cX12_takeFrom 17 = .ok (.iload_n 3, 1) := by decide +kernel
theorem dX12_takeFrom_18 : decode cX12_takeFrom 18 = .ok (.iadd, 1) := by decide +kernel
theorem dX12_takeFrom_19 : decode cX12_takeFrom 19 = .ok (.iaload, 1) := by decide +kernel
theorem dX12_takeFrom_20 : decode cX12_takeFrom 20 = .ok (.iastore, 1) := by decide +kernel
theorem dX12_takeFrom_21 : decode cX12_takeFrom 21 = .ok (.iconst 0, 1) := by decide +kernel
theorem dX12_takeFrom_22 : decode cX12_takeFrom 22 = .ok (.istore 4, 2) := by decide +kernel
theorem dX12_takeFrom_24 : decode cX12_takeFrom 24 = .ok (.iload 4, 2) := by decide +kernel
theorem dX12_takeFrom_26 : decode cX12_takeFrom 26 = .ok (.aload_n 0, 1) := by decide +kernel
theorem dX12_takeFrom_27 : decode cX12_takeFrom 27 = .ok (.getfield 56, 3) := by decide +kernel
theorem dX12_takeFrom_30 : decode cX12_takeFrom 30 = .ok (.iload_n 3, 1) := by decide +kernel
theorem dX12_takeFrom_31 : decode cX12_takeFrom 31 = .ok (.iaload, 1) := by decide +kernel
theorem dX12_takeFrom_32 : decode cX12_takeFrom 32 = .ok (.if_icmp .ge 29, 3) := by decide +kernel
theorem dX12_takeFrom_35 : decode cX12_takeFrom 35 = .ok (.aload_n 0, 1) := by decide +kernel
theorem dX12_takeFrom_36 : decode cX12_takeFrom 36 = .ok (.getfield 53, 3) := by decide +kernel
theorem dX12_takeFrom_39 : decode cX12_takeFrom 39 = .ok (.iload_n 2, 1) := by decide +kernel
theorem dX12_takeFrom_40 : decode cX12_takeFrom 40 = .ok (.aload_n 1, 1) := by decide +kernel
theorem dX12_takeFrom_41 : decode cX12_takeFrom 41 = .ok (.bipush 15, 2) := by decide +kernel
theorem dX12_takeFrom_43 : decode cX12_takeFrom 43 = .ok (.iconst 5, 1) := by decide +kernel
theorem dX12_takeFrom_44 : decode cX12_takeFrom 44 = .ok (.iload_n 3, 1) := by decide +kernel
theorem dX12_takeFrom_45 : decode cX12_takeFrom 45 = .ok (.imul, 1) := by decide +kernel
theorem dX12_takeFrom_46 : decode cX12_takeFrom 46 = .ok (.iadd, 1) := by decide +kernel
theorem dX12_takeFrom_47 : decode cX12_takeFrom 47 = .ok (.iload 4, 2) := by decide +kernel
theorem dX12_takeFrom_49 : decode cX12_takeFrom 49 = .ok (.iadd, 1) := by decide +kernel
