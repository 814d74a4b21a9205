theorem dX12_takeFrom_50 : decode cX12_takeFrom 50 = .ok (.iaload, 1) := by decide +kernel
theorem dX12_takeFrom_51 : decode cX12_takeFrom 51 = .ok (.iastore, 1) := by decide +kernel
theorem dX12_takeFrom_52 : decode cX12_takeFrom 52 = .ok (.iinc 2 1, 3) := by decide +kernel
theorem dX12_takeFrom_55 : decode cX12_takeFrom 55 = .ok (.iinc 4 1, 3) := by decide +kernel
theorem dX12_takeFrom_58 : decode cX12_takeFrom 58 = .ok (.goto (-34), 3) := by decide +kernel
theorem dX12_takeFrom_61 : decode cX12_takeFrom 61 = .ok (.iinc 3 1, 3) := by decide +kernel
theorem dX12_takeFrom_64 : decode cX12_takeFrom 64 = .ok (.goto (-60), 3) := by decide +kernel
theorem dX12_takeFrom_67 : decode cX12_takeFrom 67 = .ok (.return_, 1) := by decide +kernel
theorem dX12_cars_0 : decode cX12_cars 0 = .ok (.aload_n 0, 1) := by decide +kernel
theorem dX12_cars_1 : decode cX12_cars 1 = .ok (.getfield 56, 3) := by decide +kernel
theorem dX12_cars_4 : decode cX12_cars 4 = .ok (.iconst 0, 1) := by decide +kernel
theorem dX12_cars_5 : decode cX12_cars 5 = .ok (.iaload, 1) := by decide +kernel
theorem dX12_cars_6 : decode cX12_cars 6 = .ok (.aload_n 0, 1) := by decide +kernel
theorem dX12_cars_7 : decode cX12_cars 7 = .ok (.getfield 56, 3) := by decide +kernel
theorem dX12_cars_10 : decode cX12_cars 10 = .ok (.iconst 1, 1) := by decide +kernel
theorem dX12_cars_11 : decode cX12_cars 11 = .ok (.iaload, 1) := by decide +kernel
theorem dX12_cars_12 : decode cX12_cars 12 = .ok (.iadd, 1) := by decide +kernel
theorem dX12_cars_13 : decode cX12_cars 13 = .ok (.aload_n 0, 1) := by decide +kernel
theorem dX12_cars_14 : decode cX12_cars 14 = .ok (.getfield 56, 3) := by decide +kernel
theorem dX12_cars_17 : decode cX12_cars 17 = .ok (.iconst 2, 1) := by decide +kernel
theorem dX12_cars_18 : decode cX12_cars 18 = .ok (.iaload, 1) := by decide +kernel
theorem dX12_cars_19 : decode cX12_cars 19 = .ok (.iadd, 1) := by decide +kernel
theorem dX12_cars_20 : decode cX12_cars 20 = .ok (.ireturn, 1) := by decide +kernel
theorem dX12_standOf_0 : decode cX12_standOf 0 = .ok (.aload_n 0, 1) := by decide +kernel
theorem dX12_standOf_1 : decode cX12_standOf 1 = .ok (.invokevirtual 413, 3) := by decide +kernel
theorem dX12_standOf_4 : decode cX12_standOf 4 = .ok (.istore_n 1, 1) := by decide +kernel
theorem dX12_standOf_5 : decode cX12_standOf 5 = .ok (.iconst 0, 1) := by decide +kernel
theorem dX12_standOf_6 : decode cX12_standOf 6 = .ok (.istore_n 2, 1) := by decide +kernel
theorem dX12_standOf_7 : decode cX12_standOf 7 = .ok (.iconst 0, 1) := by decide +kernel
theorem dX12_standOf_8 : decode cX12_standOf 8 = .ok (.istore_n 3, 1) := by decide +kernel
theorem dX12_standOf_9 : decode cX12_standOf 9 = .ok (.iload_n 3, 1) := by decide +kernel
theorem dX12_standOf_10 : decode cX12_standOf 10 = .ok (.iload_n 1, 1) := by decide +kernel
theorem dX12_standOf_11 : decode cX12_standOf 11 = .ok (.if_icmp .ge 64, 3) := by decide +kernel
theorem dX12_standOf_14 : decode cX12_standOf 14 = .ok (.iconst 0, 1) := by decide +kernel
theorem dX12_standOf_15 : decode cX12_standOf 15 = .ok (.istore 4, 2) := by decide +kernel
theorem dX12_standOf_17 : decode cX12_standOf 17 = .ok (.iload_n 3, 1) := by decide +kernel
theorem dX12_standOf_18 : decode cX12_standOf 18 = .ok (.iconst 1, 1) := by decide +kernel
theorem dX12_standOf_19 : decode cX12_standOf 19 = .ok (.iadd, 1) := by decide +kernel
theorem dX12_standOf_20 : decode cX12_standOf 20 = .ok (.istore 5, 2) := by decide +kernel
theorem dX12_standOf_22 : decode cX12_standOf 22 = .ok (.iload 5, 2) := by decide +kernel
theorem dX12_standOf_24 : decode cX12_standOf 24 = .ok (.iload_n 1, 1) := by decide +kernel
theorem dX12_standOf_25 : decode cX12_standOf 25 = .ok (.if_icmp .ge 35, 3) := by decide +kernel
theorem dX12_standOf_28 : decode cX12_standOf 28 = .ok (.iload 4, 2) := by decide +kernel
theorem dX12_standOf_30 : decode cX12_standOf 30 = .ok (.aload_n 0, 1) := by decide +kernel
theorem dX12_standOf_31 : decode cX12_standOf 31 = .ok (.getfield 53, 3) := by decide +kernel
theorem dX12_standOf_34 : decode cX12_standOf 34 = .ok (.iload 5, 2) := by decide +kernel
theorem dX12_standOf_36 : decode cX12_standOf 36 = .ok (.iaload, 1) := by decide +kernel
theorem dX12_standOf_37 : decode cX12_standOf 37 = .ok (.aload_n 0, 1) := by decide +kernel
theorem dX12_standOf_38 : decode cX12_standOf 38 = .ok (.getfield 53, 3) := by decide +kernel
theorem dX12_standOf_41 : decode cX12_standOf 41 = .ok (.iload_n 3, 1) := by decide +kernel
theorem dX12_standOf_42 : decode cX12_standOf 42 = .ok (.iaload, 1) := by decide +kernel
theorem dX12_standOf_43 : decode cX12_standOf 43 = .ok (.if_icmp .ge 7, 3) := by decide +kernel
theorem dX12_standOf_46 : decode cX12_standOf 46 = .ok (.iconst 1, 1) := by decide +kernel
theorem dX12_standOf_47 : decode cX12_standOf 47 = .ok (.goto 4, 3) := by decide +kernel
theorem dX12_standOf_50 : decode cX12_standOf 50 = .ok (.iconst 0, 1) := by decide +kernel
theorem dX12_standOf_51 : decode cX12_standOf 51 = .ok (.iadd, 1) := by decide +kernel
theorem dX12_standOf_52 : decode cX12_standOf 52 = .ok (.istore 4, 2) := by decide +kernel
theorem dX12_standOf_54 : decode cX12_standOf 54 = .ok (.iinc 5 1, 3) := by decide +kernel
theorem dX12_standOf_57 : decode cX12_standOf 57 = .ok (.goto (-35), 3) := by decide +kernel
theorem dX12_standOf_60 : decode cX12_standOf 60 = .ok (.iload_n 2, 1) := by decide +kernel
theorem dX12_standOf_61 : decode cX12_standOf 61 = .ok (.iload_n 1, 1) := by decide +kernel
theorem dX12_standOf_62 : decode cX12_standOf 62 = .ok (.iload_n 3, 1) := by decide +kernel
theorem dX12_standOf_63 : decode cX12_standOf 63 = .ok (.isub, 1) := by decide +kernel
theorem dX12_standOf_64 : decode cX12_standOf 64 = .ok (.imul, 1) := by decide +kernel
theorem dX12_standOf_65 : decode cX12_standOf 65 = .ok (.iload 4, 2) := by decide +kernel
theorem dX12_standOf_67 : decode cX12_standOf 67 = .ok (.iadd, 1) := by decide +kernel
theorem dX12_standOf_68 : decode cX12_standOf 68 = .ok (.istore_n 2, 1) := by decide +kernel
theorem dX12_standOf_69 : decode cX12_standOf 69 = .ok (.iinc 3 1, 3) := by decide +kernel
theorem dX12_standOf_72 : decode cX12_standOf 72 = .ok (.goto (-63), 3) := by decide +kernel
theorem dX12_standOf_75 : decode cX12_standOf 75 = .ok (.bipush 36, 2) := by decide +kernel
theorem dX12_standOf_77 : decode cX12_standOf 77 = .ok (.iload_n 2, 1) := by decide +kernel
theorem dX12_standOf_78 : decode cX12_standOf 78 = .ok (.imul, 1) := by decide +kernel
theorem dX12_standOf_79 : decode cX12_standOf 79 = .ok (.bipush 6, 2) := by decide +kernel
theorem dX12_standOf_81 : decode cX12_standOf 81 = .ok (.aload_n 0, 1) := by decide +kernel
theorem dX12_standOf_82 : decode cX12_standOf 82 = .ok (.getfield 56, 3) := by decide +kernel
theorem dX12_standOf_85 : decode cX12_standOf 85 = .ok (.iconst 0, 1) := by decide +kernel
theorem dX12_standOf_86 : decode cX12_standOf 86 = .ok (.iaload, 1) := by decide +kernel
theorem dX12_standOf_87 : decode cX12_standOf 87 = .ok (.imul, 1) := by decide +kernel
theorem dX12_standOf_88 : decode cX12_standOf 88 = .ok (.iadd, 1) := by decide +kernel
theorem dX12_standOf_89 : decode cX12_standOf 89 = .ok (.aload_n 0, 1) := by decide +kernel
theorem dX12_standOf_90 : decode cX12_standOf 90 = .ok (.getfield 56, 3) := by decide +kernel
theorem dX12_standOf_93 : decode cX12_standOf 93 = .ok (.iconst 1, 1) := by decide +kernel
theorem dX12_standOf_94 : decode cX12_standOf 94 = .ok (.iaload, 1) := by decide +kernel
theorem dX12_standOf_95 : decode cX12_standOf 95 = .ok (.iadd, 1) := by decide +kernel
theorem dX12_standOf_96 : decode cX12_standOf 96 = .ok (.ireturn, 1) := by decide +kernel
theorem dX12_standSo_0 : decode cX12_standSo 0 = .ok (.aload_n 0, 1) := by decide +kernel
theorem dX12_standSo_1 : decode cX12_standSo 1 = .ok (.getfield 56, 3) := by decide +kernel
theorem dX12_standSo_4 : decode cX12_standSo 4 = .ok (.iconst 0, 1) := by decide +kernel
theorem dX12_standSo_5 : decode cX12_standSo 5 = .ok (.iload_n 1, 1) := by decide +kernel
theorem dX12_standSo_6 : decode cX12_standSo 6 = .ok (.bipush 6, 2) := by decide +kernel
theorem dX12_standSo_8 : decode cX12_standSo 8 = .ok (.idiv, 1) := by decide +kernel
theorem dX12_standSo_9 : decode cX12_standSo 9 = .ok (.bipush 6, 2) := by decide +kernel
theorem dX12_standSo_11 : decode cX12_standSo 11 = .ok (.irem, 1) := by decide +kernel
theorem dX12_standSo_12 : decode cX12_standSo 12 = .ok (.iastore, 1) := by decide +kernel
theorem dX12_standSo_13 : decode cX12_standSo 13 = .ok (.aload_n 0, 1) := by decide +kernel
theorem dX12_standSo_14 : decode cX12_standSo 14 = .ok (.getfield 56, 3) := by decide +kernel
theorem dX12_standSo_17 : decode cX12_standSo 17 = .ok (.iconst 1, 1) := by decide +kernel
theorem dX12_standSo_18 : decode cX12_standSo 18 = .ok (.iload_n 1, 1) := by decide +kernel
theorem dX12_standSo_19 : decode cX12_standSo 19 = .ok (.bipush 6, 2) := by decide +kernel
theorem dX12_standSo_21 : decode cX12_standSo 21 = .ok (.irem, 1) := by decide +kernel
theorem dX12_standSo_22 : decode cX12_standSo 22 = .ok (.iastore, 1) := by decide +kernel
theorem dX12_standSo_23 : decode cX12_standSo 23 = .ok (.aload_n 0, 1) := by decide +kernel
theorem dX12_standSo_24 : decode cX12_standSo 24 = .ok (.getfield 56, 3) := by decide +kernel
theorem dX12_standSo_27 : decode cX12_standSo 27 = .ok (.iconst 2, 1) := by decide +kernel
theorem dX12_standSo_28 : decode cX12_standSo 28 = .ok (.iload_n 2, 1) := by decide +kernel
theorem dX12_standSo_29 : decode cX12_standSo 29 = .ok (.aload_n 0, 1) := by decide +kernel
theorem dX12_standSo_30 : decode cX12_standSo 30 = .ok (.getfield 56, 3) := by decide +kernel
theorem dX12_standSo_33 : decode cX12_standSo 33 = .ok (.iconst 0, 1) := by decide +kernel
theorem dX12_standSo_34 : decode cX12_standSo 34 = .ok (.iaload, 1) := by decide +kernel
theorem dX12_standSo_35 : decode cX12_standSo 35 = .ok (.isub, 1) := by decide +kernel
theorem dX12_standSo_36 : decode cX12_standSo 36 = .ok (.aload_n 0, 1) := by decide +kernel
theorem dX12_standSo_37 : decode cX12_standSo 37 = .ok (.getfield 56, 3) := by decide +kernel
theorem dX12_standSo_40 : decode cX12_standSo 40 = .ok (.iconst 1, 1) := by decide +kernel
theorem dX12_standSo_41 : decode cX12_standSo 41 = .ok (.iaload, 1) := by decide +kernel
theorem dX12_standSo_42 : decode cX12_standSo 42 = .ok (.isub, 1) := by decide +kernel
theorem dX12_standSo_43 : decode cX12_standSo 43 = .ok (.iastore, 1) := by decide +kernel
theorem dX12_standSo_44 : decode cX12_standSo 44 = .ok (.iload_n 1, 1) := by decide +kernel
theorem dX12_standSo_45 : decode cX12_standSo 45 = .ok (.bipush 36, 2) := by decide +kernel
theorem dX12_standSo_47 : decode cX12_standSo 47 = .ok (.idiv, 1) := by decide +kernel
theorem dX12_standSo_48 : decode cX12_standSo 48 = .ok (.istore_n 3, 1) := by decide +kernel
theorem dX12_standSo_49 : decode cX12_standSo 49 = .ok (.iload_n 2, 1) := by decide +kernel
theorem dX12_standSo_50 : decode cX12_standSo 50 = .ok (.iconst 1, 1) := by decide +kernel
theorem dX12_standSo_51 : decode cX12_standSo 51 = .ok (.isub, 1) := by decide +kernel
theorem dX12_standSo_52 : decode cX12_standSo 52 = .ok (.istore 4, 2) := by decide +kernel
theorem dX12_standSo_54 : decode cX12_standSo 54 = .ok (.iload 4, 2) := by decide +kernel
theorem dX12_standSo_56 : decode cX12_standSo 56 = .ok (.ifCond .lt 75, 3) := by decide +kernel
theorem dX12_standSo_59 : decode cX12_standSo 59 = .ok (.aload_n 0, 1) := by decide +kernel
theorem dX12_standSo_60 : decode cX12_standSo 60 = .ok (.getfield 53, 3) := by decide +kernel
theorem dX12_standSo_63 : decode cX12_standSo 63 = .ok (.iload 4, 2) := by decide +kernel
theorem dX12_standSo_65 : decode cX12_standSo 65 = .ok (.iload_n 3, 1) := by decide +kernel
theorem dX12_standSo_66 : decode cX12_standSo 66 = .ok (.iload_n 2, 1) := by decide +kernel
theorem dX12_standSo_67 : decode cX12_standSo 67 = .ok (.iload 4, 2) := by decide +kernel
theorem dX12_standSo_69 : decode cX12_standSo 69 = .ok (.isub, 1) := by decide +kernel
theorem dX12_standSo_70 : decode cX12_standSo 70 = .ok (.irem, 1) := by decide +kernel
theorem dX12_standSo_71 : decode cX12_standSo 71 = .ok (.iastore, 1) := by decide +kernel
theorem dX12_standSo_72 : decode cX12_standSo 72 = .ok (.iload_n 3, 1) := by decide +kernel
theorem dX12_standSo_73 : decode cX12_standSo 73 = .ok (.iload_n 2, 1) := by decide +kernel
theorem dX12_standSo_74 : decode cX12_standSo 74 = .ok (.iload 4, 2) := by decide +kernel
theorem dX12_standSo_76 : decode cX12_standSo 76 = .ok (.isub, 1) := by decide +kernel
theorem dX12_standSo_77 : decode cX12_standSo 77 = .ok (.idiv, 1) := by decide +kernel
theorem dX12_standSo_78 : decode cX12_standSo 78 = .ok (.istore_n 3, 1) := by decide +kernel
theorem dX12_standSo_79 : decode cX12_standSo 79 = .ok (.iload 4, 2) := by decide +kernel
theorem dX12_standSo_81 : decode cX12_standSo 81 = .ok (.iconst 1, 1) := by decide +kernel
theorem dX12_standSo_82 : decode cX12_standSo 82 = .ok (.iadd, 1) := by decide +kernel
theorem dX12_standSo_83 : decode cX12_standSo 83 = .ok (.istore 5, 2) := by decide +kernel
theorem dX12_standSo_85 : decode cX12_standSo 85 = .ok (.iload 5, 2) := by decide +kernel
theorem dX12_standSo_87 : decode cX12_standSo 87 = .ok (.iload_n 2, 1) := by decide +kernel
theorem dX12_standSo_88 : decode cX12_standSo 88 = .ok (.if_icmp .ge 37, 3) := by decide +kernel
theorem dX12_standSo_91 : decode cX12_standSo 91 = .ok (.aload_n 0, 1) := by decide +kernel
theorem dX12_standSo_92 : decode cX12_standSo 92 = .ok (.getfield 53, 3) := by decide +kernel
theorem dX12_standSo_95 : decode cX12_standSo 95 = .ok (.iload 5, 2) := by decide +kernel
theorem dX12_standSo_97 : decode cX12_standSo 97 = .ok (.iaload, 1) := by decide +kernel
theorem dX12_standSo_98 : decode cX12_standSo 98 = .ok (.aload_n 0, 1) := by decide +kernel
theorem dX12_standSo_99 : decode cX12_standSo 99 = .ok (.getfield 53, 3) := by decide +kernel
theorem dX12_standSo_102 : decode cX12_standSo 102 = .ok (.iload 4, 2) := by decide +kernel
theorem dX12_standSo_104 : decode cX12_standSo 104 = .ok (.iaload, 1) := by decide +kernel
theorem dX12_standSo_105 : decode cX12_standSo 105 = .ok (.if_icmp .lt 14, 3) := by decide +kernel
theorem dX12_standSo_108 : decode cX12_standSo 108 = .ok (.aload_n 0, 1) := by decide +kernel
theorem dX12_standSo_109 : decode cX12_standSo 109 = .ok (.getfield 53, 3) := by decide +kernel
theorem dX12_standSo_112 : decode cX12_standSo 112 = .ok (.iload 5, 2) := by decide +kernel
theorem dX12_standSo_114 : decode cX12_standSo 114 = .ok (.dup2, 1) := by decide +kernel
theorem dX12_standSo_115 : decode cX12_standSo 115 = .ok (.iaload, 1) := by decide +kernel
theorem dX12_standSo_116 : decode cX12_standSo 116 = .ok (.iconst 1, 1) := by decide +kernel
theorem dX12_standSo_117 : decode cX12_standSo 117 = .ok (.iadd, 1) := by decide +kernel
theorem dX12_standSo_118 : decode cX12_standSo 118 = .ok (.iastore, 1) := by decide +kernel
theorem dX12_standSo_119 : decode cX12_standSo 119 = .ok (.iinc 5 1, 3) := by decide +kernel
theorem dX12_standSo_122 : decode cX12_standSo 122 = .ok (.goto (-37), 3) := by decide +kernel
theorem dX12_standSo_125 : decode cX12_standSo 125 = .ok (.iinc 4 (-1), 3) := by decide +kernel
theorem dX12_standSo_128 : decode cX12_standSo 128 = .ok (.goto (-74), 3) := by decide +kernel
theorem dX12_standSo_131 : decode cX12_standSo 131 = .ok (.return_, 1) := by decide +kernel
theorem dX12_endOf_0 : decode cX12_endOf 0 = .ok (.iload_n 1, 1) := by decide +kernel
theorem dX12_endOf_1 : decode cX12_endOf 1 = .ok (.ifCond .ne 12, 3) := by decide +kernel
theorem dX12_endOf_4 : decode cX12_endOf 4 = .ok (.aload_n 0, 1) := by decide +kernel
theorem dX12_endOf_5 : decode cX12_endOf 5 = .ok (.getfield 56, 3) := by decide +kernel
theorem dX12_endOf_8 : decode cX12_endOf 8 = .ok (.iconst 0, 1) := by decide +kernel
theorem dX12_endOf_9 : decode cX12_endOf 9 = .ok (.iaload, 1) := by decide +kernel
theorem dX12_endOf_10 : decode cX12_endOf 10 = .ok (.goto 28, 3) := by decide +kernel
theorem dX12_endOf_13 : decode cX12_endOf 13 = .ok (.iload_n 1, 1) := by decide +kernel
theorem dX12_endOf_14 : decode cX12_endOf 14 = .ok (.iconst 1, 1) := by decide +kernel
theorem dX12_endOf_15 : decode cX12_endOf 15 = .ok (.if_icmp .ne 19, 3) := by decide +kernel
theorem dX12_endOf_18 : decode cX12_endOf 18 = .ok (.aload_n 0, 1) := by decide +kernel
theorem dX12_endOf_19 : decode cX12_endOf 19 = .ok (.getfield 56, 3) := by decide +kernel
theorem dX12_endOf_22 : decode cX12_endOf 22 = .ok (.iconst 0, 1) := by decide +kernel
theorem dX12_endOf_23 : decode cX12_endOf 23 = .ok (.iaload, 1) := by decide +kernel
theorem dX12_endOf_24 : decode cX12_endOf 24 = .ok (.aload_n 0, 1) := by decide +kernel
theorem dX12_endOf_25 : decode cX12_endOf 25 = .ok (.getfield 56, 3) := by decide +kernel
theorem dX12_endOf_28 : decode cX12_endOf 28 = .ok (.iconst 1, 1) := by decide +kernel
theorem dX12_endOf_29 : decode cX12_endOf 29 = .ok (.iaload, 1) := by decide +kernel
theorem dX12_endOf_30 : decode cX12_endOf 30 = .ok (.iadd, 1) := by decide +kernel
theorem dX12_endOf_31 : decode cX12_endOf 31 = .ok (.goto 7, 3) := by decide +kernel
theorem dX12_endOf_34 : decode cX12_endOf 34 = .ok (.aload_n 0, 1) := by decide +kernel
theorem dX12_endOf_35 : decode cX12_endOf 35 = .ok (.invokevirtual 413, 3) := by decide +kernel
theorem dX12_endOf_38 : decode cX12_endOf 38 = .ok (.ireturn, 1) := by decide +kernel
theorem dX12_isShunted_0 : decode cX12_isShunted 0 = .ok (.iload_n 1, 1) := by decide +kernel
theorem dX12_isShunted_1 : decode cX12_isShunted 1 = .ok (.iload_n 2, 1) := by decide +kernel
theorem dX12_isShunted_2 : decode cX12_isShunted 2 = .ok (.if_icmp .eq 12, 3) := by decide +kernel
theorem dX12_isShunted_5 : decode cX12_isShunted 5 = .ok (.aload_n 0, 1) := by decide +kernel
theorem dX12_isShunted_6 : decode cX12_isShunted 6 = .ok (.getfield 56, 3) := by decide +kernel
theorem dX12_isShunted_9 : decode cX12_isShunted 9 = .ok (.iload_n 1, 1) := by decide +kernel
theorem dX12_isShunted_10 : decode cX12_isShunted 10 = .ok (.iaload, 1) := by decide +kernel
theorem dX12_isShunted_11 : decode cX12_isShunted 11 = .ok (.ifCond .ne 5, 3) := by decide +kernel
theorem dX12_isShunted_14 : decode cX12_isShunted 14 = .ok (.iconst 0, 1) := by decide +kernel
theorem dX12_isShunted_15 : decode cX12_isShunted 15 = .ok (.ireturn, 1) := by decide +kernel
theorem dX12_isShunted_16 : decode cX12_isShunted 16 = .ok (.aload_n 0, 1) := by decide +kernel
theorem dX12_isShunted_17 : decode cX12_isShunted 17 = .ok (.iload_n 1, 1) := by decide +kernel
theorem dX12_isShunted_18 : decode cX12_isShunted 18 = .ok (.invokevirtual 416, 3) := by decide +kernel
theorem dX12_isShunted_21 : decode cX12_isShunted 21 = .ok (.iconst 1, 1) := by decide +kernel
theorem dX12_isShunted_22 : decode cX12_isShunted 22 = .ok (.isub, 1) := by decide +kernel
theorem dX12_isShunted_23 : decode cX12_isShunted 23 = .ok (.istore_n 3, 1) := by decide +kernel
theorem dX12_isShunted_24 : decode cX12_isShunted 24 = .ok (.aload_n 0, 1) := by decide +kernel
theorem dX12_isShunted_25 : decode cX12_isShunted 25 = .ok (.getfield 53, 3) := by decide +kernel
theorem dX12_isShunted_28 : decode cX12_isShunted 28 = .ok (.iload_n 3, 1) := by decide +kernel
theorem dX12_isShunted_29 : decode cX12_isShunted 29 = .ok (.iaload, 1) := by decide +kernel
theorem dX12_isShunted_30 : decode cX12_isShunted 30 = .ok (.istore 4, 2) := by decide +kernel
theorem dX12_isShunted_32 : decode cX12_isShunted 32 = .ok (.aload_n 0, 1) := by decide +kernel
theorem dX12_isShunted_33 : decode cX12_isShunted 33 = .ok (.getfield 56, 3) := by decide +kernel
theorem dX12_isShunted_36 : decode cX12_isShunted 36 = .ok (.iload_n 2, 1) := by decide +kernel
theorem dX12_isShunted_37 : decode cX12_isShunted 37 = .ok (.iaload, 1) := by decide +kernel
theorem dX12_isShunted_38 : decode cX12_isShunted 38 = .ok (.ifCond .le 26, 3) := by decide +kernel
theorem dX12_isShunted_41 : decode cX12_isShunted 41 = .ok (.aload_n 0, 1) := by decide +kernel
theorem dX12_isShunted_42 : decode cX12_isShunted 42 = .ok (.iload 4, 2) := by decide +kernel
theorem dX12_isShunted_44 : decode cX12_isShunted 44 = .ok (.aload_n 0, 1) := by decide +kernel
theorem dX12_isShunted_45 : decode cX12_isShunted 45 = .ok (.getfield 53, 3) := by decide +kernel
theorem dX12_isShunted_48 : decode cX12_isShunted 48 = .ok (.aload_n 0, 1) := by decide +kernel
theorem dX12_isShunted_49 : decode cX12_isShunted 49 = .ok (.iload_n 2, 1) := by decide +kernel
theorem dX12_isShunted_50 : decode cX12_isShunted 50 = .ok (.invokevirtual 416, 3) := by decide +kernel
theorem dX12_isShunted_53 : decode cX12_isShunted 53 = .ok (.iconst 1, 1) := by decide +kernel
theorem dX12_isShunted_54 : decode cX12_isShunted 54 = .ok (.isub, 1) := by decide +kernel
theorem dX12_isShunted_55 : decode cX12_isShunted 55 = .ok (.iaload, 1) := by decide +kernel
theorem dX12_isShunted_56 : decode cX12_isShunted 56 = .ok (.invokevirtual 330, 3) := by decide +kernel
theorem dX12_isShunted_59 : decode cX12_isShunted 59 = .ok (.ifCond .eq 5, 3) := by decide +kernel
theorem dX12_isShunted_62 : decode cX12_isShunted 62 = .ok (.iconst 0, 1) := by decide +kernel
theorem dX12_isShunted_63 : decode cX12_isShunted 63 = .ok (.ireturn, 1) := by decide +kernel
theorem dX12_isShunted_64 : decode cX12_isShunted 64 = .ok (.iload_n 1, 1) := by decide +kernel
theorem dX12_isShunted_65 : decode cX12_isShunted 65 = .ok (.iload_n 2, 1) := by decide +kernel
theorem dX12_isShunted_66 : decode cX12_isShunted 66 = .ok (.if_icmp .ge 13, 3) := by decide +kernel
theorem dX12_isShunted_69 : decode cX12_isShunted 69 = .ok (.aload_n 0, 1) := by decide +kernel
theorem dX12_isShunted_70 : decode cX12_isShunted 70 = .ok (.iload_n 2, 1) := by decide +kernel
theorem dX12_isShunted_71 : decode cX12_isShunted 71 = .ok (.invokevirtual 416, 3) := by decide +kernel
theorem dX12_isShunted_74 : decode cX12_isShunted 74 = .ok (.iconst 1, 1) := by decide +kernel
theorem dX12_isShunted_75 : decode cX12_isShunted 75 = .ok (.isub, 1) := by decide +kernel
theorem dX12_isShunted_76 : decode cX12_isShunted 76 = .ok (.goto 8, 3) := by decide +kernel
theorem dX12_isShunted_79 : decode cX12_isShunted 79 = .ok (.aload_n 0, 1) := by decide +kernel
theorem dX12_isShunted_80 : decode cX12_isShunted 80 = .ok (.iload_n 2, 1) := by decide +kernel
theorem dX12_isShunted_81 : decode cX12_isShunted 81 = .ok (.invokevirtual 416, 3) := by decide +kernel
theorem dX12_isShunted_84 : decode cX12_isShunted 84 = .ok (.istore 5, 2) := by decide +kernel
theorem dX12_isShunted_86 : decode cX12_isShunted 86 = .ok (.iload_n 3, 1) := by decide +kernel
theorem dX12_isShunted_87 : decode cX12_isShunted 87 = .ok (.istore 6, 2) := by decide +kernel
theorem dX12_isShunted_89 : decode cX12_isShunted 89 = .ok (.iload 6, 2) := by decide +kernel
theorem dX12_isShunted_91 : decode cX12_isShunted 91 = .ok (.iload 5, 2) := by decide +kernel
theorem dX12_isShunted_93 : decode cX12_isShunted 93 = .ok (.if_icmp .ge 25, 3) := by decide +kernel
theorem dX12_isShunted_96 : decode cX12_isShunted 96 = .ok (.aload_n 0, 1) := by decide +kernel
theorem dX12_isShunted_97 : decode cX12_isShunted 97 = .ok (.getfield 53, 3) := by decide +kernel
theorem dX12_isShunted_100 : decode cX12_isShunted 100 = .ok (.iload 6, 2) := by decide +kernel
theorem dX12_isShunted_102 : decode cX12_isShunted 102 = .ok (.aload_n 0, 1) := by decide +kernel
theorem dX12_isShunted_103 : decode cX12_isShunted 103 = .ok (.getfield 53, 3) := by decide +kernel
theorem dX12_isShunted_106 : decode cX12_isShunted 106 = .ok (.iload 6, 2) := by decide +kernel
theorem dX12_isShunted_108 : decode cX12_isShunted 108 = .ok (.iconst 1, 1) := by decide +kernel
theorem dX12_isShunted_109 : decode cX12_isShunted 109 = .ok (.iadd, 1) := by decide +kernel
theorem dX12_isShunted_110 : decode cX12_isShunted 110 = .ok (.iaload, 1) := by decide +kernel
theorem dX12_isShunted_111 : decode cX12_isShunted 111 = .ok (.iastore, 1) := by decide +kernel
theorem dX12_isShunted_112 : decode cX12_isShunted 112 = .ok (.iinc 6 1, 3) := by decide +kernel
theorem dX12_isShunted_115 : decode cX12_isShunted 115 = .ok (.goto (-26), 3) := by decide +kernel
theorem dX12_isShunted_118 : decode cX12_isShunted 118 = .ok (.iload_n 3, 1) := by decide +kernel
theorem dX12_isShunted_119 : decode cX12_isShunted 119 = .ok (.istore 6, 2) := by decide +kernel
theorem dX12_isShunted_121 : decode cX12_isShunted 121 = .ok (.iload 6, 2) := by decide +kernel
theorem dX12_isShunted_123 : decode cX12_isShunted 123 = .ok (.iload 5, 2) := by decide +kernel
theorem dX12_isShunted_125 : decode cX12_isShunted 125 = .ok (.if_icmp .le 25, 3) := by decide +kernel
theorem dX12_isShunted_128 : decode cX12_isShunted 128 = .ok (.aload_n 0, 1) := by decide +kernel
theorem dX12_isShunted_129 : decode cX12_isShunted 129 = .ok (.getfield 53, 3) := by decide +kernel
theorem dX12_isShunted_132 : decode cX12_isShunted 132 = .ok (.iload 6, 2) := by decide +kernel
theorem dX12_isShunted_134 : decode cX12_isShunted 134 = .ok (.aload_n 0, 1) := by decide +kernel
theorem dX12_isShunted_135 : decode cX12_isShunted 135 = .ok (.getfield 53, 3) := by decide +kernel
theorem dX12_isShunted_138 : decode cX12_isShunted 138 = .ok (.iload 6, 2) := by decide +kernel
theorem dX12_isShunted_140 : decode cX12_isShunted 140 = .ok (.iconst 1, 1) := by decide +kernel
theorem dX12_isShunted_141 : decode cX12_isShunted 141 = .ok (.isub, 1) := by decide +kernel
theorem dX12_isShunted_142 : decode cX12_isShunted 142 = .ok (.iaload, 1) := by decide +kernel
theorem dX12_isShunted_143 : decode cX12_isShunted 143 = .ok (.iastore, 1) := by decide +kernel
theorem dX12_isShunted_144 : decode cX12_isShunted 144 = .ok (.iinc 6 (-1), 3) := by decide +kernel
theorem dX12_isShunted_147 : decode cX12_isShunted 147 = .ok (.goto (-26), 3) := by decide +kernel
theorem dX12_isShunted_150 : decode cX12_isShunted 150 = .ok (.aload_n 0, 1) := by decide +kernel
theorem dX12_isShunted_151 : decode cX12_isShunted 151 = .ok (.getfield 53, 3) := by decide +kernel
theorem dX12_isShunted_154 : decode cX12_isShunted 154 = .ok (.iload 5, 2) := by decide +kernel
theorem dX12_isShunted_156 : decode cX12_isShunted 156 = .ok (.iload 4, 2) := by decide +kernel
theorem dX12_isShunted_158 : decode cX12_isShunted 158 = .ok (.iastore, 1) := by decide +kernel
theorem dX12_isShunted_159 : decode cX12_isShunted 159 = .ok (.aload_n 0, 1) := by decide +kernel
theorem dX12_isShunted_160 : decode cX12_isShunted 160 = .ok (.getfield 56, 3) := by decide +kernel
theorem dX12_isShunted_163 : decode cX12_isShunted 163 = .ok (.iload_n 1, 1) := by decide +kernel
theorem dX12_isShunted_164 : decode cX12_isShunted 164 = .ok (.dup2, 1) := by decide +kernel
theorem dX12_isShunted_165 : decode cX12_isShunted 165 = .ok (.iaload, 1) := by decide +kernel
theorem dX12_isShunted_166 : decode cX12_isShunted 166 = .ok (.iconst 1, 1) := by decide +kernel
theorem dX12_isShunted_167 : decode cX12_isShunted 167 = .ok (.isub, 1) := by decide +kernel
theorem dX12_isShunted_168 : decode cX12_isShunted 168 = .ok (.iastore, 1) := by decide +kernel
theorem dX12_isShunted_169 : decode cX12_isShunted 169 = .ok (.aload_n 0, 1) := by decide +kernel
theorem dX12_isShunted_170 : decode cX12_isShunted 170 = .ok (.getfield 56, 3) := by decide +kernel
theorem dX12_isShunted_173 : decode cX12_isShunted 173 = .ok (.iload_n 2, 1) := by decide +kernel
theorem dX12_isShunted_174 : decode cX12_isShunted 174 = .ok (.dup2, 1) := by decide +kernel
theorem dX12_isShunted_175 : decode cX12_isShunted 175 = .ok (.iaload, 1) := by decide +kernel
theorem dX12_isShunted_176 : decode cX12_isShunted 176 = .ok (.iconst 1, 1) := by decide +kernel
theorem dX12_isShunted_177 : decode cX12_isShunted 177 = .ok (.iadd, 1) := by decide +kernel
theorem dX12_isShunted_178 : decode cX12_isShunted 178 = .ok (.iastore, 1) := by decide +kernel
theorem dX12_isShunted_179 : decode cX12_isShunted 179 = .ok (.iconst 1, 1) := by decide +kernel
theorem dX12_isShunted_180 : decode cX12_isShunted 180 = .ok (.ireturn, 1) := by decide +kernel
theorem dX12_isWanted_0 : decode cX12_isWanted 0 = .ok (.aload_n 0, 1) := by decide +kernel
theorem dX12_isWanted_1 : decode cX12_isWanted 1 = .ok (.getfield 56, 3) := by decide +kernel
theorem dX12_isWanted_4 : decode cX12_isWanted 4 = .ok (.iconst 2, 1) := by decide +kernel
theorem dX12_isWanted_5 : decode cX12_isWanted 5 = .ok (.iaload, 1) := by decide +kernel
theorem dX12_isWanted_6 : decode cX12_isWanted 6 = .ok (.aload_n 0, 1) := by decide +kernel
theorem dX12_isWanted_7 : decode cX12_isWanted 7 = .ok (.invokevirtual 413, 3) := by decide +kernel
theorem dX12_isWanted_10 : decode cX12_isWanted 10 = .ok (.if_icmp .eq 5, 3) := by decide +kernel
theorem dX12_isWanted_13 : decode cX12_isWanted 13 = .ok (.iconst 0, 1) := by decide +kernel
theorem dX12_isWanted_14 : decode cX12_isWanted 14 = .ok (.ireturn, 1) := by decide +kernel
theorem dX12_isWanted_15 : decode cX12_isWanted 15 = .ok (.aload_n 0, 1) := by decide +kernel
theorem dX12_isWanted_16 : decode cX12_isWanted 16 = .ok (.aload_n 0, 1) := by decide +kernel
theorem dX12_isWanted_17 : decode cX12_isWanted 17 = .ok (.getfield 7, 3) := by decide +kernel
theorem dX12_isWanted_20 : decode cX12_isWanted 20 = .ok (.bipush 60, 2) := by decide +kernel
theorem dX12_isWanted_22 : decode cX12_isWanted 22 = .ok (.iaload, 1) := by decide +kernel
theorem dX12_isWanted_23 : decode cX12_isWanted 23 = .ok (.invokevirtual 410, 3) := by decide +kernel
theorem dX12_isWanted_26 : decode cX12_isWanted 26 = .ok (.iconst 0, 1) := by decide +kernel
theorem dX12_isWanted_27 : decode cX12_isWanted 27 = .ok (.istore_n 1, 1) := by decide +kernel
theorem dX12_isWanted_28 : decode cX12_isWanted 28 = .ok (.iload_n 1, 1) := by decide +kernel
theorem dX12_isWanted_29 : decode cX12_isWanted 29 = .ok (.aload_n 0, 1) := by decide +kernel
theorem dX12_isWanted_30 : decode cX12_isWanted 30 = .ok (.invokevirtual 413, 3) := by decide +kernel
theorem dX12_isWanted_33 : decode cX12_isWanted 33 = .ok (.if_icmp .ge 26, 3) := by decide +kernel
theorem dX12_isWanted_36 : decode cX12_isWanted 36 = .ok (.aload_n 0, 1) := by decide +kernel
theorem dX12_isWanted_37 : decode cX12_isWanted 37 = .ok (.getfield 53, 3) := by decide +kernel
theorem dX12_isWanted_40 : decode cX12_isWanted 40 = .ok (.iload_n 1, 1) := by decide +kernel
theorem dX12_isWanted_41 : decode cX12_isWanted 41 = .ok (.iaload, 1) := by decide +kernel
theorem dX12_isWanted_42 : decode cX12_isWanted 42 = .ok (.aload_n 0, 1) := by decide +kernel
theorem dX12_isWanted_43 : decode cX12_isWanted 43 = .ok (.getfield 50, 3) := by decide +kernel
theorem dX12_isWanted_46 : decode cX12_isWanted 46 = .ok (.iload_n 1, 1) := by decide +kernel
theorem dX12_isWanted_47 : decode cX12_isWanted 47 = .ok (.iaload, 1) := by decide +kernel
theorem dX12_isWanted_48 : decode cX12_isWanted 48 = .ok (.if_icmp .eq 5, 3) := by decide +kernel
theorem dX12_isWanted_51 : decode cX12_isWanted 51 = .ok (.iconst 0, 1) := by decide +kernel
theorem dX12_isWanted_52 : decode cX12_isWanted 52 = .ok (.ireturn, 1) := by decide +kernel
theorem dX12_isWanted_53 : decode cX12_isWanted 53 = .ok (.iinc 1 1, 3) := by decide +kernel
theorem dX12_isWanted_56 : decode cX12_isWanted 56 = .ok (.goto (-28), 3) := by decide +kernel
theorem dX12_isWanted_59 : decode cX12_isWanted 59 = .ok (.iconst 1, 1) := by decide +kernel
theorem dX12_isWanted_60 : decode cX12_isWanted 60 = .ok (.ireturn, 1) := by decide +kernel
theorem dX12_spread_0 : decode cX12_spread 0 = .ok (.iconst 0, 1) := by decide +kernel
theorem dX12_spread_1 : decode cX12_spread 1 = .ok (.istore_n 1, 1) := by decide +kernel
theorem dX12_spread_2 : decode cX12_spread 2 = .ok (.iload_n 1, 1) := by decide +kernel
theorem dX12_spread_3 : decode cX12_spread 3 = .ok (.sipush 4320, 3) := by decide +kernel
theorem dX12_spread_6 : decode cX12_spread 6 = .ok (.if_icmp .ge 17, 3) := by decide +kernel
theorem dX12_spread_9 : decode cX12_spread 9 = .ok (.aload_n 0, 1) := by decide +kernel
theorem dX12_spread_10 : decode cX12_spread 10 = .ok (.getfield 59, 3) := by decide +kernel
theorem dX12_spread_13 : decode cX12_spread 13 = .ok (.iload_n 1, 1) := by decide +kernel
theorem dX12_spread_14 : decode cX12_spread 14 = .ok (.bipush (-2), 2) := by decide +kernel
theorem dX12_spread_16 : decode cX12_spread 16 = .ok (.iastore, 1) := by decide +kernel
theorem dX12_spread_17 : decode cX12_spread 17 = .ok (.iinc 1 1, 3) := by decide +kernel
theorem dX12_spread_20 : decode cX12_spread 20 = .ok (.goto (-18), 3) := by decide +kernel
theorem dX12_spread_23 : decode cX12_spread 23 = .ok (.aload_n 0, 1) := by decide +kernel
theorem dX12_spread_24 : decode cX12_spread 24 = .ok (.aload_n 0, 1) := by decide +kernel
theorem dX12_spread_25 : decode cX12_spread 25 = .ok (.getfield 7, 3) := by decide +kernel
theorem dX12_spread_28 : decode cX12_spread 28 = .ok (.invokevirtual 419, 3) := by decide +kernel
theorem dX12_spread_31 : decode cX12_spread 31 = .ok (.aload_n 0, 1) := by decide +kernel
theorem dX12_spread_32 : decode cX12_spread 32 = .ok (.invokevirtual 413, 3) := by decide +kernel
theorem dX12_spread_35 : decode cX12_spread 35 = .ok (.istore_n 1, 1) := by decide +kernel
theorem dX12_spread_36 : decode cX12_spread 36 = .ok (.aload_n 0, 1) := by decide +kernel
theorem dX12_spread_37 : decode cX12_spread 37 = .ok (.getfield 65, 3) := by decide +kernel
theorem dX12_spread_40 : decode cX12_spread 40 = .ok (.iconst 0, 1) := by decide +kernel
theorem dX12_spread_41 : decode cX12_spread 41 = .ok (.aload_n 0, 1) := by decide +kernel
theorem dX12_spread_42 : decode cX12_spread 42 = .ok (.invokevirtual 423, 3) := by decide +kernel
theorem dX12_spread_45 : decode cX12_spread 45 = .ok (.iastore, 1) := by decide +kernel
theorem dX12_spread_46 : decode cX12_spread 46 = .ok (.aload_n 0, 1) := by decide +kernel
theorem dX12_spread_47 : decode cX12_spread 47 = .ok (.getfield 59, 3) := by decide +kernel
theorem dX12_spread_50 : decode cX12_spread 50 = .ok (.aload_n 0, 1) := by decide +kernel
theorem dX12_spread_51 : decode cX12_spread 51 = .ok (.getfield 65, 3) := by decide +kernel
theorem dX12_spread_54 : decode cX12_spread 54 = .ok (.iconst 0, 1) := by decide +kernel
theorem dX12_spread_55 : decode cX12_spread 55 = .ok (.iaload, 1) := by decide +kernel
theorem dX12_spread_56 : decode cX12_spread 56 = .ok (.iconst (-1), 1) := by decide +kernel
theorem dX12_spread_57 : decode cX12_spread 57 = .ok (.iastore, 1) := by decide +kernel
theorem dX12_spread_58 : decode cX12_spread 58 = .ok (.aload_n 0, 1) := by decide +kernel
theorem dX12_spread_59 : decode cX12_spread 59 = .ok (.aload_n 0, 1) := by decide +kernel
theorem dX12_spread_60 : decode cX12_spread 60 = .ok (.invokevirtual 426, 3) := by decide +kernel
theorem dX12_spread_63 : decode cX12_spread 63 = .ok (.ifCond .eq 7, 3) := by decide +kernel
theorem dX12_spread_66 : decode cX12_spread 66 = .ok (.iconst 0, 1) := by decide +kernel
theorem dX12_spread_67 : decode cX12_spread 67 = .ok (.goto 4, 3) := by decide +kernel
theorem dX12_spread_70 : decode cX12_spread 70 = .ok (.iconst (-1), 1) := by decide +kernel
theorem dX12_spread_71 : decode cX12_spread 71 = .ok (.putfield 429, 3) := by decide +kernel
theorem dX12_spread_74 : decode cX12_spread 74 = .ok (.iconst 1, 1) := by decide +kernel
theorem dX12_spread_75 : decode cX12_spread 75 = .ok (.istore_n 2, 1) := by decide +kernel
theorem dX12_spread_76 : decode cX12_spread 76 = .ok (.iconst 0, 1) := by decide +kernel
theorem dX12_spread_77 : decode cX12_spread 77 = .ok (.istore_n 3, 1) := by decide +kernel
theorem dX12_spread_78 : decode cX12_spread 78 = .ok (.iload_n 3, 1) := by decide +kernel
theorem dX12_spread_79 : decode cX12_spread 79 = .ok (.iload_n 2, 1) := by decide +kernel
theorem dX12_spread_80 : decode cX12_spread 80 = .ok (.if_icmp .ge 128, 3) := by decide +kernel
theorem dX12_spread_83 : decode cX12_spread 83 = .ok (.iconst 0, 1) := by decide +kernel
theorem dX12_spread_84 : decode cX12_spread 84 = .ok (.istore 4, 2) := by decide +kernel
theorem dX12_spread_86 : decode cX12_spread 86 = .ok (.iload 4, 2) := by decide +kernel
theorem dX12_spread_88 : decode cX12_spread 88 = .ok (.bipush 9, 2) := by decide +kernel
theorem dX12_spread_90 : decode cX12_spread 90 = .ok (.if_icmp .ge 112, 3) := by decide +kernel
theorem dX12_spread_93 : decode cX12_spread 93 = .ok (.aload_n 0, 1) := by decide +kernel
theorem dX12_spread_94 : decode cX12_spread 94 = .ok (.aload_n 0, 1) := by decide +kernel
theorem dX12_spread_95 : decode cX12_spread 95 = .ok (.getfield 65, 3) := by decide +kernel
theorem dX12_spread_98 : decode cX12_spread 98 = .ok (.iload_n 3, 1) := by decide +kernel
theorem dX12_spread_99 : decode cX12_spread 99 = .ok (.iaload, 1) := by decide +kernel
theorem dX12_spread_100 : decode cX12_spread 100 = .ok (.iload_n 1, 1) := by decide +kernel
theorem dX12_spread_101 : decode cX12_spread 101 = .ok (.invokevirtual 432, 3) := by decide +kernel
theorem dX12_spread_104 : decode cX12_spread 104 = .ok (.aload_n 0, 1) := by decide +kernel
theorem dX12_spread_105 : decode cX12_spread 105 = .ok (.iload 4, 2) := by decide +kernel
theorem dX12_spread_107 : decode cX12_spread 107 = .ok (.iconst 3, 1) := by decide +kernel
theorem dX12_spread_108 : decode cX12_spread 108 = .ok (.idiv, 1) := by decide +kernel
theorem dX12_spread_109 : decode cX12_spread 109 = .ok (.iload 4, 2) := by decide +kernel
theorem dX12_spread_111 : decode cX12_spread 111 = .ok (.iconst 3, 1) := by decide +kernel
theorem dX12_spread_112 : decode cX12_spread 112 = .ok (.irem, 1) := by decide +kernel
theorem dX12_spread_113 : decode cX12_spread 113 = .ok (.invokevirtual 435, 3) := by decide +kernel
theorem dX12_spread_116 : decode cX12_spread 116 = .ok (.ifCond .ne 6, 3) := by decide +kernel
theorem dX12_spread_119 : decode cX12_spread 119 = .ok (.goto 77, 3) := by decide +kernel
theorem dX12_spread_122 : decode cX12_spread 122 = .ok (.aload_n 0, 1) := by decide +kernel
theorem dX12_spread_123 : decode cX12_spread 123 = .ok (.invokevirtual 423, 3) := by decide +kernel
theorem dX12_spread_126 : decode cX12_spread 126 = .ok (.istore 5, 2) := by decide +kernel
theorem dX12_spread_128 : decode cX12_spread 128 = .ok (.aload_n 0, 1) := by decide +kernel
theorem dX12_spread_129 : decode cX12_spread 129 = .ok (.getfield 59, 3) := by decide +kernel
theorem dX12_spread_132 : decode cX12_spread 132 = .ok (.iload 5, 2) := by decide +kernel
theorem dX12_spread_134 : decode cX12_spread 134 = .ok (.iaload, 1) := by decide +kernel
theorem dX12_spread_135 : decode cX12_spread 135 = .ok (.bipush (-2), 2) := by decide +kernel
theorem dX12_spread_137 : decode cX12_spread 137 = .ok (.if_icmp .eq 6, 3) := by decide +kernel
theorem dX12_spread_140 : decode cX12_spread 140 = .ok (.goto 56, 3) := by decide +kernel
theorem dX12_spread_143 : decode cX12_spread 143 = .ok (.aload_n 0, 1) := by decide +kernel
theorem dX12_spread_144 : decode cX12_spread 144 = .ok (.getfield 59, 3) := by decide +kernel
theorem dX12_spread_147 : decode cX12_spread 147 = .ok (.iload 5, 2) := by decide +kernel
theorem dX12_spread_149 : decode cX12_spread 149 = .ok (.aload_n 0, 1) := by decide +kernel
theorem dX12_spread_150 : decode cX12_spread 150 = .ok (.getfield 65, 3) := by decide +kernel
theorem dX12_spread_153 : decode cX12_spread 153 = .ok (.iload_n 3, 1) := by decide +kernel
theorem dX12_spread_154 : decode cX12_spread 154 = .ok (.iaload, 1) := by decide +kernel
theorem dX12_spread_155 : decode cX12_spread 155 = .ok (.iastore, 1) := by decide +kernel
theorem dX12_spread_156 : decode cX12_spread 156 = .ok (.aload_n 0, 1) := by decide +kernel
theorem dX12_spread_157 : decode cX12_spread 157 = .ok (.getfield 62, 3) := by decide +kernel
theorem dX12_spread_160 : decode cX12_spread 160 = .ok (.iload 5, 2) := by decide +kernel
theorem dX12_spread_162 : decode cX12_spread 162 = .ok (.iload 4, 2) := by decide +kernel
theorem dX12_spread_164 : decode cX12_spread 164 = .ok (.iastore, 1) := by decide +kernel
theorem dX12_spread_165 : decode cX12_spread 165 = .ok (.aload_n 0, 1) := by decide +kernel
theorem dX12_spread_166 : decode cX12_spread 166 = .ok (.getfield 65, 3) := by decide +kernel
theorem dX12_spread_169 : decode cX12_spread 169 = .ok (.iload_n 2, 1) := by decide +kernel
theorem dX12_spread_170 : decode cX12_spread 170 = .ok (.iload 5, 2) := by decide +kernel
theorem dX12_spread_172 : decode cX12_spread 172 = .ok (.iastore, 1) := by decide +kernel
theorem dX12_spread_173 : decode cX12_spread 173 = .ok (.aload_n 0, 1) := by decide +kernel
theorem dX12_spread_174 : decode cX12_spread 174 = .ok (.getfield 429, 3) := by decide +kernel
theorem dX12_spread_177 : decode cX12_spread 177 = .ok (.iconst (-1), 1) := by decide +kernel
theorem dX12_spread_178 : decode cX12_spread 178 = .ok (.if_icmp .ne 15, 3) := by decide +kernel
theorem dX12_spread_181 : decode cX12_spread 181 = .ok (.aload_n 0, 1) := by decide +kernel
theorem dX12_spread_182 : decode cX12_spread 182 = .ok (.invokevirtual 426, 3) := by decide +kernel
theorem dX12_spread_185 : decode cX12_spread 185 = .ok (.ifCond .eq 8, 3) := by decide +kernel
theorem dX12_spread_188 : decode cX12_spread 188 = .ok (.aload_n 0, 1) := by decide +kernel
theorem dX12_spread_189 : decode cX12_spread 189 = .ok (.iload_n 2, 1) := by decide +kernel
theorem dX12_spread_190 : decode cX12_spread 190 = .ok (.putfield 429, 3) := by decide +kernel
theorem dX12_spread_193 : decode cX12_spread 193 = .ok (.iinc 2 1, 3) := by decide +kernel
theorem dX12_spread_196 : decode cX12_spread 196 = .ok (.iinc 4 1, 3) := by decide +kernel
theorem dX12_spread_199 : decode cX12_spread 199 = .ok (.goto (-113), 3) := by decide +kernel
theorem dX12_spread_202 : decode cX12_spread 202 = .ok (.iinc 3 1, 3) := by decide +kernel
theorem dX12_spread_205 : decode cX12_spread 205 = .ok (.goto (-127), 3) := by decide +kernel
theorem dX12_spread_208 : decode cX12_spread 208 = .ok (.iload_n 2, 1) := by decide +kernel
theorem dX12_spread_209 : decode cX12_spread 209 = .ok (.ireturn, 1) := by decide +kernel
theorem dX12_reach_0 : decode cX12_reach 0 = .ok (.aload_n 0, 1) := by decide +kernel
theorem dX12_reach_1 : decode cX12_reach 1 = .ok (.invokevirtual 438, 3) := by decide +kernel
theorem dX12_reach_4 : decode cX12_reach 4 = .ok (.ireturn, 1) := by decide +kernel
theorem dX12_shunts_0 : decode cX12_shunts 0 = .ok (.aload_n 0, 1) := by decide +kernel
theorem dX12_shunts_1 : decode cX12_shunts 1 = .ok (.invokevirtual 438, 3) := by decide +kernel
theorem dX12_shunts_4 : decode cX12_shunts 4 = .ok (.ifCond .eq 11, 3) := by decide +kernel
theorem dX12_shunts_7 : decode cX12_shunts 7 = .ok (.aload_n 0, 1) := by decide +kernel
theorem dX12_shunts_8 : decode cX12_shunts 8 = .ok (.getfield 429, 3) := by decide +kernel
theorem dX12_shunts_11 : decode cX12_shunts 11 = .ok (.iconst (-1), 1) := by decide +kernel
theorem dX12_shunts_12 : decode cX12_shunts 12 = .ok (.if_icmp .ne 6, 3) := by decide +kernel
theorem dX12_shunts_15 : decode cX12_shunts 15 = .ok (.bipush (-2), 2) := by decide +kernel
theorem dX12_shunts_17 : decode cX12_shunts 17 = .ok (.ireturn, 1) := by decide +kernel
theorem dX12_shunts_18 : decode cX12_shunts 18 = .ok (.iconst 0, 1) := by decide +kernel
theorem dX12_shunts_19 : decode cX12_shunts 19 = .ok (.istore_n 2, 1) := by decide +kernel
theorem dX12_shunts_20 : decode cX12_shunts 20 = .ok (.aload_n 0, 1) := by decide +kernel
theorem dX12_shunts_21 : decode cX12_shunts 21 = .ok (.getfield 65, 3) := by decide +kernel
theorem dX12_shunts_24 : decode cX12_shunts 24 = .ok (.aload_n 0, 1) := by decide +kernel
theorem dX12_shunts_25 : decode cX12_shunts 25 = .ok (.getfield 429, 3) := by decide +kernel
theorem dX12_shunts_28 : decode cX12_shunts 28 = .ok (.iaload, 1) := by decide +kernel
theorem dX12_shunts_29 : decode cX12_shunts 29 = .ok (.istore_n 3, 1) := by decide +kernel
theorem dX12_shunts_30 : decode cX12_shunts 30 = .ok (.aload_n 0, 1) := by decide +kernel
theorem dX12_shunts_31 : decode cX12_shunts 31 = .ok (.getfield 59, 3) := by decide +kernel
theorem dX12_shunts_34 : decode cX12_shunts 34 = .ok (.iload_n 3, 1) := by decide +kernel
theorem dX12_shunts_35 : decode cX12_shunts 35 = .ok (.iaload, 1) := by decide +kernel
theorem dX12_shunts_36 : decode cX12_shunts 36 = .ok (.iconst (-1), 1) := by decide +kernel
theorem dX12_shunts_37 : decode cX12_shunts 37 = .ok (.if_icmp .eq 16, 3) := by decide +kernel
theorem dX12_shunts_40 : decode cX12_shunts 40 = .ok (.iinc 2 1, 3) := by decide +kernel
theorem dX12_shunts_43 : decode cX12_shunts 43 = .ok (.aload_n 0, 1) := by decide +kernel
theorem dX12_shunts_44 : decode cX12_shunts 44 = .ok (.getfield 59, 3) := by decide +kernel
theorem dX12_shunts_47 : decode cX12_shunts 47 = .ok (.iload_n 3, 1) := by decide +kernel
theorem dX12_shunts_48 : decode cX12_shunts 48 = .ok (.iaload, 1) := by decide +kernel
theorem dX12_shunts_49 : decode cX12_shunts 49 = .ok (.istore_n 3, 1) := by decide +kernel
theorem dX12_shunts_50 : decode cX12_shunts 50 = .ok (.goto (-20), 3) := by decide +kernel
theorem dX12_shunts_53 : decode cX12_shunts 53 = .ok (.iload_n 1, 1) := by decide +kernel
theorem dX12_shunts_54 : decode cX12_shunts 54 = .ok (.iconst (-1), 1) := by decide +kernel
theorem dX12_shunts_55 : decode cX12_shunts 55 = .ok (.if_icmp .ne 5, 3) := by decide +kernel
theorem dX12_shunts_58 : decode cX12_shunts 58 = .ok (.iload_n 2, 1) := by decide +kernel
theorem dX12_shunts_59 : decode cX12_shunts 59 = .ok (.ireturn, 1) := by decide +kernel
theorem dX12_shunts_60 : decode cX12_shunts 60 = .ok (.iload_n 1, 1) := by decide +kernel
theorem dX12_shunts_61 : decode cX12_shunts 61 = .ok (.iconst 0, 1) := by decide +kernel
theorem dX12_shunts_62 : decode cX12_shunts 62 = .ok (.iload_n 2, 1) := by decide +kernel
theorem dX12_shunts_63 : decode cX12_shunts 63 = .ok (.iconst 1, 1) := by decide +kernel
theorem dX12_shunts_64 : decode cX12_shunts 64 = .ok (.isub, 1) := by decide +kernel
theorem dX12_shunts_65 : decode cX12_shunts 65 = .ok (.invokestatic 78, 3) := by decide +kernel
theorem dX12_shunts_68 : decode cX12_shunts 68 = .ok (.ifCond .ne 6, 3) := by decide +kernel
theorem dX12_shunts_71 : decode cX12_shunts 71 = .ok (.bipush (-2), 2) := by decide +kernel
theorem dX12_shunts_73 : decode cX12_shunts 73 = .ok (.ireturn, 1) := by decide +kernel
theorem dX12_shunts_74 : decode cX12_shunts 74 = .ok (.aload_n 0, 1) := by decide +kernel
theorem dX12_shunts_75 : decode cX12_shunts 75 = .ok (.getfield 65, 3) := by decide +kernel
theorem dX12_shunts_78 : decode cX12_shunts 78 = .ok (.aload_n 0, 1) := by decide +kernel
theorem dX12_shunts_79 : decode cX12_shunts 79 = .ok (.getfield 429, 3) := by decide +kernel
theorem dX12_shunts_82 : decode cX12_shunts 82 = .ok (.iaload, 1) := by decide +kernel
theorem dX12_shunts_83 : decode cX12_shunts 83 = .ok (.istore_n 3, 1) := by decide +kernel
theorem dX12_shunts_84 : decode cX12_shunts 84 = .ok (.iload_n 2, 1) := by decide +kernel
theorem dX12_shunts_85 : decode cX12_shunts 85 = .ok (.iconst 1, 1) := by decide +kernel
theorem dX12_shunts_86 : decode cX12_shunts 86 = .ok (.isub, 1) := by decide +kernel
theorem dX12_shunts_87 : decode cX12_shunts 87 = .ok (.istore 4, 2) := by decide +kernel
theorem dX12_shunts_89 : decode cX12_shunts 89 = .ok (.iload 4, 2) := by decide +kernel
theorem dX12_shunts_91 : decode cX12_shunts 91 = .ok (.iload_n 1, 1) := by decide +kernel
theorem dX12_shunts_92 : decode cX12_shunts 92 = .ok (.if_icmp .le 16, 3) := by decide +kernel
theorem dX12_shunts_95 : decode cX12_shunts 95 = .ok (.aload_n 0, 1) := by decide +kernel
theorem dX12_shunts_96 : decode cX12_shunts 96 = .ok (.getfield 59, 3) := by decide +kernel
theorem dX12_shunts_99 : decode cX12_shunts 99 = .ok (.iload_n 3, 1) := by decide +kernel
theorem dX12_shunts_100 : decode cX12_shunts 100 = .ok (.iaload, 1) := by decide +kernel
theorem dX12_shunts_101 : decode cX12_shunts 101 = .ok (.istore_n 3, 1) := by decide +kernel
theorem dX12_shunts_102 : decode cX12_shunts 102 = .ok (.iinc 4 (-1), 3) := by decide +kernel
theorem dX12_shunts_105 : decode cX12_shunts 105 = .ok (.goto (-16), 3) := by decide +kernel
theorem dX12_shunts_108 : decode cX12_shunts 108 = .ok (.aload_n 0, 1) := by decide +kernel
theorem dX12_shunts_109 : decode cX12_shunts 109 = .ok (.getfield 62, 3) := by decide +kernel
theorem dX12_shunts_112 : decode cX12_shunts 112 = .ok (.iload_n 3, 1) := by decide +kernel
theorem dX12_shunts_113 : decode cX12_shunts 113 = .ok (.iaload, 1) := by decide +kernel
theorem dX12_shunts_114 : decode cX12_shunts 114 = .ok (.ireturn, 1) := by decide +kernel
theorem dX12_isOnTrack_0 : decode cX12_isOnTrack 0 = .ok (.aload_n 0, 1) := by decide +kernel
theorem dX12_isOnTrack_1 : decode cX12_isOnTrack 1 = .ok (.iload_n 1, 1) := by decide +kernel
theorem dX12_isOnTrack_2 : decode cX12_isOnTrack 2 = .ok (.invokevirtual 86, 3) := by decide +kernel
theorem dX12_isOnTrack_5 : decode cX12_isOnTrack 5 = .ok (.iload_n 2, 1) := by decide +kernel
theorem dX12_isOnTrack_6 : decode cX12_isOnTrack 6 = .ok (.if_icmp .ne 7, 3) := by decide +kernel
theorem dX12_isOnTrack_9 : decode cX12_isOnTrack 9 = .ok (.iconst 1, 1) := by decide +kernel
theorem dX12_isOnTrack_10 : decode cX12_isOnTrack 10 = .ok (.goto 4, 3) := by decide +kernel
theorem dX12_isOnTrack_13 : decode cX12_isOnTrack 13 = .ok (.iconst 0, 1) := by decide +kernel
theorem dX12_isOnTrack_14 : decode cX12_isOnTrack 14 = .ok (.ireturn, 1) := by decide +kernel
theorem dX12_layRows_0 : decode cX12_layRows 0 = .ok (.aload_n 0, 1) := by decide +kernel
theorem dX12_layRows_1 : decode cX12_layRows 1 = .ok (.getfield 7, 3) := by decide +kernel
theorem dX12_layRows_4 : decode cX12_layRows 4 = .ok (.bipush 12, 2) := by decide +kernel
theorem dX12_layRows_6 : decode cX12_layRows 6 = .ok (.iload_n 1, 1) := by decide +kernel
theorem dX12_layRows_7 : decode cX12_layRows 7 = .ok (.iadd, 1) := by decide +kernel
theorem dX12_layRows_8 : decode cX12_layRows 8 = .ok (.iaload, 1) := by decide +kernel
theorem dX12_layRows_9 : decode cX12_layRows 9 = .ok (.istore_n 2, 1) := by decide +kernel
theorem dX12_layRows_10 : decode cX12_layRows 10 = .ok (.iconst 0, 1) := by decide +kernel
theorem dX12_layRows_11 : decode cX12_layRows 11 = .ok (.istore_n 3, 1) := by decide +kernel
theorem dX12_layRows_12 : decode cX12_layRows 12 = .ok (.iconst 0, 1) := by decide +kernel
theorem dX12_layRows_13 : decode cX12_layRows 13 = .ok (.istore 4, 2) := by decide +kernel
theorem dX12_layRows_15 : decode cX12_layRows 15 = .ok (.iload 4, 2) := by decide +kernel
theorem dX12_layRows_17 : decode cX12_layRows 17 = .ok (.bipush 120, 2) := by decide +kernel
theorem dX12_layRows_19 : decode cX12_layRows 19 = .ok (.if_icmp .ge 168, 3) := by decide +kernel
theorem dX12_layRows_22 : decode cX12_layRows 22 = .ok (.aload_n 0, 1) := by decide +kernel
theorem dX12_layRows_23 : decode cX12_layRows 23 = .ok (.iload 4, 2) := by decide +kernel
theorem dX12_layRows_25 : decode cX12_layRows 25 = .ok (.invokevirtual 410, 3) := by decide +kernel
theorem dX12_layRows_28 : decode cX12_layRows 28 = .ok (.iconst 0, 1) := by decide +kernel
theorem dX12_layRows_29 : decode cX12_layRows 29 = .ok (.istore 5, 2) := by decide +kernel
theorem dX12_layRows_31 : decode cX12_layRows 31 = .ok (.iconst 1, 1) := by decide +kernel
theorem dX12_layRows_32 : decode cX12_layRows 32 = .ok (.istore 6, 2) := by decide +kernel
theorem dX12_layRows_34 : decode cX12_layRows 34 = .ok (.iconst 0, 1) := by decide +kernel
theorem dX12_layRows_35 : decode cX12_layRows 35 = .ok (.istore 7, 2) := by decide +kernel
theorem dX12_layRows_37 : decode cX12_layRows 37 = .ok (.iload 7, 2) := by decide +kernel
theorem dX12_layRows_39 : decode cX12_layRows 39 = .ok (.aload_n 0, 1) := by decide +kernel
theorem dX12_layRows_40 : decode cX12_layRows 40 = .ok (.getfield 7, 3) := by decide +kernel
theorem dX12_layRows_43 : decode cX12_layRows 43 = .ok (.iconst 0, 1) := by decide +kernel
theorem dX12_layRows_44 : decode cX12_layRows 44 = .ok (.iaload, 1) := by decide +kernel
theorem dX12_layRows_45 : decode cX12_layRows 45 = .ok (.if_icmp .ge 44, 3) := by decide +kernel
theorem dX12_layRows_48 : decode cX12_layRows 48 = .ok (.aload_n 0, 1) := by decide +kernel
theorem dX12_layRows_49 : decode cX12_layRows 49 = .ok (.aload_n 0, 1) := by decide +kernel
theorem dX12_layRows_50 : decode cX12_layRows 50 = .ok (.getfield 50, 3) := by decide +kernel
theorem dX12_layRows_53 : decode cX12_layRows 53 = .ok (.iload 7, 2) := by decide +kernel
theorem dX12_layRows_55 : decode cX12_layRows 55 = .ok (.iaload, 1) := by decide +kernel
theorem dX12_layRows_56 : decode cX12_layRows 56 = .ok (.iload_n 1, 1) := by decide +kernel
theorem dX12_layRows_57 : decode cX12_layRows 57 = .ok (.invokevirtual 441, 3) := by decide +kernel
theorem dX12_layRows_60 : decode cX12_layRows 60 = .ok (.ifCond .ne 6, 3) := by decide +kernel
theorem dX12_layRows_63 : decode cX12_layRows 63 = .ok (.goto 20, 3) := by decide +kernel
theorem dX12_layRows_66 : decode cX12_layRows 66 = .ok (.aload_n 0, 1) := by decide +kernel
theorem dX12_layRows_67 : decode cX12_layRows 67 = .ok (.getfield 50, 3) := by decide +kernel
theorem dX12_layRows_70 : decode cX12_layRows 70 = .ok (.iload 5, 2) := by decide +kernel
theorem dX12_layRows_72 : decode cX12_layRows 72 = .ok (.aload_n 0, 1) := by decide +kernel
theorem dX12_layRows_73 : decode cX12_layRows 73 = .ok (.getfield 50, 3) := by decide +kernel
theorem dX12_layRows_76 : decode cX12_layRows 76 = .ok (.iload 7, 2) := by decide +kernel
theorem dX12_layRows_78 : decode cX12_layRows 78 = .ok (.iaload, 1) := by decide +kernel
theorem dX12_layRows_79 : decode cX12_layRows 79 = .ok (.iastore, 1) := by decide +kernel
theorem dX12_layRows_80 : decode cX12_layRows 80 = .ok (.iinc 5 1, 3) := by decide +kernel
theorem dX12_layRows_83 : decode cX12_layRows 83 = .ok (.iinc 7 1, 3) := by decide +kernel
theorem dX12_layRows_86 : decode cX12_layRows 86 = .ok (.goto (-49), 3) := by decide +kernel
theorem dX12_layRows_89 : decode cX12_layRows 89 = .ok (.iconst 1, 1) := by decide +kernel
theorem dX12_layRows_90 : decode cX12_layRows 90 = .ok (.istore 7, 2) := by decide +kernel
theorem dX12_layRows_92 : decode cX12_layRows 92 = .ok (.iload 7, 2) := by decide +kernel
theorem dX12_layRows_94 : decode cX12_layRows 94 = .ok (.iload_n 2, 1) := by decide +kernel
theorem dX12_layRows_95 : decode cX12_layRows 95 = .ok (.if_icmp .ge 42, 3) := by decide +kernel
theorem dX12_layRows_98 : decode cX12_layRows 98 = .ok (.iload 6, 2) := by decide +kernel
theorem dX12_layRows_100 : decode cX12_layRows 100 = .ok (.aload_n 0, 1) := by decide +kernel
theorem dX12_layRows_101 : decode cX12_layRows 101 = .ok (.aload_n 0, 1) := by decide +kernel
theorem dX12_layRows_102 : decode cX12_layRows 102 = .ok (.getfield 50, 3) := by decide +kernel
theorem dX12_layRows_105 : decode cX12_layRows 105 = .ok (.iload 7, 2) := by decide +kernel
theorem dX12_layRows_107 : decode cX12_layRows 107 = .ok (.iconst 1, 1) := by decide +kernel
theorem dX12_layRows_108 : decode cX12_layRows 108 = .ok (.isub, 1) := by decide +kernel
theorem dX12_layRows_109 : decode cX12_layRows 109 = .ok (.iaload, 1) := by decide +kernel
theorem dX12_layRows_110 : decode cX12_layRows 110 = .ok (.aload_n 0, 1) := by decide +kernel
theorem dX12_layRows_111 : decode cX12_layRows 111 = .ok (.getfield 50, 3) := by decide +kernel
theorem dX12_layRows_114 : decode cX12_layRows 114 = .ok (.iload 7, 2) := by decide +kernel
theorem dX12_layRows_116 : decode cX12_layRows 116 = .ok (.iaload, 1) := by decide +kernel
theorem dX12_layRows_117 : decode cX12_layRows 117 = .ok (.invokevirtual 330, 3) := by decide +kernel
theorem dX12_layRows_120 : decode cX12_layRows 120 = .ok (.ifCond .ne 7, 3) := by decide +kernel
theorem dX12_layRows_123 : decode cX12_layRows 123 = .ok (.iconst 1, 1) := by decide +kernel
theorem dX12_layRows_124 : decode cX12_layRows 124 = .ok (.goto 4, 3) := by decide +kernel
theorem dX12_layRows_127 : decode cX12_layRows 127 = .ok (.iconst 0, 1) := by decide +kernel
theorem dX12_layRows_128 : decode cX12_layRows 128 = .ok (.iand, 1) := by decide +kernel
theorem dX12_layRows_129 : decode cX12_layRows 129 = .ok (.istore 6, 2) := by decide +kernel
theorem dX12_layRows_131 : decode cX12_layRows 131 = .ok (.iinc 7 1, 3) := by decide +kernel
theorem dX12_layRows_134 : decode cX12_layRows 134 = .ok (.goto (-42), 3) := by decide +kernel
theorem dX12_layRows_137 : decode cX12_layRows 137 = .ok (.iload 6, 2) := by decide +kernel
theorem dX12_layRows_139 : decode cX12_layRows 139 = .ok (.ifCond .ne 6, 3) := by decide +kernel
theorem dX12_layRows_142 : decode cX12_layRows 142 = .ok (.goto 39, 3) := by decide +kernel
theorem dX12_layRows_145 : decode cX12_layRows 145 = .ok (.iload_n 3, 1) := by decide +kernel
theorem dX12_layRows_146 : decode cX12_layRows 146 = .ok (.ifCond .ne 32, 3) := by decide +kernel
theorem dX12_layRows_149 : decode cX12_layRows 149 = .ok (.iconst 0, 1) := by decide +kernel
theorem dX12_layRows_150 : decode cX12_layRows 150 = .ok (.istore 7, 2) := by decide +kernel
theorem dX12_layRows_152 : decode cX12_layRows 152 = .ok (.iload 7, 2) := by decide +kernel
theorem dX12_layRows_154 : decode cX12_layRows 154 = .ok (.iload_n 2, 1) := by decide +kernel
theorem dX12_layRows_155 : decode cX12_layRows 155 = .ok (.if_icmp .ge 23, 3) := by decide +kernel
theorem dX12_layRows_158 : decode cX12_layRows 158 = .ok (.aload_n 0, 1) := by decide +kernel
theorem dX12_layRows_159 : decode cX12_layRows 159 = .ok (.getfield 68, 3) := by decide +kernel
theorem dX12_layRows_162 : decode cX12_layRows 162 = .ok (.iload 7, 2) := by decide +kernel
theorem dX12_layRows_164 : decode cX12_layRows 164 = .ok (.aload_n 0, 1) := by decide +kernel
theorem dX12_layRows_165 : decode cX12_layRows 165 = .ok (.getfield 50, 3) := by decide +kernel
theorem dX12_layRows_168 : decode cX12_layRows 168 = .ok (.iload 7, 2) := by decide +kernel
theorem dX12_layRows_170 : decode cX12_layRows 170 = .ok (.iaload, 1) := by decide +kernel
theorem dX12_layRows_171 : decode cX12_layRows 171 = .ok (.iastore, 1) := by decide +kernel
theorem dX12_layRows_172 : decode cX12_layRows 172 = .ok (.iinc 7 1, 3) := by decide +kernel
theorem dX12_layRows_175 : decode cX12_layRows 175 = .ok (.goto (-23), 3) := by decide +kernel
theorem dX12_layRows_178 : decode cX12_layRows 178 = .ok (.iinc 3 1, 3) := by decide +kernel
theorem dX12_layRows_181 : decode cX12_layRows 181 = .ok (.iinc 4 1, 3) := by decide +kernel
theorem dX12_layRows_184 : decode cX12_layRows 184 = .ok (.goto (-169), 3) := by decide +kernel
theorem dX12_layRows_187 : decode cX12_layRows 187 = .ok (.iload_n 3, 1) := by decide +kernel
theorem dX12_layRows_188 : decode cX12_layRows 188 = .ok (.iload_n 2, 1) := by decide +kernel
theorem dX12_layRows_189 : decode cX12_layRows 189 = .ok (.invokestatic 404, 3) := by decide +kernel
theorem dX12_layRows_192 : decode cX12_layRows 192 = .ok (.imul, 1) := by decide +kernel
theorem dX12_layRows_193 : decode cX12_layRows 193 = .ok (.bipush 120, 2) := by decide +kernel
theorem dX12_layRows_195 : decode cX12_layRows 195 = .ok (.idiv, 1) := by decide +kernel
theorem dX12_layRows_196 : decode cX12_layRows 196 = .ok (.ireturn, 1) := by decide +kernel
theorem dX12_rows_0 : decode cX12_rows 0 = .ok (.iload_n 1, 1) := by decide +kernel
theorem dX12_rows_1 : decode cX12_rows 1 = .ok (.invokestatic 327, 3) := by decide +kernel
theorem dX12_rows_4 : decode cX12_rows 4 = .ok (.ifCond .eq 12, 3) := by decide +kernel
theorem dX12_rows_7 : decode cX12_rows 7 = .ok (.aload_n 0, 1) := by decide +kernel
theorem dX12_rows_8 : decode cX12_rows 8 = .ok (.iload_n 1, 1) := by decide +kernel
theorem dX12_rows_9 : decode cX12_rows 9 = .ok (.invokevirtual 444, 3) := by decide +kernel
theorem dX12_rows_12 : decode cX12_rows 12 = .ok (.i2l, 1) := by decide +kernel
theorem dX12_rows_13 : decode cX12_rows 13 = .ok (.goto 6, 3) := by decide +kernel
theorem dX12_rows_16 : decode cX12_rows 16 = .ok (.ldc2_w 447, 3) := by decide +kernel
theorem dX12_rows_19 : decode cX12_rows 19 = .ok (.lreturn, 1) := by decide +kernel
theorem dX12_lowest_0 : decode cX12_lowest 0 = .ok (.iload_n 1, 1) := by decide +kernel
theorem dX12_lowest_1 : decode cX12_lowest 1 = .ok (.invokestatic 327, 3) := by decide +kernel
theorem dX12_lowest_4 : decode cX12_lowest 4 = .ok (.ifCond .eq 39, 3) := by decide +kernel
theorem dX12_lowest_7 : decode cX12_lowest 7 = .ok (.iload_n 2, 1) := by decide +kernel
theorem dX12_lowest_8 : decode cX12_lowest 8 = .ok (.iconst 0, 1) := by decide +kernel
theorem dX12_lowest_9 : decode cX12_lowest 9 = .ok (.aload_n 0, 1) := by decide +kernel
theorem dX12_lowest_10 : decode cX12_lowest 10 = .ok (.getfield 7, 3) := by decide +kernel
theorem dX12_lowest_13 : decode cX12_lowest 13 = .ok (.bipush 12, 2) := by decide +kernel
theorem dX12_lowest_15 : decode cX12_lowest 15 = .ok (.iload_n 1, 1) := by decide +kernel
theorem dX12_lowest_16 : decode cX12_lowest 16 = .ok (.iadd, 1) := by decide +kernel
theorem dX12_lowest_17 : decode cX12_lowest 17 = .ok (.iaload, 1) := by decide +kernel
theorem dX12_lowest_18 : decode cX12_lowest 18 = .ok (.iconst 1, 1) := by decide +kernel
theorem dX12_lowest_19 : decode cX12_lowest 19 = .ok (.isub, 1) := by decide +kernel
theorem dX12_lowest_20 : decode cX12_lowest 20 = .ok (.invokestatic 78, 3) := by decide +kernel
theorem dX12_lowest_23 : decode cX12_lowest 23 = .ok (.ifCond .eq 20, 3) := by decide +kernel
theorem dX12_lowest_26 : decode cX12_lowest 26 = .ok (.aload_n 0, 1) := by decide +kernel
theorem dX12_lowest_27 : decode cX12_lowest 27 = .ok (.iload_n 1, 1) := by decide +kernel
theorem dX12_lowest_28 : decode cX12_lowest 28 = .ok (.invokevirtual 444, 3) := by decide +kernel
theorem dX12_lowest_31 : decode cX12_lowest 31 = .ok (.ifCond .le 12, 3) := by decide +kernel
theorem dX12_lowest_34 : decode cX12_lowest 34 = .ok (.aload_n 0, 1) := by decide +kernel
theorem dX12_lowest_35 : decode cX12_lowest 35 = .ok (.getfield 68, 3) := by decide +kernel
theorem dX12_lowest_38 : decode cX12_lowest 38 = .ok (.iload_n 2, 1) := by decide +kernel
theorem dX12_lowest_39 : decode cX12_lowest 39 = .ok (.iaload, 1) := by decide +kernel
theorem dX12_lowest_40 : decode cX12_lowest 40 = .ok (.goto 5, 3) := by decide +kernel
theorem dX12_lowest_43 : decode cX12_lowest 43 = .ok (.bipush (-2), 2) := by decide +kernel
theorem dX12_lowest_45 : decode cX12_lowest 45 = .ok (.ireturn, 1) := by decide +kernel
theorem dX12_doneBy_0 : decode cX12_doneBy 0 = .ok (.aload_n 0, 1) := by decide +kernel
theorem dX12_doneBy_1 : decode cX12_doneBy 1 = .ok (.iload_n 1, 1) := by decide +kernel
theorem dX12_doneBy_2 : decode cX12_doneBy 2 = .ok (.invokevirtual 410, 3) := by decide +kernel
theorem dX12_doneBy_5 : decode cX12_doneBy 5 = .ok (.iconst 0, 1) := by decide +kernel
theorem dX12_doneBy_6 : decode cX12_doneBy 6 = .ok (.istore_n 2, 1) := by decide +kernel
theorem dX12_doneBy_7 : decode cX12_doneBy 7 = .ok (.iconst 0, 1) := by decide +kernel
theorem dX12_doneBy_8 : decode cX12_doneBy 8 = .ok (.istore_n 3, 1) := by decide +kernel
theorem dX12_doneBy_9 : decode cX12_doneBy 9 = .ok (.iconst 0, 1) := by decide +kernel
theorem dX12_doneBy_10 : decode cX12_doneBy 10 = .ok (.istore 4, 2) := by decide +kernel
theorem dX12_doneBy_12 : decode cX12_doneBy 12 = .ok (.iload 4, 2) := by decide +kernel
theorem dX12_doneBy_14 : decode cX12_doneBy 14 = .ok (.aload_n 0, 1) := by decide +kernel
theorem dX12_doneBy_15 : decode cX12_doneBy 15 = .ok (.getfield 7, 3) := by decide +kernel
theorem dX12_doneBy_18 : decode cX12_doneBy 18 = .ok (.iconst 0, 1) := by decide +kernel
theorem dX12_doneBy_19 : decode cX12_doneBy 19 = .ok (.iaload, 1) := by decide +kernel
theorem dX12_doneBy_20 : decode cX12_doneBy 20 = .ok (.if_icmp .ge 54, 3) := by decide +kernel
theorem dX12_doneBy_23 : decode cX12_doneBy 23 = .ok (.iload_n 2, 1) := by decide +kernel
theorem dX12_doneBy_24 : decode cX12_doneBy 24 = .ok (.aload_n 0, 1) := by decide +kernel
theorem dX12_doneBy_25 : decode cX12_doneBy 25 = .ok (.getfield 7, 3) := by decide +kernel
theorem dX12_doneBy_28 : decode cX12_doneBy 28 = .ok (.bipush 46, 2) := by decide +kernel
theorem dX12_doneBy_30 : decode cX12_doneBy 30 = .ok (.aload_n 0, 1) := by decide +kernel
theorem dX12_doneBy_31 : decode cX12_doneBy 31 = .ok (.getfield 50, 3) := by decide +kernel
theorem dX12_doneBy_34 : decode cX12_doneBy 34 = .ok (.iload 4, 2) := by decide +kernel
theorem dX12_doneBy_36 : decode cX12_doneBy 36 = .ok (.iaload, 1) := by decide +kernel
theorem dX12_doneBy_37 : decode cX12_doneBy 37 = .ok (.iadd, 1) := by decide +kernel
theorem dX12_doneBy_38 : decode cX12_doneBy 38 = .ok (.iaload, 1) := by decide +kernel
theorem dX12_doneBy_39 : decode cX12_doneBy 39 = .ok (.iadd, 1) := by decide +kernel
theorem dX12_doneBy_40 : decode cX12_doneBy 40 = .ok (.istore_n 2, 1) := by decide +kernel
theorem dX12_doneBy_41 : decode cX12_doneBy 41 = .ok (.iload_n 2, 1) := by decide +kernel
theorem dX12_doneBy_42 : decode cX12_doneBy 42 = .ok (.iload_n 3, 1) := by decide +kernel
theorem dX12_doneBy_43 : decode cX12_doneBy 43 = .ok (.if_icmp .le 7, 3) := by decide +kernel
theorem dX12_doneBy_46 : decode cX12_doneBy 46 = .ok (.iload_n 2, 1) := by decide +kernel
theorem dX12_doneBy_47 : decode cX12_doneBy 47 = .ok (.goto 4, 3) := by decide +kernel
theorem dX12_doneBy_50 : decode cX12_doneBy 50 = .ok (.iload_n 3, 1) := by decide +kernel
theorem dX12_doneBy_51 : decode cX12_doneBy 51 = .ok (.aload_n 0, 1) := by decide +kernel
theorem dX12_doneBy_52 : decode cX12_doneBy 52 = .ok (.getfield 7, 3) := by decide +kernel
theorem dX12_doneBy_55 : decode cX12_doneBy 55 = .ok (.bipush 51, 2) := by decide +kernel
theorem dX12_doneBy_57 : decode cX12_doneBy 57 = .ok (.aload_n 0, 1) := by decide +kernel
theorem dX12_doneBy_58 : decode cX12_doneBy 58 = .ok (.getfield 50, 3) := by decide +kernel
theorem dX12_doneBy_61 : decode cX12_doneBy 61 = .ok (.iload 4, 2) := by decide +kernel
theorem dX12_doneBy_63 : decode cX12_doneBy 63 = .ok (.iaload, 1) := by decide +kernel
theorem dX12_doneBy_64 : decode cX12_doneBy 64 = .ok (.iadd, 1) := by decide +kernel
theorem dX12_doneBy_65 : decode cX12_doneBy 65 = .ok (.iaload, 1) := by decide +kernel
theorem dX12_doneBy_66 : decode cX12_doneBy 66 = .ok (.iadd, 1) := by decide +kernel
theorem dX12_doneBy_67 : decode cX12_doneBy 67 = .ok (.istore_n 3, 1) := by decide +kernel
theorem dX12_doneBy_68 : decode cX12_doneBy 68 = .ok (.iinc 4 1, 3) := by decide +kernel
theorem dX12_doneBy_71 : decode cX12_doneBy 71 = .ok (.goto (-59), 3) := by decide +kernel
theorem dX12_doneBy_74 : decode cX12_doneBy 74 = .ok (.iload_n 3, 1) := by decide +kernel
theorem dX12_doneBy_75 : decode cX12_doneBy 75 = .ok (.ireturn, 1) := by decide +kernel
theorem dX12_bestOrder_0 : decode cX12_bestOrder 0 = .ok (.iconst 0, 1) := by decide +kernel
theorem dX12_bestOrder_1 : decode cX12_bestOrder 1 = .ok (.istore_n 1, 1) := by decide +kernel
theorem dX12_bestOrder_2 : decode cX12_bestOrder 2 = .ok (.iconst 1, 1) := by decide +kernel
theorem dX12_bestOrder_3 : decode cX12_bestOrder 3 = .ok (.istore_n 2, 1) := by decide +kernel
theorem dX12_bestOrder_4 : decode cX12_bestOrder 4 = .ok (.iload_n 2, 1) := by decide +kernel
theorem dX12_bestOrder_5 : decode cX12_bestOrder 5 = .ok (.bipush 120, 2) := by decide +kernel
theorem dX12_bestOrder_7 : decode cX12_bestOrder 7 = .ok (.if_icmp .ge 24, 3) := by decide +kernel
theorem dX12_bestOrder_10 : decode cX12_bestOrder 10 = .ok (.aload_n 0, 1) := by decide +kernel
theorem dX12_bestOrder_11 : decode cX12_bestOrder 11 = .ok (.iload_n 2, 1) := by decide +kernel
theorem dX12_bestOrder_12 : decode cX12_bestOrder 12 = .ok (.invokevirtual 449, 3) := by decide +kernel
theorem dX12_bestOrder_15 : decode cX12_bestOrder 15 = .ok (.aload_n 0, 1) := by decide +kernel
theorem dX12_bestOrder_16 : decode cX12_bestOrder 16 = .ok (.iload_n 1, 1) := by decide +kernel
theorem dX12_bestOrder_17 : decode cX12_bestOrder 17 = .ok (.invokevirtual 449, 3) := by decide +kernel
theorem dX12_bestOrder_20 : decode cX12_bestOrder 20 = .ok (.if_icmp .ge 5, 3) := by decide +kernel
theorem dX12_bestOrder_23 : decode cX12_bestOrder 23 = .ok (.iload_n 2, 1) := by decide +kernel
theorem dX12_bestOrder_24 : decode cX12_bestOrder 24 = .ok (.istore_n 1, 1) := by decide +kernel
theorem dX12_bestOrder_25 : decode cX12_bestOrder 25 = .ok (.iinc 2 1, 3) := by decide +kernel
theorem dX12_bestOrder_28 : decode cX12_bestOrder 28 = .ok (.goto (-24), 3) := by decide +kernel
theorem dX12_bestOrder_31 : decode cX12_bestOrder 31 = .ok (.iload_n 1, 1) := by decide +kernel
theorem dX12_bestOrder_32 : decode cX12_bestOrder 32 = .ok (.ireturn, 1) := by decide +kernel
theorem dX12_crane_0 : decode cX12_crane 0 = .ok (.iload_n 1, 1) := by decide +kernel
theorem dX12_crane_1 : decode cX12_crane 1 = .ok (.ifCond .eq 14, 3) := by decide +kernel
theorem dX12_crane_4 : decode cX12_crane 4 = .ok (.aload_n 0, 1) := by decide +kernel
theorem dX12_crane_5 : decode cX12_crane 5 = .ok (.aload_n 0, 1) := by decide +kernel
theorem dX12_crane_6 : decode cX12_crane 6 = .ok (.invokevirtual 452, 3) := by decide +kernel
theorem dX12_crane_9 : decode cX12_crane 9 = .ok (.invokevirtual 449, 3) := by decide +kernel
theorem dX12_crane_12 : decode cX12_crane 12 = .ok (.goto 7, 3) := by decide +kernel
theorem dX12_crane_15 : decode cX12_crane 15 = .ok (.aload_n 0, 1) := by decide +kernel
theorem dX12_crane_16 : decode cX12_crane 16 = .ok (.invokevirtual 452, 3) := by decide +kernel
theorem dX12_crane_19 : decode cX12_crane 19 = .ok (.ireturn, 1) := by decide +kernel
theorem dX12_idle_0 : decode cX12_idle 0 = .ok (.aload_n 0, 1) := by decide +kernel
theorem dX12_idle_1 : decode cX12_idle 1 = .ok (.aload_n 0, 1) := by decide +kernel
theorem dX12_idle_2 : decode cX12_idle 2 = .ok (.invokevirtual 452, 3) := by decide +kernel
theorem dX12_idle_5 : decode cX12_idle 5 = .ok (.invokevirtual 449, 3) := by decide +kernel
theorem dX12_idle_8 : decode cX12_idle 8 = .ok (.istore_n 1, 1) := by decide +kernel
theorem dX12_idle_9 : decode cX12_idle 9 = .ok (.iconst 0, 1) := by decide +kernel
theorem dX12_idle_10 : decode cX12_idle 10 = .ok (.istore_n 2, 1) := by decide +kernel
theorem dX12_idle_11 : decode cX12_idle 11 = .ok (.iload_n 2, 1) := by decide +kernel
theorem dX12_idle_12 : decode cX12_idle 12 = .ok (.aload_n 0, 1) := by decide +kernel
theorem dX12_idle_13 : decode cX12_idle 13 = .ok (.getfield 7, 3) := by decide +kernel
theorem dX12_idle_16 : decode cX12_idle 16 = .ok (.iconst 0, 1) := by decide +kernel
theorem dX12_idle_17 : decode cX12_idle 17 = .ok (.iaload, 1) := by decide +kernel
theorem dX12_idle_18 : decode cX12_idle 18 = .ok (.if_icmp .ge 21, 3) := by decide +kernel
theorem dX12_idle_21 : decode cX12_idle 21 = .ok (.iload_n 1, 1) := by decide +kernel
theorem dX12_idle_22 : decode cX12_idle 22 = .ok (.aload_n 0, 1) := by decide +kernel
theorem dX12_idle_23 : decode cX12_idle 23 = .ok (.getfield 7, 3) := by decide +kernel
theorem dX12_idle_26 : decode cX12_idle 26 = .ok (.bipush 51, 2) := by decide +kernel
theorem dX12_idle_28 : decode cX12_idle 28 = .ok (.iload_n 2, 1) := by decide +kernel
theorem dX12_idle_29 : decode cX12_idle 29 = .ok (.iadd, 1) := by decide +kernel
theorem dX12_idle_30 : decode cX12_idle 30 = .ok (.iaload, 1) := by decide +kernel
theorem dX12_idle_31 : decode cX12_idle 31 = .ok (.isub, 1) := by decide +kernel
theorem dX12_idle_32 : decode cX12_idle 32 = .ok (.istore_n 1, 1) := by decide +kernel
theorem dX12_idle_33 : decode cX12_idle 33 = .ok (.iinc 2 1, 3) := by decide +kernel
theorem dX12_idle_36 : decode cX12_idle 36 = .ok (.goto (-25), 3) := by decide +kernel
theorem dX12_idle_39 : decode cX12_idle 39 = .ok (.iload_n 1, 1) := by decide +kernel
theorem dX12_idle_40 : decode cX12_idle 40 = .ok (.ireturn, 1) := by decide +kernel
theorem dX12_isRailway_0 : decode cX12_isRailway 0 = .ok (.iload_n 0, 1) := by decide +kernel
theorem dX12_isRailway_1 : decode cX12_isRailway 1 = .ok (.iconst 0, 1) := by decide +kernel
theorem dX12_isRailway_2 : decode cX12_isRailway 2 = .ok (.iconst 5, 1) := by decide +kernel
theorem dX12_isRailway_3 : decode cX12_isRailway 3 = .ok (.invokestatic 78, 3) := by decide +kernel
theorem dX12_isRailway_6 : decode cX12_isRailway 6 = .ok (.ireturn, 1) := by decide +kernel
theorem dX12_owe_0 : decode cX12_owe 0 = .ok (.iload_n 1, 1) := by decide +kernel
theorem dX12_owe_1 : decode cX12_owe 1 = .ok (.invokestatic 455, 3) := by decide +kernel
theorem dX12_owe_4 : decode cX12_owe 4 = .ok (.ifCond .eq 25, 3) := by decide +kernel
theorem dX12_owe_7 : decode cX12_owe 7 = .ok (.iload_n 2, 1) := by decide +kernel
theorem dX12_owe_8 : decode cX12_owe 8 = .ok (.invokestatic 455, 3) := by decide +kernel
theorem dX12_owe_11 : decode cX12_owe 11 = .ok (.ifCond .eq 18, 3) := by decide +kernel
theorem dX12_owe_14 : decode cX12_owe 14 = .ok (.iload_n 1, 1) := by decide +kernel
theorem dX12_owe_15 : decode cX12_owe 15 = .ok (.iload_n 2, 1) := by decide +kernel
theorem dX12_owe_16 : decode cX12_owe 16 = .ok (.if_icmp .eq 13, 3) := by decide +kernel
theorem dX12_owe_19 : decode cX12_owe 19 = .ok (.iload_n 3, 1) := by decide +kernel
theorem dX12_owe_20 : decode cX12_owe 20 = .ok (.iconst 1, 1) := by decide +kernel
theorem dX12_owe_21 : decode cX12_owe 21 = .ok (.bipush 99, 2) := by decide +kernel
theorem dX12_owe_23 : decode cX12_owe 23 = .ok (.invokestatic 78, 3) := by decide +kernel
theorem dX12_owe_26 : decode cX12_owe 26 = .ok (.ifCond .ne 5, 3) := by decide +kernel
theorem dX12_owe_29 : decode cX12_owe 29 = .ok (.iconst 0, 1) := by decide +kernel
theorem dX12_owe_30 : decode cX12_owe 30 = .ok (.ireturn, 1) := by decide +kernel
theorem dX12_owe_31 : decode cX12_owe 31 = .ok (.aload_n 0, 1) := by decide +kernel
theorem dX12_owe_32 : decode cX12_owe 32 = .ok (.getfield 7, 3) := by decide +kernel
theorem dX12_owe_35 : decode cX12_owe 35 = .ok (.bipush 61, 2) := by decide +kernel
theorem dX12_owe_37 : decode cX12_owe 37 = .ok (.iload_n 1, 1) := by decide +kernel
theorem dX12_owe_38 : decode cX12_owe 38 = .ok (.iadd, 1) := by decide +kernel
theorem dX12_owe_39 : decode cX12_owe 39 = .ok (.dup2, 1) := by decide +kernel
theorem dX12_owe_40 : decode cX12_owe 40 = .ok (.iaload, 1) := by decide +kernel
theorem dX12_owe_41 : decode cX12_owe 41 = .ok (.iload_n 3, 1) := by decide +kernel
theorem dX12_owe_42 : decode cX12_owe 42 = .ok (.isub, 1) := by decide +kernel
theorem dX12_owe_43 : decode cX12_owe 43 = .ok (.iastore, 1) := by decide +kernel
theorem dX12_owe_44 : decode cX12_owe 44 = .ok (.aload_n 0, 1) := by decide +kernel
theorem dX12_owe_45 : decode cX12_owe 45 = .ok (.getfield 7, 3) := by decide +kernel
theorem dX12_owe_48 : decode cX12_owe 48 = .ok (.bipush 61, 2) := by decide +kernel
theorem dX12_owe_50 : decode cX12_owe 50 = .ok (.iload_n 2, 1) := by decide +kernel
theorem dX12_owe_51 : decode cX12_owe 51 = .ok (.iadd, 1) := by decide +kernel
theorem dX12_owe_52 : decode cX12_owe 52 = .ok (.dup2, 1) := by decide +kernel
theorem dX12_owe_53 : decode cX12_owe 53 = .ok (.iaload, 1) := by decide +kernel
theorem dX12_owe_54 : decode cX12_owe 54 = .ok (.iload_n 3, 1) := by decide +kernel
theorem dX12_owe_55 : decode cX12_owe 55 = .ok (.iadd, 1) := by decide +kernel
theorem dX12_owe_56 : decode cX12_owe 56 = .ok (.iastore, 1) := by decide +kernel
theorem dX12_owe_57 : decode cX12_owe 57 = .ok (.iconst 1, 1) := by decide +kernel
theorem dX12_owe_58 : decode cX12_owe 58 = .ok (.ireturn, 1) := by decide +kernel
theorem dX12_balance_0 : decode cX12_balance 0 = .ok (.iload_n 1, 1) := by decide +kernel
theorem dX12_balance_1 : decode cX12_balance 1 = .ok (.invokestatic 455, 3) := by decide +kernel
theorem dX12_balance_4 : decode cX12_balance 4 = .ok (.ifCond .eq 15, 3) := by decide +kernel
theorem dX12_balance_7 : decode cX12_balance 7 = .ok (.aload_n 0, 1) := by decide +kernel
theorem dX12_balance_8 : decode cX12_balance 8 = .ok (.getfield 7, 3) := by decide +kernel
theorem dX12_balance_11 : decode cX12_balance 11 = .ok (.bipush 61, 2) := by decide +kernel
theorem dX12_balance_13 : decode cX12_balance 13 = .ok (.iload_n 1, 1) := by decide +kernel
theorem dX12_balance_14 : decode cX12_balance 14 = .ok (.iadd, 1) := by decide +kernel
theorem dX12_balance_15 : decode cX12_balance 15 = .ok (.iaload, 1) := by decide +kernel
theorem dX12_balance_16 : decode cX12_balance 16 = .ok (.goto 6, 3) := by decide +kernel
theorem dX12_balance_19 : decode cX12_balance 19 = .ok (.ldc_w 458, 3) := by decide +kernel
theorem dX12_balance_22 : decode cX12_balance 22 = .ok (.ireturn, 1) := by decide +kernel
theorem dX12_sumOf_0 : decode cX12_sumOf 0 = .ok (.iconst 0, 1) := by decide +kernel
theorem dX12_sumOf_1 : decode cX12_sumOf 1 = .ok (.istore_n 2, 1) := by decide +kernel
theorem dX12_sumOf_2 : decode cX12_sumOf 2 = .ok (.iconst 0, 1) := by decide +kernel
theorem dX12_sumOf_3 : decode cX12_sumOf 3 = .ok (.istore_n 3, 1) := by decide +kernel
theorem dX12_sumOf_4 : decode cX12_sumOf 4 = .ok (.iload_n 3, 1) := by decide +kernel
theorem dX12_sumOf_5 : decode cX12_sumOf 5 = .ok (.bipush 6, 2) := by decide +kernel
theorem dX12_sumOf_7 : decode cX12_sumOf 7 = .ok (.if_icmp .ge 33, 3) := by decide +kernel
theorem dX12_sumOf_10 : decode cX12_sumOf 10 = .ok (.iload_n 2, 1) := by decide +kernel
theorem dX12_sumOf_11 : decode cX12_sumOf 11 = .ok (.iload_n 1, 1) := by decide +kernel
theorem dX12_sumOf_12 : decode cX12_sumOf 12 = .ok (.iload_n 3, 1) := by decide +kernel
theorem dX12_sumOf_13 : decode cX12_sumOf 13 = .ok (.invokestatic 90, 3) := by decide +kernel
theorem dX12_sumOf_16 : decode cX12_sumOf 16 = .ok (.ifCond .eq 15, 3) := by decide +kernel
theorem dX12_sumOf_19 : decode cX12_sumOf 19 = .ok (.aload_n 0, 1) := by decide +kernel
theorem dX12_sumOf_20 : decode cX12_sumOf 20 = .ok (.getfield 7, 3) := by decide +kernel
theorem dX12_sumOf_23 : decode cX12_sumOf 23 = .ok (.bipush 61, 2) := by decide +kernel
theorem dX12_sumOf_25 : decode cX12_sumOf 25 = .ok (.iload_n 3, 1) := by decide +kernel
theorem dX12_sumOf_26 : decode cX12_sumOf 26 = .ok (.iadd, 1) := by decide +kernel
theorem dX12_sumOf_27 : decode cX12_sumOf 27 = .ok (.iaload, 1) := by decide +kernel
theorem dX12_sumOf_28 : decode cX12_sumOf 28 = .ok (.goto 4, 3) := by decide +kernel
theorem dX12_sumOf_31 : decode cX12_sumOf 31 = .ok (.iconst 0, 1) := by decide +kernel
theorem dX12_sumOf_32 : decode cX12_sumOf 32 = .ok (.iadd, 1) := by decide +kernel
theorem dX12_sumOf_33 : decode cX12_sumOf 33 = .ok (.istore_n 2, 1) := by decide +kernel
theorem dX12_sumOf_34 : decode cX12_sumOf 34 = .ok (.iinc 3 1, 3) := by decide +kernel
theorem dX12_sumOf_37 : decode cX12_sumOf 37 = .ok (.goto (-33), 3) := by decide +kernel
theorem dX12_sumOf_40 : decode cX12_sumOf 40 = .ok (.iload_n 2, 1) := by decide +kernel
theorem dX12_sumOf_41 : decode cX12_sumOf 41 = .ok (.ireturn, 1) := by decide +kernel
theorem dX12_lowBit_0 : decode cX12_lowBit 0 = .ok (.iload_n 0, 1) := by decide +kernel
theorem dX12_lowBit_1 : decode cX12_lowBit 1 = .ok (.iload_n 0, 1) := by decide +kernel
theorem dX12_lowBit_2 : decode cX12_lowBit 2 = .ok (.ineg, 1) := by decide +kernel
theorem dX12_lowBit_3 : decode cX12_lowBit 3 = .ok (.iand, 1) := by decide +kernel
theorem dX12_lowBit_4 : decode cX12_lowBit 4 = .ok (.ireturn, 1) := by decide +kernel
theorem dX12_layGroups_0 : decode cX12_layGroups 0 = .ok (.iconst 0, 1) := by decide +kernel
theorem dX12_layGroups_1 : decode cX12_layGroups 1 = .ok (.istore_n 1, 1) := by decide +kernel
theorem dX12_layGroups_2 : decode cX12_layGroups 2 = .ok (.iload_n 1, 1) := by decide +kernel
theorem dX12_layGroups_3 : decode cX12_layGroups 3 = .ok (.bipush 64, 2) := by decide +kernel
theorem dX12_layGroups_5 : decode cX12_layGroups 5 = .ok (.if_icmp .ge 112, 3) := by decide +kernel
theorem dX12_layGroups_8 : decode cX12_layGroups 8 = .ok (.aload_n 0, 1) := by decide +kernel
theorem dX12_layGroups_9 : decode cX12_layGroups 9 = .ok (.getfield 71, 3) := by decide +kernel
theorem dX12_layGroups_12 : decode cX12_layGroups 12 = .ok (.iload_n 1, 1) := by decide +kernel
theorem dX12_layGroups_13 : decode cX12_layGroups 13 = .ok (.iload_n 1, 1) := by decide +kernel
theorem dX12_layGroups_14 : decode cX12_layGroups 14 = .ok (.ifCond .ne 7, 3) := by decide +kernel
theorem dX12_layGroups_17 : decode cX12_layGroups 17 = .ok (.iconst 0, 1) := by decide +kernel
theorem dX12_layGroups_18 : decode cX12_layGroups 18 = .ok (.goto 4, 3) := by decide +kernel
theorem dX12_layGroups_21 : decode cX12_layGroups 21 = .ok (.iconst (-1), 1) := by decide +kernel
theorem dX12_layGroups_22 : decode cX12_layGroups 22 = .ok (.iastore, 1) := by decide +kernel
theorem dX12_layGroups_23 : decode cX12_layGroups 23 = .ok (.iload_n 1, 1) := by decide +kernel
theorem dX12_layGroups_24 : decode cX12_layGroups 24 = .ok (.istore_n 2, 1) := by decide +kernel
theorem dX12_layGroups_25 : decode cX12_layGroups 25 = .ok (.iload_n 2, 1) := by decide +kernel
theorem dX12_layGroups_26 : decode cX12_layGroups 26 = .ok (.ifCond .le 85, 3) := by decide +kernel
theorem dX12_layGroups_29 : decode cX12_layGroups 29 = .ok (.iload_n 2, 1) := by decide +kernel
theorem dX12_layGroups_30 : decode cX12_layGroups 30 = .ok (.iload_n 1, 1) := by decide +kernel
theorem dX12_layGroups_31 : decode cX12_layGroups 31 = .ok (.invokestatic 459, 3) := by decide +kernel
theorem dX12_layGroups_34 : decode cX12_layGroups 34 = .ok (.iand, 1) := by decide +kernel
theorem dX12_layGroups_35 : decode cX12_layGroups 35 = .ok (.ifCond .eq 67, 3) := by decide +kernel
theorem dX12_layGroups_38 : decode cX12_layGroups 38 = .ok (.aload_n 0, 1) := by decide +kernel
theorem dX12_layGroups_39 : decode cX12_layGroups 39 = .ok (.iload_n 2, 1) := by decide +kernel
theorem dX12_layGroups_40 : decode cX12_layGroups 40 = .ok (.invokevirtual 462, 3) := by decide +kernel
theorem dX12_layGroups_43 : decode cX12_layGroups 43 = .ok (.ifCond .ne 59, 3) := by decide +kernel
theorem dX12_layGroups_46 : decode cX12_layGroups 46 = .ok (.aload_n 0, 1) := by decide +kernel
theorem dX12_layGroups_47 : decode cX12_layGroups 47 = .ok (.getfield 71, 3) := by decide +kernel
theorem dX12_layGroups_50 : decode cX12_layGroups 50 = .ok (.iload_n 1, 1) := by decide +kernel
theorem dX12_layGroups_51 : decode cX12_layGroups 51 = .ok (.iload_n 2, 1) := by decide +kernel
theorem dX12_layGroups_52 : decode cX12_layGroups 52 = .ok (.iconst (-1), 1) := by decide +kernel
theorem dX12_layGroups_53 : decode cX12_layGroups 53 = .ok (.ixor, 1) := by decide +kernel
theorem dX12_layGroups_54 : decode cX12_layGroups 54 = .ok (.iand, 1) := by decide +kernel
theorem dX12_layGroups_55 : decode cX12_layGroups 55 = .ok (.iaload, 1) := by decide +kernel
theorem dX12_layGroups_56 : decode cX12_layGroups 56 = .ok (.iconst (-1), 1) := by decide +kernel
theorem dX12_layGroups_57 : decode cX12_layGroups 57 = .ok (.if_icmp .ne 6, 3) := by decide +kernel
theorem dX12_layGroups_60 : decode cX12_layGroups 60 = .ok (.goto 42, 3) := by decide +kernel
theorem dX12_layGroups_63 : decode cX12_layGroups 63 = .ok (.iconst 1, 1) := by decide +kernel
theorem dX12_layGroups_64 : decode cX12_layGroups 64 = .ok (.aload_n 0, 1) := by decide +kernel
theorem dX12_layGroups_65 : decode cX12_layGroups 65 = .ok (.getfield 71, 3) := by decide +kernel
theorem dX12_layGroups_68 : decode cX12_layGroups 68 = .ok (.iload_n 1, 1) := by decide +kernel
theorem dX12_layGroups_69 : decode cX12_layGroups 69 = .ok (.iload_n 2, 1) := by decide +kernel
theorem dX12_layGroups_70 : decode cX12_layGroups 70 = .ok (.iconst (-1), 1) := by decide +kernel
theorem dX12_layGroups_71 : decode cX12_layGroups 71 = .ok (.ixor, 1) := by decide +kernel
theorem dX12_layGroups_72 : decode cX12_layGroups 72 = .ok (.iand, 1) := by decide +kernel
theorem dX12_layGroups_73 : decode cX12_layGroups 73 = .ok (.iaload, 1) := by decide +kernel
theorem dX12_layGroups_74 : decode cX12_layGroups 74 = .ok (.iadd, 1) := by decide +kernel
theorem dX12_layGroups_75 : decode cX12_layGroups 75 = .ok (.istore_n 3, 1) := by decide +kernel
theorem dX12_layGroups_76 : decode cX12_layGroups 76 = .ok (.aload_n 0, 1) := by decide +kernel
theorem dX12_layGroups_77 : decode cX12_layGroups 77 = .ok (.getfield 71, 3) := by decide +kernel
theorem dX12_layGroups_80 : decode cX12_layGroups 80 = .ok (.iload_n 1, 1) := by decide +kernel
theorem dX12_layGroups_81 : decode cX12_layGroups 81 = .ok (.iload_n 3, 1) := by decide +kernel
theorem dX12_layGroups_82 : decode cX12_layGroups 82 = .ok (.aload_n 0, 1) := by decide +kernel
theorem dX12_layGroups_83 : decode cX12_layGroups 83 = .ok (.getfield 71, 3) := by decide +kernel
theorem dX12_layGroups_86 : decode cX12_layGroups 86 = .ok (.iload_n 1, 1) := by decide +kernel
theorem dX12_layGroups_87 : decode cX12_layGroups 87 = .ok (.iaload, 1) := by decide +kernel
theorem dX12_layGroups_88 : decode cX12_layGroups 88 = .ok (.if_icmp .le 7, 3) := by decide +kernel
theorem dX12_layGroups_91 : decode cX12_layGroups 91 = .ok (.iload_n 3, 1) := by decide +kernel
theorem dX12_layGroups_92 : decode cX12_layGroups 92 = .ok (.goto 9, 3) := by decide +kernel
theorem dX12_layGroups_95 : decode cX12_layGroups 95 = .ok (.aload_n 0, 1) := by decide +kernel
theorem dX12_layGroups_96 : decode cX12_layGroups 96 = .ok (.getfield 71, 3) := by decide +kernel
theorem dX12_layGroups_99 : decode cX12_layGroups 99 = .ok (.iload_n 1, 1) := by decide +kernel
theorem dX12_layGroups_100 : decode cX12_layGroups 100 = .ok (.iaload, 1) := by decide +kernel
theorem dX12_layGroups_101 : decode cX12_layGroups 101 = .ok (.iastore, 1) := by decide +kernel
theorem dX12_layGroups_102 : decode cX12_layGroups 102 = .ok (.iload_n 2, 1) := by decide +kernel
theorem dX12_layGroups_103 : decode cX12_layGroups 103 = .ok (.iconst 1, 1) := by decide +kernel
theorem dX12_layGroups_104 : decode cX12_layGroups 104 = .ok (.isub, 1) := by decide +kernel
theorem dX12_layGroups_105 : decode cX12_layGroups 105 = .ok (.iload_n 1, 1) := by decide +kernel
theorem dX12_layGroups_106 : decode cX12_layGroups 106 = .ok (.iand, 1) := by decide +kernel
theorem dX12_layGroups_107 : decode cX12_layGroups 107 = .ok (.istore_n 2, 1) := by decide +kernel
theorem dX12_layGroups_108 : decode cX12_layGroups 108 = .ok (.goto (-83), 3) := by decide +kernel
theorem dX12_layGroups_111 : decode cX12_layGroups 111 = .ok (.iinc 1 1, 3) := by decide +kernel
theorem dX12_layGroups_114 : decode cX12_layGroups 114 = .ok (.goto (-112), 3) := by decide +kernel
theorem dX12_layGroups_117 : decode cX12_layGroups 117 = .ok (.return_, 1) := by decide +kernel
theorem dX12_settled_0 : decode cX12_settled 0 = .ok (.iload_n 1, 1) := by decide +kernel
theorem dX12_settled_1 : decode cX12_settled 1 = .ok (.iconst 0, 1) := by decide +kernel
theorem dX12_settled_2 : decode cX12_settled 2 = .ok (.iconst 1, 1) := by decide +kernel
theorem dX12_settled_3 : decode cX12_settled 3 = .ok (.invokestatic 78, 3) := by decide +kernel
theorem dX12_settled_6 : decode cX12_settled 6 = .ok (.ifCond .ne 5, 3) := by decide +kernel
theorem dX12_settled_9 : decode cX12_settled 9 = .ok (.iconst (-1), 1) := by decide +kernel
theorem dX12_settled_10 : decode cX12_settled 10 = .ok (.ireturn, 1) := by decide +kernel
theorem dX12_settled_11 : decode cX12_settled 11 = .ok (.aload_n 0, 1) := by decide +kernel
theorem dX12_settled_12 : decode cX12_settled 12 = .ok (.invokevirtual 465, 3) := by decide +kernel
theorem dX12_settled_15 : decode cX12_settled 15 = .ok (.iload_n 1, 1) := by decide +kernel
theorem dX12_settled_16 : decode cX12_settled 16 = .ok (.iconst 1, 1) := by decide +kernel
theorem dX12_settled_17 : decode cX12_settled 17 = .ok (.if_icmp .ne 13, 3) := by decide +kernel
theorem dX12_settled_20 : decode cX12_settled 20 = .ok (.aload_n 0, 1) := by decide +kernel
theorem dX12_settled_21 : decode cX12_settled 21 = .ok (.getfield 71, 3) := by decide +kernel
theorem dX12_settled_24 : decode cX12_settled 24 = .ok (.bipush 63, 2) := by decide +kernel
theorem dX12_settled_26 : decode cX12_settled 26 = .ok (.iaload, 1) := by decide +kernel
theorem dX12_settled_27 : decode cX12_settled 27 = .ok (.goto 13, 3) := by decide +kernel
theorem dX12_settled_30 : decode cX12_settled 30 = .ok (.bipush 6, 2) := by decide +kernel
theorem dX12_settled_32 : decode cX12_settled 32 = .ok (.aload_n 0, 1) := by decide +kernel
theorem dX12_settled_33 : decode cX12_settled 33 = .ok (.getfield 71, 3) := by decide +kernel
theorem dX12_settled_36 : decode cX12_settled 36 = .ok (.bipush 63, 2) := by decide +kernel
theorem dX12_settled_38 : decode cX12_settled 38 = .ok (.iaload, 1) := by decide +kernel
theorem dX12_settled_39 : decode cX12_settled 39 = .ok (.isub, 1) := by decide +kernel
theorem dX12_settled_40 : decode cX12_settled 40 = .ok (.ireturn, 1) := by decide +kernel
theorem dX12_lowestGroup_0 : decode cX12_lowestGroup 0 = .ok (.iconst 1, 1) := by decide +kernel
theorem dX12_lowestGroup_1 : decode cX12_lowestGroup 1 = .ok (.istore_n 2, 1) := by decide +kernel
theorem dX12_lowestGroup_2 : decode cX12_lowestGroup 2 = .ok (.iload_n 2, 1) := by decide +kernel
theorem dX12_lowestGroup_3 : decode cX12_lowestGroup 3 = .ok (.iload_n 1, 1) := by decide +kernel
theorem dX12_lowestGroup_4 : decode cX12_lowestGroup 4 = .ok (.if_icmp .ge 57, 3) := by decide +kernel
theorem dX12_lowestGroup_7 : decode cX12_lowestGroup 7 = .ok (.iload_n 2, 1) := by decide +kernel
theorem dX12_lowestGroup_8 : decode cX12_lowestGroup 8 = .ok (.iload_n 1, 1) := by decide +kernel
theorem dX12_lowestGroup_9 : decode cX12_lowestGroup 9 = .ok (.iconst (-1), 1) := by decide +kernel
theorem dX12_lowestGroup_10 : decode cX12_lowestGroup 10 = .ok (.ixor, 1) := by decide +kernel
theorem dX12_lowestGroup_11 : decode cX12_lowestGroup 11 = .ok (.iand, 1) := by decide +kernel
theorem dX12_lowestGroup_12 : decode cX12_lowestGroup 12 = .ok (.ifCond .ne 43, 3) := by decide +kernel
theorem dX12_lowestGroup_15 : decode cX12_lowestGroup 15 = .ok (.iload_n 2, 1) := by decide +kernel
theorem dX12_lowestGroup_16 : decode cX12_lowestGroup 16 = .ok (.iload_n 1, 1) := by decide +kernel
theorem dX12_lowestGroup_17 : decode cX12_lowestGroup 17 = .ok (.invokestatic 459, 3) := by decide +kernel
theorem dX12_lowestGroup_20 : decode cX12_lowestGroup 20 = .ok (.iand, 1) := by decide +kernel
theorem dX12_lowestGroup_21 : decode cX12_lowestGroup 21 = .ok (.ifCond .eq 34, 3) := by decide +kernel
theorem dX12_lowestGroup_24 : decode cX12_lowestGroup 24 = .ok (.aload_n 0, 1) := by decide +kernel
theorem dX12_lowestGroup_25 : decode cX12_lowestGroup 25 = .ok (.iload_n 2, 1) := by decide +kernel
theorem dX12_lowestGroup_26 : decode cX12_lowestGroup 26 = .ok (.invokevirtual 462, 3) := by decide +kernel
theorem dX12_lowestGroup_29 : decode cX12_lowestGroup 29 = .ok (.ifCond .ne 26, 3) := by decide +kernel
theorem dX12_lowestGroup_32 : decode cX12_lowestGroup 32 = .ok (.aload_n 0, 1) := by decide +kernel
theorem dX12_lowestGroup_33 : decode cX12_lowestGroup 33 = .ok (.getfield 71, 3) := by decide +kernel
theorem dX12_lowestGroup_36 : decode cX12_lowestGroup 36 = .ok (.iload_n 1, 1) := by decide +kernel
theorem dX12_lowestGroup_37 : decode cX12_lowestGroup 37 = .ok (.iload_n 2, 1) := by decide +kernel
theorem dX12_lowestGroup_38 : decode cX12_lowestGroup 38 = .ok (.iconst (-1), 1) := by decide +kernel
theorem dX12_lowestGroup_39 : decode cX12_lowestGroup 39 = .ok (.ixor, 1) := by decide +kernel
theorem dX12_lowestGroup_40 : decode cX12_lowestGroup 40 = .ok (.iand, 1) := by decide +kernel
theorem dX12_lowestGroup_41 : decode cX12_lowestGroup 41 = .ok (.iaload, 1) := by decide +kernel
theorem dX12_lowestGroup_42 : decode cX12_lowestGroup 42 = .ok (.aload_n 0, 1) := by decide +kernel
theorem dX12_lowestGroup_43 : decode cX12_lowestGroup 43 = .ok (.getfield 71, 3) := by decide +kernel
theorem dX12_lowestGroup_46 : decode cX12_lowestGroup 46 = .ok (.iload_n 1, 1) := by decide +kernel
theorem dX12_lowestGroup_47 : decode cX12_lowestGroup 47 = .ok (.iaload, 1) := by decide +kernel
theorem dX12_lowestGroup_48 : decode cX12_lowestGroup 48 = .ok (.iconst 1, 1) := by decide +kernel
theorem dX12_lowestGroup_49 : decode cX12_lowestGroup 49 = .ok (.isub, 1) := by decide +kernel
theorem dX12_lowestGroup_50 : decode cX12_lowestGroup 50 = .ok (.if_icmp .ne 5, 3) := by decide +kernel
theorem dX12_lowestGroup_53 : decode cX12_lowestGroup 53 = .ok (.iload_n 2, 1) := by decide +kernel
theorem dX12_lowestGroup_54 : decode cX12_lowestGroup 54 = .ok (.ireturn, 1) := by decide +kernel
theorem dX12_lowestGroup_55 : decode cX12_lowestGroup 55 = .ok (.iinc 2 1, 3) := by decide +kernel
theorem dX12_lowestGroup_58 : decode cX12_lowestGroup 58 = .ok (.goto (-56), 3) := by decide +kernel
theorem dX12_lowestGroup_61 : decode cX12_lowestGroup 61 = .ok (.iload_n 1, 1) := by decide +kernel
theorem dX12_lowestGroup_62 : decode cX12_lowestGroup 62 = .ok (.ireturn, 1) := by decide +kernel
theorem dX12_group_0 : decode cX12_group 0 = .ok (.iload_n 1, 1) := by decide +kernel
theorem dX12_group_1 : decode cX12_group 1 = .ok (.invokestatic 455, 3) := by decide +kernel
theorem dX12_group_4 : decode cX12_group 4 = .ok (.ifCond .ne 5, 3) := by decide +kernel
theorem dX12_group_7 : decode cX12_group 7 = .ok (.iconst (-1), 1) := by decide +kernel
theorem dX12_group_8 : decode cX12_group 8 = .ok (.ireturn, 1) := by decide +kernel
theorem dX12_group_9 : decode cX12_group 9 = .ok (.aload_n 0, 1) := by decide +kernel
theorem dX12_group_10 : decode cX12_group 10 = .ok (.invokevirtual 465, 3) := by decide +kernel
theorem dX12_group_13 : decode cX12_group 13 = .ok (.bipush 63, 2) := by decide +kernel
theorem dX12_group_15 : decode cX12_group 15 = .ok (.istore_n 2, 1) := by decide +kernel
theorem dX12_group_16 : decode cX12_group 16 = .ok (.aload_n 0, 1) := by decide +kernel
theorem dX12_group_17 : decode cX12_group 17 = .ok (.iload_n 2, 1) := by decide +kernel
theorem dX12_group_18 : decode cX12_group 18 = .ok (.invokevirtual 468, 3) := by decide +kernel
theorem dX12_group_21 : decode cX12_group 21 = .ok (.istore_n 3, 1) := by decide +kernel
theorem dX12_group_22 : decode cX12_group 22 = .ok (.iload_n 3, 1) := by decide +kernel
theorem dX12_group_23 : decode cX12_group 23 = .ok (.iload_n 1, 1) := by decide +kernel
theorem dX12_group_24 : decode cX12_group 24 = .ok (.invokestatic 90, 3) := by decide +kernel
theorem dX12_group_27 : decode cX12_group 27 = .ok (.ifCond .ne 18, 3) := by decide +kernel
theorem dX12_group_30 : decode cX12_group 30 = .ok (.iload_n 2, 1) := by decide +kernel
theorem dX12_group_31 : decode cX12_group 31 = .ok (.iload_n 3, 1) := by decide +kernel
theorem dX12_group_32 : decode cX12_group 32 = .ok (.iconst (-1), 1) := by decide +kernel
theorem dX12_group_33 : decode cX12_group 33 = .ok (.ixor, 1) := by decide +kernel
theorem dX12_group_34 : decode cX12_group 34 = .ok (.iand, 1) := by decide +kernel
theorem dX12_group_35 : decode cX12_group 35 = .ok (.istore_n 2, 1) := by decide +kernel
theorem dX12_group_36 : decode cX12_group 36 = .ok (.aload_n 0, 1) := by decide +kernel
theorem dX12_group_37 : decode cX12_group 37 = .ok (.iload_n 2, 1) := by decide +kernel
theorem dX12_group_38 : decode cX12_group 38 = .ok (.invokevirtual 468, 3) := by decide +kernel
theorem dX12_group_41 : decode cX12_group 41 = .ok (.istore_n 3, 1) := by decide +kernel
theorem dX12_group_42 : decode cX12_group 42 = .ok (.goto (-20), 3) := by decide +kernel
theorem dX12_group_45 : decode cX12_group 45 = .ok (.iload_n 3, 1) := by decide +kernel
theorem dX12_group_46 : decode cX12_group 46 = .ok (.ireturn, 1) := by decide +kernel
theorem dX12_trip_0 : decode cX12_trip 0 = .ok (.iload_n 1, 1) := by decide +kernel
theorem dX12_trip_1 : decode cX12_trip 1 = .ok (.iconst (-1), 1) := by decide +kernel
theorem dX12_trip_2 : decode cX12_trip 2 = .ok (.if_icmp .ne 12, 3) := by decide +kernel
theorem dX12_trip_5 : decode cX12_trip 5 = .ok (.aload_n 0, 1) := by decide +kernel
theorem dX12_trip_6 : decode cX12_trip 6 = .ok (.getfield 7, 3) := by decide +kernel
theorem dX12_trip_9 : decode cX12_trip 9 = .ok (.iconst 4, 1) := by decide +kernel
theorem dX12_trip_10 : decode cX12_trip 10 = .ok (.iconst 0, 1) := by decide +kernel
theorem dX12_trip_11 : decode cX12_trip 11 = .ok (.iastore, 1) := by decide +kernel
theorem dX12_trip_12 : decode cX12_trip 12 = .ok (.iconst 0, 1) := by decide +kernel
theorem dX12_trip_13 : decode cX12_trip 13 = .ok (.ireturn, 1) := by decide +kernel
theorem dX12_trip_14 : decode cX12_trip 14 = .ok (.iload_n 1, 1) := by decide +kernel
theorem dX12_trip_15 : decode cX12_trip 15 = .ok (.iconst 0, 1) := by decide +kernel
theorem dX12_trip_16 : decode cX12_trip 16 = .ok (.bipush 30, 2) := by decide +kernel
theorem dX12_trip_18 : decode cX12_trip 18 = .ok (.invokestatic 78, 3) := by decide +kernel
theorem dX12_trip_21 : decode cX12_trip 21 = .ok (.ifCond .eq 34, 3) := by decide +kernel
theorem dX12_trip_24 : decode cX12_trip 24 = .ok (.iload_n 2, 1) := by decide +kernel
theorem dX12_trip_25 : decode cX12_trip 25 = .ok (.iload_n 1, 1) := by decide +kernel
theorem dX12_trip_26 : decode cX12_trip 26 = .ok (.bipush 30, 2) := by decide +kernel
theorem dX12_trip_28 : decode cX12_trip 28 = .ok (.invokestatic 78, 3) := by decide +kernel
theorem dX12_trip_31 : decode cX12_trip 31 = .ok (.ifCond .eq 24, 3) := by decide +kernel
theorem dX12_trip_34 : decode cX12_trip 34 = .ok (.iload_n 3, 1) := by decide +kernel
theorem dX12_trip_35 : decode cX12_trip 35 = .ok (.iconst 1, 1) := by decide +kernel
theorem dX12_trip_36 : decode cX12_trip 36 = .ok (.bipush 9, 2) := by decide +kernel
theorem dX12_trip_38 : decode cX12_trip 38 = .ok (.invokestatic 78, 3) := by decide +kernel
theorem dX12_trip_41 : decode cX12_trip 41 = .ok (.ifCond .eq 14, 3) := by decide +kernel
theorem dX12_trip_44 : decode cX12_trip 44 = .ok (.aload_n 0, 1) := by decide +kernel
theorem dX12_trip_45 : decode cX12_trip 45 = .ok (.getfield 7, 3) := by decide +kernel
theorem dX12_trip_48 : decode cX12_trip 48 = .ok (.iconst 4, 1) := by decide +kernel
theorem dX12_trip_49 : decode cX12_trip 49 = .ok (.iaload, 1) := by decide +kernel
theorem dX12_trip_50 : decode cX12_trip 50 = .ok (.bipush 8, 2) := by decide +kernel
theorem dX12_trip_52 : decode cX12_trip 52 = .ok (.if_icmp .ne 6, 3) := by decide +kernel
theorem dX12_trip_55 : decode cX12_trip 55 = .ok (.bipush (-2), 2) := by decide +kernel
theorem dX12_trip_57 : decode cX12_trip 57 = .ok (.ireturn, 1) := by decide +kernel
theorem dX12_trip_58 : decode cX12_trip 58 = .ok (.bipush 67, 2) := by decide +kernel
theorem dX12_trip_60 : decode cX12_trip 60 = .ok (.iconst 3, 1) := by decide +kernel
theorem dX12_trip_61 : decode cX12_trip 61 = .ok (.aload_n 0, 1) := by decide +kernel
theorem dX12_trip_62 : decode cX12_trip 62 = .ok (.getfield 7, 3) := by decide +kernel
theorem dX12_trip_65 : decode cX12_trip 65 = .ok (.iconst 4, 1) := by decide +kernel
theorem dX12_trip_66 : decode cX12_trip 66 = .ok (.iaload, 1) := by decide +kernel
theorem dX12_trip_67 : decode cX12_trip 67 = .ok (.imul, 1) := by decide +kernel
theorem dX12_trip_68 : decode cX12_trip 68 = .ok (.iadd, 1) := by decide +kernel
theorem dX12_trip_69 : decode cX12_trip 69 = .ok (.istore 4, 2) := by decide +kernel
theorem dX12_trip_71 : decode cX12_trip 71 = .ok (.aload_n 0, 1) := by decide +kernel
theorem dX12_trip_72 : decode cX12_trip 72 = .ok (.getfield 7, 3) := by decide +kernel
theorem dX12_trip_75 : decode cX12_trip 75 = .ok (.iload 4, 2) := by decide +kernel
theorem dX12_trip_77 : decode cX12_trip 77 = .ok (.iload_n 1, 1) := by decide +kernel
theorem dX12_trip_78 : decode cX12_trip 78 = .ok (.iastore, 1) := by decide +kernel
theorem dX12_trip_79 : decode cX12_trip 79 = .ok (.aload_n 0, 1) := by decide +kernel
theorem dX12_trip_80 : decode cX12_trip 80 = .ok (.getfield 7, 3) := by decide +kernel
theorem dX12_trip_83 : decode cX12_trip 83 = .ok (.iload 4, 2) := by decide +kernel
theorem dX12_trip_85 : decode cX12_trip 85 = .ok (.iconst 1, 1) := by decide +kernel
theorem dX12_trip_86 : decode cX12_trip 86 = .ok (.iadd, 1) := by decide +kernel
theorem dX12_trip_87 : decode cX12_trip 87 = .ok (.iload_n 2, 1) := by decide +kernel
theorem dX12_trip_88 : decode cX12_trip 88 = .ok (.iastore, 1) := by decide +kernel
theorem dX12_trip_89 : decode cX12_trip 89 = .ok (.aload_n 0, 1) := by decide +kernel
theorem dX12_trip_90 : decode cX12_trip 90 = .ok (.getfield 7, 3) := by decide +kernel
theorem dX12_trip_93 : decode cX12_trip 93 = .ok (.iload 4, 2) := by decide +kernel
theorem dX12_trip_95 : decode cX12_trip 95 = .ok (.iconst 2, 1) := by decide +kernel
theorem dX12_trip_96 : decode cX12_trip 96 = .ok (.iadd, 1) := by decide +kernel
theorem dX12_trip_97 : decode cX12_trip 97 = .ok (.iload_n 3, 1) := by decide +kernel
theorem dX12_trip_98 : decode cX12_trip 98 = .ok (.iastore, 1) := by decide +kernel
theorem dX12_trip_99 : decode cX12_trip 99 = .ok (.aload_n 0, 1) := by decide +kernel
theorem dX12_trip_100 : decode cX12_trip 100 = .ok (.getfield 7, 3) := by decide +kernel
theorem dX12_trip_103 : decode cX12_trip 103 = .ok (.iconst 4, 1) := by decide +kernel
theorem dX12_trip_104 : decode cX12_trip 104 = .ok (.dup2, 1) := by decide +kernel
theorem dX12_trip_105 : decode cX12_trip 105 = .ok (.iaload, 1) := by decide +kernel
theorem dX12_trip_106 : decode cX12_trip 106 = .ok (.iconst 1, 1) := by decide +kernel
theorem dX12_trip_107 : decode cX12_trip 107 = .ok (.iadd, 1) := by decide +kernel
theorem dX12_trip_108 : decode cX12_trip 108 = .ok (.iastore, 1) := by decide +kernel
theorem dX12_trip_109 : decode cX12_trip 109 = .ok (.aload_n 0, 1) := by decide +kernel
theorem dX12_trip_110 : decode cX12_trip 110 = .ok (.getfield 7, 3) := by decide +kernel
theorem dX12_trip_113 : decode cX12_trip 113 = .ok (.iconst 4, 1) := by decide +kernel
theorem dX12_trip_114 : decode cX12_trip 114 = .ok (.iaload, 1) := by decide +kernel
theorem dX12_trip_115 : decode cX12_trip 115 = .ok (.ireturn, 1) := by decide +kernel
theorem dX12_outOn_0 : decode cX12_outOn 0 = .ok (.iconst 0, 1) := by decide +kernel
theorem dX12_outOn_1 : decode cX12_outOn 1 = .ok (.istore_n 2, 1) := by decide +kernel
theorem dX12_outOn_2 : decode cX12_outOn 2 = .ok (.bipush 67, 2) := by decide +kernel
theorem dX12_outOn_4 : decode cX12_outOn 4 = .ok (.istore_n 3, 1) := by decide +kernel
theorem dX12_outOn_5 : decode cX12_outOn 5 = .ok (.iload_n 3, 1) := by decide +kernel
theorem dX12_outOn_6 : decode cX12_outOn 6 = .ok (.bipush 67, 2) := by decide +kernel
theorem dX12_outOn_8 : decode cX12_outOn 8 = .ok (.iconst 3, 1) := by decide +kernel
theorem dX12_outOn_9 : decode cX12_outOn 9 = .ok (.aload_n 0, 1) := by decide +kernel
theorem dX12_outOn_10 : decode cX12_outOn 10 = .ok (.getfield 7, 3) := by decide +kernel
theorem dX12_outOn_13 : decode cX12_outOn 13 = .ok (.iconst 4, 1) := by decide +kernel
theorem dX12_outOn_14 : decode cX12_outOn 14 = .ok (.iaload, 1) := by decide +kernel
theorem dX12_outOn_15 : decode cX12_outOn 15 = .ok (.imul, 1) := by decide +kernel
theorem dX12_outOn_16 : decode cX12_outOn 16 = .ok (.iadd, 1) := by decide +kernel
theorem dX12_outOn_17 : decode cX12_outOn 17 = .ok (.if_icmp .ge 45, 3) := by decide +kernel
theorem dX12_outOn_20 : decode cX12_outOn 20 = .ok (.iload_n 2, 1) := by decide +kernel
theorem dX12_outOn_21 : decode cX12_outOn 21 = .ok (.iload_n 1, 1) := by decide +kernel
theorem dX12_outOn_22 : decode cX12_outOn 22 = .ok (.aload_n 0, 1) := by decide +kernel
theorem dX12_outOn_23 : decode cX12_outOn 23 = .ok (.getfield 7, 3) := by decide +kernel
theorem dX12_outOn_26 : decode cX12_outOn 26 = .ok (.iload_n 3, 1) := by decide +kernel
theorem dX12_outOn_27 : decode cX12_outOn 27 = .ok (.iaload, 1) := by decide +kernel
theorem dX12_outOn_28 : decode cX12_outOn 28 = .ok (.aload_n 0, 1) := by decide +kernel
theorem dX12_outOn_29 : decode cX12_outOn 29 = .ok (.getfield 7, 3) := by decide +kernel
theorem dX12_outOn_32 : decode cX12_outOn 32 = .ok (.iload_n 3, 1) := by decide +kernel
theorem dX12_outOn_33 : decode cX12_outOn 33 = .ok (.iconst 1, 1) := by decide +kernel
theorem dX12_outOn_34 : decode cX12_outOn 34 = .ok (.iadd, 1) := by decide +kernel
theorem dX12_outOn_35 : decode cX12_outOn 35 = .ok (.iaload, 1) := by decide +kernel
theorem dX12_outOn_36 : decode cX12_outOn 36 = .ok (.invokestatic 78, 3) := by decide +kernel
theorem dX12_outOn_39 : decode cX12_outOn 39 = .ok (.ifCond .eq 14, 3) := by decide +kernel
theorem dX12_outOn_42 : decode cX12_outOn 42 = .ok (.aload_n 0, 1) := by decide +kernel
theorem dX12_outOn_43 : decode cX12_outOn 43 = .ok (.getfield 7, 3) := by decide +kernel
theorem dX12_outOn_46 : decode cX12_outOn 46 = .ok (.iload_n 3, 1) := by decide +kernel
theorem dX12_outOn_47 : decode cX12_outOn 47 = .ok (.iconst 2, 1) := by decide +kernel
theorem dX12_outOn_48 : decode cX12_outOn 48 = .ok (.iadd, 1) := by decide +kernel
theorem dX12_outOn_49 : decode cX12_outOn 49 = .ok (.iaload, 1) := by decide +kernel
theorem dX12_outOn_50 : decode cX12_outOn 50 = .ok (.goto 4, 3) := by decide +kernel
theorem dX12_outOn_53 : decode cX12_outOn 53 = .ok (.iconst 0, 1) := by decide +kernel
theorem dX12_outOn_54 : decode cX12_outOn 54 = .ok (.iadd, 1) := by decide +kernel
theorem dX12_outOn_55 : decode cX12_outOn 55 = .ok (.istore_n 2, 1) := by decide +kernel
theorem dX12_outOn_56 : decode cX12_outOn 56 = .ok (.iinc 3 3, 3) := by decide +kernel
theorem dX12_outOn_59 : decode cX12_outOn 59 = .ok (.goto (-54), 3) := by decide +kernel
theorem dX12_outOn_62 : decode cX12_outOn 62 = .ok (.iload_n 2, 1) := by decide +kernel
theorem dX12_outOn_63 : decode cX12_outOn 63 = .ok (.ireturn, 1) := by decide +kernel
theorem dX12_stock_0 : decode cX12_stock 0 = .ok (.iconst 0, 1) := by decide +kernel
theorem dX12_stock_1 : decode cX12_stock 1 = .ok (.istore_n 2, 1) := by decide +kernel
theorem dX12_stock_2 : decode cX12_stock 2 = .ok (.iconst (-1), 1) := by decide +kernel
theorem dX12_stock_3 : decode cX12_stock 3 = .ok (.istore_n 3, 1) := by decide +kernel
theorem dX12_stock_4 : decode cX12_stock 4 = .ok (.iconst 0, 1) := by decide +kernel
theorem dX12_stock_5 : decode cX12_stock 5 = .ok (.istore 4, 2) := by decide +kernel
theorem dX12_stock_7 : decode cX12_stock 7 = .ok (.iload 4, 2) := by decide +kernel
theorem dX12_stock_9 : decode cX12_stock 9 = .ok (.bipush 31, 2) := by decide +kernel
theorem dX12_stock_11 : decode cX12_stock 11 = .ok (.if_icmp .ge 32, 3) := by decide +kernel
theorem dX12_stock_14 : decode cX12_stock 14 = .ok (.aload_n 0, 1) := by decide +kernel
theorem dX12_stock_15 : decode cX12_stock 15 = .ok (.iload 4, 2) := by decide +kernel
theorem dX12_stock_17 : decode cX12_stock 17 = .ok (.invokevirtual 471, 3) := by decide +kernel
theorem dX12_stock_20 : decode cX12_stock 20 = .ok (.iload_n 2, 1) := by decide +kernel
theorem dX12_stock_21 : decode cX12_stock 21 = .ok (.if_icmp .gt 6, 3) := by decide +kernel
theorem dX12_stock_24 : decode cX12_stock 24 = .ok (.goto 13, 3) := by decide +kernel
theorem dX12_stock_27 : decode cX12_stock 27 = .ok (.aload_n 0, 1) := by decide +kernel
theorem dX12_stock_28 : decode cX12_stock 28 = .ok (.iload 4, 2) := by decide +kernel
theorem dX12_stock_30 : decode cX12_stock 30 = .ok (.invokevirtual 471, 3) := by decide +kernel
theorem dX12_stock_33 : decode cX12_stock 33 = .ok (.istore_n 2, 1) := by decide +kernel
theorem dX12_stock_34 : decode cX12_stock 34 = .ok (.iload 4, 2) := by decide +kernel
theorem dX12_stock_36 : decode cX12_stock 36 = .ok (.istore_n 3, 1) := by decide +kernel
theorem dX12_stock_37 : decode cX12_stock 37 = .ok (.iinc 4 1, 3) := by decide +kernel
theorem dX12_stock_40 : decode cX12_stock 40 = .ok (.goto (-33), 3) := by decide +kernel
theorem dX12_stock_43 : decode cX12_stock 43 = .ok (.iload_n 1, 1) := by decide +kernel
theorem dX12_stock_44 : decode cX12_stock 44 = .ok (.ifCond .eq 7, 3) := by decide +kernel
theorem dX12_stock_47 : decode cX12_stock 47 = .ok (.iload_n 3, 1) := by decide +kernel
theorem dX12_stock_48 : decode cX12_stock 48 = .ok (.goto 4, 3) := by decide +kernel
theorem dX12_stock_51 : decode cX12_stock 51 = .ok (.iload_n 2, 1) := by decide +kernel
theorem dX12_stock_52 : decode cX12_stock 52 = .ok (.ireturn, 1) := by decide +kernel
theorem dX12_seen_0 : decode cX12_seen 0 = .ok (.iload_n 1, 1) := by decide +kernel
theorem dX12_seen_1 : decode cX12_seen 1 = .ok (.iconst (-1), 1) := by decide +kernel
theorem dX12_seen_2 : decode cX12_seen 2 = .ok (.if_icmp .ne 12, 3) := by decide +kernel
theorem dX12_seen_5 : decode cX12_seen 5 = .ok (.aload_n 0, 1) := by decide +kernel
theorem dX12_seen_6 : decode cX12_seen 6 = .ok (.getfield 7, 3) := by decide +kernel
theorem dX12_seen_9 : decode cX12_seen 9 = .ok (.iconst 5, 1) := by decide +kernel
theorem dX12_seen_10 : decode cX12_seen 10 = .ok (.iconst 0, 1) := by decide +kernel
theorem dX12_seen_11 : decode cX12_seen 11 = .ok (.iastore, 1) := by decide +kernel
theorem dX12_seen_12 : decode cX12_seen 12 = .ok (.iconst 0, 1) := by decide +kernel
theorem dX12_seen_13 : decode cX12_seen 13 = .ok (.ireturn, 1) := by decide +kernel
theorem dX12_seen_14 : decode cX12_seen 14 = .ok (.iload_n 1, 1) := by decide +kernel
theorem dX12_seen_15 : decode cX12_seen 15 = .ok (.iconst 0, 1) := by decide +kernel
theorem dX12_seen_16 : decode cX12_seen 16 = .ok (.iconst 3, 1) := by decide +kernel
theorem dX12_seen_17 : decode cX12_seen 17 = .ok (.invokestatic 78, 3) := by decide +kernel
theorem dX12_seen_20 : decode cX12_seen 20 = .ok (.ifCond .eq 28, 3) := by decide +kernel
theorem dX12_seen_23 : decode cX12_seen 23 = .ok (.aload_n 0, 1) := by decide +kernel
theorem dX12_seen_24 : decode cX12_seen 24 = .ok (.iload_n 2, 1) := by decide +kernel
theorem dX12_seen_25 : decode cX12_seen 25 = .ok (.invokevirtual 102, 3) := by decide +kernel
theorem dX12_seen_28 : decode cX12_seen 28 = .ok (.ifCond .eq 20, 3) := by decide +kernel
theorem dX12_seen_31 : decode cX12_seen 31 = .ok (.iload_n 3, 1) := by decide +kernel
theorem dX12_seen_32 : decode cX12_seen 32 = .ok (.invokestatic 327, 3) := by decide +kernel
theorem dX12_seen_35 : decode cX12_seen 35 = .ok (.ifCond .eq 13, 3) := by decide +kernel
theorem dX12_seen_38 : decode cX12_seen 38 = .ok (.aload_n 0, 1) := by decide +kernel
theorem dX12_seen_39 : decode cX12_seen 39 = .ok (.getfield 7, 3) := by decide +kernel
theorem dX12_seen_42 : decode cX12_seen 42 = .ok (.iconst 5, 1) := by decide +kernel
theorem dX12_seen_43 : decode cX12_seen 43 = .ok (.iaload, 1) := by decide +kernel
theorem dX12_seen_44 : decode cX12_seen 44 = .ok (.iconst 4, 1) := by decide +kernel
theorem dX12_seen_45 : decode cX12_seen 45 = .ok (.if_icmp .ne 6, 3) := by decide +kernel
theorem dX12_seen_48 : decode cX12_seen 48 = .ok (.bipush (-2), 2) := by decide +kernel
theorem dX12_seen_50 : decode cX12_seen 50 = .ok (.ireturn, 1) := by decide +kernel
theorem dX12_seen_51 : decode cX12_seen 51 = .ok (.bipush 91, 2) := by decide +kernel
theorem dX12_seen_53 : decode cX12_seen 53 = .ok (.iconst 3, 1) := by decide +kernel
theorem dX12_seen_54 : decode cX12_seen 54 = .ok (.aload_n 0, 1) := by decide +kernel
theorem dX12_seen_55 : decode cX12_seen 55 = .ok (.getfield 7, 3) := by decide +kernel
theorem dX12_seen_58 : decode cX12_seen 58 = .ok (.iconst 5, 1) := by decide +kernel
theorem dX12_seen_59 : decode cX12_seen 59 = .ok (.iaload, 1) := by decide +kernel
theorem dX12_seen_60 : decode cX12_seen 60 = .ok (.imul, 1) := by decide +kernel
theorem dX12_seen_61 : decode cX12_seen 61 = .ok (.iadd, 1) := by decide +kernel
theorem dX12_seen_62 : decode cX12_seen 62 = .ok (.istore 4, 2) := by decide +kernel
theorem dX12_seen_64 : decode cX12_seen 64 = .ok (.aload_n 0, 1) := by decide +kernel
theorem dX12_seen_65 : decode cX12_seen 65 = .ok (.getfield 7, 3) := by decide +kernel
theorem dX12_seen_68 : decode cX12_seen 68 = .ok (.iload 4, 2) := by decide +kernel
theorem dX12_seen_70 : decode cX12_seen 70 = .ok (.iload_n 1, 1) := by decide +kernel
theorem dX12_seen_71 : decode cX12_seen 71 = .ok (.iastore, 1) := by decide +kernel
theorem dX12_seen_72 : decode cX12_seen 72 = .ok (.aload_n 0, 1) := by decide +kernel
theorem dX12_seen_73 : decode cX12_seen 73 = .ok (.getfield 7, 3) := by decide +kernel
theorem dX12_seen_76 : decode cX12_seen 76 = .ok (.iload 4, 2) := by decide +kernel
theorem dX12_seen_78 : decode cX12_seen 78 = .ok (.iconst 1, 1) := by decide +kernel
theorem dX12_seen_79 : decode cX12_seen 79 = .ok (.iadd, 1) := by decide +kernel
theorem dX12_seen_80 : decode cX12_seen 80 = .ok (.iload_n 2, 1) := by decide +kernel
theorem dX12_seen_81 : decode cX12_seen 81 = .ok (.iastore, 1) := by decide +kernel
theorem dX12_seen_82 : decode cX12_seen 82 = .ok (.aload_n 0, 1) := by decide +kernel
theorem dX12_seen_83 : decode cX12_seen 83 = .ok (.getfield 7, 3) := by decide +kernel
theorem dX12_seen_86 : decode cX12_seen 86 = .ok (.iload 4, 2) := by decide +kernel
theorem dX12_seen_88 : decode cX12_seen 88 = .ok (.iconst 2, 1) := by decide +kernel
theorem dX12_seen_89 : decode cX12_seen 89 = .ok (.iadd, 1) := by decide +kernel
theorem dX12_seen_90 : decode cX12_seen 90 = .ok (.iload_n 3, 1) := by decide +kernel
theorem dX12_seen_91 : decode cX12_seen 91 = .ok (.iastore, 1) := by decide +kernel
theorem dX12_seen_92 : decode cX12_seen 92 = .ok (.aload_n 0, 1) := by decide +kernel
theorem dX12_seen_93 : decode cX12_seen 93 = .ok (.getfield 7, 3) := by decide +kernel
theorem dX12_seen_96 : decode cX12_seen 96 = .ok (.iconst 5, 1) := by decide +kernel
theorem dX12_seen_97 : decode cX12_seen 97 = .ok (.dup2, 1) := by decide +kernel
theorem dX12_seen_98 : decode cX12_seen 98 = .ok (.iaload, 1) := by decide +kernel
theorem dX12_seen_99 : decode cX12_seen 99 = .ok (.iconst 1, 1) := by decide +kernel
theorem dX12_seen_100 : decode cX12_seen 100 = .ok (.iadd, 1) := by decide +kernel
theorem dX12_seen_101 : decode cX12_seen 101 = .ok (.iastore, 1) := by decide +kernel
theorem dX12_seen_102 : decode cX12_seen 102 = .ok (.aload_n 0, 1) := by decide +kernel
theorem dX12_seen_103 : decode cX12_seen 103 = .ok (.getfield 7, 3) := by decide +kernel
theorem dX12_seen_106 : decode cX12_seen 106 = .ok (.iconst 5, 1) := by decide +kernel
theorem dX12_seen_107 : decode cX12_seen 107 = .ok (.iaload, 1) := by decide +kernel
theorem dX12_seen_108 : decode cX12_seen 108 = .ok (.ireturn, 1) := by decide +kernel
theorem dX12_isThere_0 : decode cX12_isThere 0 = .ok (.aload_n 0, 1) := by decide +kernel
theorem dX12_isThere_1 : decode cX12_isThere 1 = .ok (.iload_n 2, 1) := by decide +kernel
theorem dX12_isThere_2 : decode cX12_isThere 2 = .ok (.invokevirtual 416, 3) := by decide +kernel
theorem dX12_isThere_5 : decode cX12_isThere 5 = .ok (.aload_n 0, 1) := by decide +kernel
theorem dX12_isThere_6 : decode cX12_isThere 6 = .ok (.getfield 56, 3) := by decide +kernel
theorem dX12_isThere_9 : decode cX12_isThere 9 = .ok (.iload_n 2, 1) := by decide +kernel
theorem dX12_isThere_10 : decode cX12_isThere 10 = .ok (.iaload, 1) := by decide +kernel
theorem dX12_isThere_11 : decode cX12_isThere 11 = .ok (.isub, 1) := by decide +kernel
theorem dX12_isThere_12 : decode cX12_isThere 12 = .ok (.istore_n 3, 1) := by decide +kernel
theorem dX12_isThere_13 : decode cX12_isThere 13 = .ok (.iload_n 3, 1) := by decide +kernel
theorem dX12_isThere_14 : decode cX12_isThere 14 = .ok (.aload_n 0, 1) := by decide +kernel
theorem dX12_isThere_15 : decode cX12_isThere 15 = .ok (.iload_n 2, 1) := by decide +kernel
theorem dX12_isThere_16 : decode cX12_isThere 16 = .ok (.invokevirtual 416, 3) := by decide +kernel
theorem dX12_isThere_19 : decode cX12_isThere 19 = .ok (.if_icmp .ge 21, 3) := by decide +kernel
theorem dX12_isThere_22 : decode cX12_isThere 22 = .ok (.aload_n 0, 1) := by decide +kernel
theorem dX12_isThere_23 : decode cX12_isThere 23 = .ok (.getfield 53, 3) := by decide +kernel
theorem dX12_isThere_26 : decode cX12_isThere 26 = .ok (.iload_n 3, 1) := by decide +kernel
theorem dX12_isThere_27 : decode cX12_isThere 27 = .ok (.iaload, 1) := by decide +kernel
theorem dX12_isThere_28 : decode cX12_isThere 28 = .ok (.iload_n 1, 1) := by decide +kernel
theorem dX12_isThere_29 : decode cX12_isThere 29 = .ok (.if_icmp .ne 5, 3) := by decide +kernel
theorem dX12_isThere_32 : decode cX12_isThere 32 = .ok (.iconst 1, 1) := by decide +kernel
theorem dX12_isThere_33 : decode cX12_isThere 33 = .ok (.ireturn, 1) := by decide +kernel
theorem dX12_isThere_34 : decode cX12_isThere 34 = .ok (.iinc 3 1, 3) := by decide +kernel
theorem dX12_isThere_37 : decode cX12_isThere 37 = .ok (.goto (-24), 3) := by decide +kernel
theorem dX12_isThere_40 : decode cX12_isThere 40 = .ok (.iconst 0, 1) := by decide +kernel
theorem dX12_isThere_41 : decode cX12_isThere 41 = .ok (.ireturn, 1) := by decide +kernel
theorem dX12_isSeenAt_0 : decode cX12_isSeenAt 0 = .ok (.bipush 91, 2) := by decide +kernel
theorem dX12_isSeenAt_2 : decode cX12_isSeenAt 2 = .ok (.istore_n 2, 1) := by decide +kernel
theorem dX12_isSeenAt_3 : decode cX12_isSeenAt 3 = .ok (.iload_n 2, 1) := by decide +kernel
theorem dX12_isSeenAt_4 : decode cX12_isSeenAt 4 = .ok (.bipush 91, 2) := by decide +kernel
theorem dX12_isSeenAt_6 : decode cX12_isSeenAt 6 = .ok (.iconst 3, 1) := by decide +kernel
theorem dX12_isSeenAt_7 : decode cX12_isSeenAt 7 = .ok (.aload_n 0, 1) := by decide +kernel
theorem dX12_isSeenAt_8 : decode cX12_isSeenAt 8 = .ok (.getfield 7, 3) := by decide +kernel
theorem dX12_isSeenAt_11 : decode cX12_isSeenAt 11 = .ok (.iconst 5, 1) := by decide +kernel
theorem dX12_isSeenAt_12 : decode cX12_isSeenAt 12 = .ok (.iaload, 1) := by decide +kernel
theorem dX12_isSeenAt_13 : decode cX12_isSeenAt 13 = .ok (.imul, 1) := by decide +kernel
theorem dX12_isSeenAt_14 : decode cX12_isSeenAt 14 = .ok (.iadd, 1) := by decide +kernel
theorem dX12_isSeenAt_15 : decode cX12_isSeenAt 15 = .ok (.if_icmp .ge 44, 3) := by decide +kernel
theorem dX12_isSeenAt_18 : decode cX12_isSeenAt 18 = .ok (.aload_n 0, 1) := by decide +kernel
theorem dX12_isSeenAt_19 : decode cX12_isSeenAt 19 = .ok (.getfield 7, 3) := by decide +kernel
theorem dX12_isSeenAt_22 : decode cX12_isSeenAt 22 = .ok (.iload_n 2, 1) := by decide +kernel
theorem dX12_isSeenAt_23 : decode cX12_isSeenAt 23 = .ok (.iaload, 1) := by decide +kernel
theorem dX12_isSeenAt_24 : decode cX12_isSeenAt 24 = .ok (.iload_n 1, 1) := by decide +kernel
theorem dX12_isSeenAt_25 : decode cX12_isSeenAt 25 = .ok (.if_icmp .ne 28, 3) := by decide +kernel
theorem dX12_isSeenAt_28 : decode cX12_isSeenAt 28 = .ok (.aload_n 0, 1) := by decide +kernel
theorem dX12_isSeenAt_29 : decode cX12_isSeenAt 29 = .ok (.aload_n 0, 1) := by decide +kernel
theorem dX12_isSeenAt_30 : decode cX12_isSeenAt 30 = .ok (.getfield 7, 3) := by decide +kernel
theorem dX12_isSeenAt_33 : decode cX12_isSeenAt 33 = .ok (.iload_n 2, 1) := by decide +kernel
theorem dX12_isSeenAt_34 : decode cX12_isSeenAt 34 = .ok (.iconst 1, 1) := by decide +kernel
theorem dX12_isSeenAt_35 : decode cX12_isSeenAt 35 = .ok (.iadd, 1) := by decide +kernel
theorem dX12_isSeenAt_36 : decode cX12_isSeenAt 36 = .ok (.iaload, 1) := by decide +kernel
theorem dX12_isSeenAt_37 : decode cX12_isSeenAt 37 = .ok (.aload_n 0, 1) := by decide +kernel
theorem dX12_isSeenAt_38 : decode cX12_isSeenAt 38 = .ok (.getfield 7, 3) := by decide +kernel
theorem dX12_isSeenAt_41 : decode cX12_isSeenAt 41 = .ok (.iload_n 2, 1) := by decide +kernel
theorem dX12_isSeenAt_42 : decode cX12_isSeenAt 42 = .ok (.iconst 2, 1) := by decide +kernel
theorem dX12_isSeenAt_43 : decode cX12_isSeenAt 43 = .ok (.iadd, 1) := by decide +kernel
theorem dX12_isSeenAt_44 : decode cX12_isSeenAt 44 = .ok (.iaload, 1) := by decide +kernel
theorem dX12_isSeenAt_45 : decode cX12_isSeenAt 45 = .ok (.invokevirtual 474, 3) := by decide +kernel
theorem dX12_isSeenAt_48 : decode cX12_isSeenAt 48 = .ok (.ifCond .ne 5, 3) := by decide +kernel
theorem dX12_isSeenAt_51 : decode cX12_isSeenAt 51 = .ok (.iconst 0, 1) := by decide +kernel
theorem dX12_isSeenAt_52 : decode cX12_isSeenAt 52 = .ok (.ireturn, 1) := by decide +kernel
theorem dX12_isSeenAt_53 : decode cX12_isSeenAt 53 = .ok (.iinc 2 3, 3) := by decide +kernel
theorem dX12_isSeenAt_56 : decode cX12_isSeenAt 56 = .ok (.goto (-53), 3) := by decide +kernel
theorem dX12_isSeenAt_59 : decode cX12_isSeenAt 59 = .ok (.iconst 1, 1) := by decide +kernel
theorem dX12_isSeenAt_60 : decode cX12_isSeenAt 60 = .ok (.ireturn, 1) := by decide +kernel
theorem dX12_isHistory_0 : decode cX12_isHistory 0 = .ok (.aload_n 0, 1) := by decide +kernel
theorem dX12_isHistory_1 : decode cX12_isHistory 1 = .ok (.aload_n 0, 1) := by decide +kernel
theorem dX12_isHistory_2 : decode cX12_isHistory 2 = .ok (.getfield 13, 3) := by decide +kernel
theorem dX12_isHistory_5 : decode cX12_isHistory 5 = .ok (.invokevirtual 419, 3) := by decide +kernel
theorem dX12_isHistory_8 : decode cX12_isHistory 8 = .ok (.aload_n 0, 1) := by decide +kernel
theorem dX12_isHistory_9 : decode cX12_isHistory 9 = .ok (.iconst 0, 1) := by decide +kernel
theorem dX12_isHistory_10 : decode cX12_isHistory 10 = .ok (.invokevirtual 477, 3) := by decide +kernel
theorem dX12_isHistory_13 : decode cX12_isHistory 13 = .ok (.ifCond .ne 5, 3) := by decide +kernel
theorem dX12_isHistory_16 : decode cX12_isHistory 16 = .ok (.iconst 0, 1) := by decide +kernel
theorem dX12_isHistory_17 : decode cX12_isHistory 17 = .ok (.ireturn, 1) := by decide +kernel
theorem dX12_isHistory_18 : decode cX12_isHistory 18 = .ok (.iconst 1, 1) := by decide +kernel
theorem dX12_isHistory_19 : decode cX12_isHistory 19 = .ok (.istore_n 3, 1) := by decide +kernel
theorem dX12_isHistory_20 : decode cX12_isHistory 20 = .ok (.iload_n 3, 1) := by decide +kernel
theorem dX12_isHistory_21 : decode cX12_isHistory 21 = .ok (.iload_n 2, 1) := by decide +kernel
theorem dX12_isHistory_22 : decode cX12_isHistory 22 = .ok (.if_icmp .gt 69, 3) := by decide +kernel
theorem dX12_isHistory_25 : decode cX12_isHistory 25 = .ok (.iload_n 3, 1) := by decide +kernel
theorem dX12_isHistory_26 : decode cX12_isHistory 26 = .ok (.iload_n 2, 1) := by decide +kernel
theorem dX12_isHistory_27 : decode cX12_isHistory 27 = .ok (.if_icmp .ne 10, 3) := by decide +kernel
theorem dX12_isHistory_30 : decode cX12_isHistory 30 = .ok (.iload_n 1, 1) := by decide +kernel
theorem dX12_isHistory_31 : decode cX12_isHistory 31 = .ok (.bipush 9, 2) := by decide +kernel
theorem dX12_isHistory_33 : decode cX12_isHistory 33 = .ok (.irem, 1) := by decide +kernel
theorem dX12_isHistory_34 : decode cX12_isHistory 34 = .ok (.goto 24, 3) := by decide +kernel
theorem dX12_isHistory_37 : decode cX12_isHistory 37 = .ok (.iload_n 3, 1) := by decide +kernel
theorem dX12_isHistory_38 : decode cX12_isHistory 38 = .ok (.iload_n 2, 1) := by decide +kernel
theorem dX12_isHistory_39 : decode cX12_isHistory 39 = .ok (.iconst 1, 1) := by decide +kernel
theorem dX12_isHistory_40 : decode cX12_isHistory 40 = .ok (.isub, 1) := by decide +kernel
theorem dX12_isHistory_41 : decode cX12_isHistory 41 = .ok (.if_icmp .ne 13, 3) := by decide +kernel
theorem dX12_isHistory_44 : decode cX12_isHistory 44 = .ok (.iload_n 1, 1) := by decide +kernel
theorem dX12_isHistory_45 : decode cX12_isHistory 45 = .ok (.bipush 9, 2) := by decide +kernel
theorem dX12_isHistory_47 : decode cX12_isHistory 47 = .ok (.idiv, 1) := by decide +kernel
theorem dX12_isHistory_48 : decode cX12_isHistory 48 = .ok (.bipush 9, 2) := by decide +kernel
theorem dX12_isHistory_50 : decode cX12_isHistory 50 = .ok (.irem, 1) := by decide +kernel
theorem dX12_isHistory_51 : decode cX12_isHistory 51 = .ok (.goto 7, 3) := by decide +kernel
theorem dX12_isHistory_54 : decode cX12_isHistory 54 = .ok (.iload_n 1, 1) := by decide +kernel
theorem dX12_isHistory_55 : decode cX12_isHistory 55 = .ok (.bipush 81, 2) := by decide +kernel
theorem dX12_isHistory_57 : decode cX12_isHistory 57 = .ok (.idiv, 1) := by decide +kernel
theorem dX12_isHistory_58 : decode cX12_isHistory 58 = .ok (.istore 4, 2) := by decide +kernel
theorem dX12_isHistory_60 : decode cX12_isHistory 60 = .ok (.aload_n 0, 1) := by decide +kernel
theorem dX12_isHistory_61 : decode cX12_isHistory 61 = .ok (.iload 4, 2) := by decide +kernel
theorem dX12_isHistory_63 : decode cX12_isHistory 63 = .ok (.iconst 3, 1) := by decide +kernel
theorem dX12_isHistory_64 : decode cX12_isHistory 64 = .ok (.idiv, 1) := by decide +kernel
theorem dX12_isHistory_65 : decode cX12_isHistory 65 = .ok (.iload 4, 2) := by decide +kernel
theorem dX12_isHistory_67 : decode cX12_isHistory 67 = .ok (.iconst 3, 1) := by decide +kernel
theorem dX12_isHistory_68 : decode cX12_isHistory 68 = .ok (.irem, 1) := by decide +kernel
theorem dX12_isHistory_69 : decode cX12_isHistory 69 = .ok (.invokevirtual 435, 3) := by decide +kernel
theorem dX12_isHistory_72 : decode cX12_isHistory 72 = .ok (.ifCond .eq 11, 3) := by decide +kernel
theorem dX12_isHistory_75 : decode cX12_isHistory 75 = .ok (.aload_n 0, 1) := by decide +kernel
theorem dX12_isHistory_76 : decode cX12_isHistory 76 = .ok (.iload_n 3, 1) := by decide +kernel
theorem dX12_isHistory_77 : decode cX12_isHistory 77 = .ok (.invokevirtual 477, 3) := by decide +kernel
theorem dX12_isHistory_80 : decode cX12_isHistory 80 = .ok (.ifCond .ne 5, 3) := by decide +kernel
theorem dX12_isHistory_83 : decode cX12_isHistory 83 = .ok (.iconst 0, 1) := by decide +kernel
theorem dX12_isHistory_84 : decode cX12_isHistory 84 = .ok (.ireturn, 1) := by decide +kernel
theorem dX12_isHistory_85 : decode cX12_isHistory 85 = .ok (.iinc 3 1, 3) := by decide +kernel
theorem dX12_isHistory_88 : decode cX12_isHistory 88 = .ok (.goto (-68), 3) := by decide +kernel
theorem dX12_isHistory_91 : decode cX12_isHistory 91 = .ok (.iconst 1, 1) := by decide +kernel
theorem dX12_isHistory_92 : decode cX12_isHistory 92 = .ok (.ireturn, 1) := by decide +kernel
theorem dX12_histories_0 : decode cX12_histories 0 = .ok (.iconst 0, 1) := by decide +kernel
theorem dX12_histories_1 : decode cX12_histories 1 = .ok (.istore_n 2, 1) := by decide +kernel
theorem dX12_histories_2 : decode cX12_histories 2 = .ok (.bipush 91, 2) := by decide +kernel
theorem dX12_histories_4 : decode cX12_histories 4 = .ok (.istore_n 3, 1) := by decide +kernel
theorem dX12_histories_5 : decode cX12_histories 5 = .ok (.iload_n 3, 1) := by decide +kernel
theorem dX12_histories_6 : decode cX12_histories 6 = .ok (.bipush 91, 2) := by decide +kernel
theorem dX12_histories_8 : decode cX12_histories 8 = .ok (.iconst 3, 1) := by decide +kernel
theorem dX12_histories_9 : decode cX12_histories 9 = .ok (.aload_n 0, 1) := by decide +kernel
theorem dX12_histories_10 : decode cX12_histories 10 = .ok (.getfield 7, 3) := by decide +kernel
theorem dX12_histories_13 : decode cX12_histories 13 = .ok (.iconst 5, 1) := by decide +kernel
theorem dX12_histories_14 : decode cX12_histories 14 = .ok (.iaload, 1) := by decide +kernel
theorem dX12_histories_15 : decode cX12_histories 15 = .ok (.imul, 1) := by decide +kernel
theorem dX12_histories_16 : decode cX12_histories 16 = .ok (.iadd, 1) := by decide +kernel
theorem dX12_histories_17 : decode cX12_histories 17 = .ok (.if_icmp .ge 30, 3) := by decide +kernel
theorem dX12_histories_20 : decode cX12_histories 20 = .ok (.aload_n 0, 1) := by decide +kernel
theorem dX12_histories_21 : decode cX12_histories 21 = .ok (.getfield 7, 3) := by decide +kernel
theorem dX12_histories_24 : decode cX12_histories 24 = .ok (.iload_n 3, 1) := by decide +kernel
theorem dX12_histories_25 : decode cX12_histories 25 = .ok (.iaload, 1) := by decide +kernel
theorem dX12_histories_26 : decode cX12_histories 26 = .ok (.iload_n 2, 1) := by decide +kernel
theorem dX12_histories_27 : decode cX12_histories 27 = .ok (.if_icmp .le 12, 3) := by decide +kernel
theorem dX12_histories_30 : decode cX12_histories 30 = .ok (.aload_n 0, 1) := by decide +kernel
theorem dX12_histories_31 : decode cX12_histories 31 = .ok (.getfield 7, 3) := by decide +kernel
theorem dX12_histories_34 : decode cX12_histories 34 = .ok (.iload_n 3, 1) := by decide +kernel
theorem dX12_histories_35 : decode cX12_histories 35 = .ok (.iaload, 1) := by decide +kernel
theorem dX12_histories_36 : decode cX12_histories 36 = .ok (.goto 4, 3) := by decide +kernel
theorem dX12_histories_39 : decode cX12_histories 39 = .ok (.iload_n 2, 1) := by decide +kernel
theorem dX12_histories_40 : decode cX12_histories 40 = .ok (.istore_n 2, 1) := by decide +kernel
theorem dX12_histories_41 : decode cX12_histories 41 = .ok (.iinc 3 3, 3) := by decide +kernel
theorem dX12_histories_44 : decode cX12_histories 44 = .ok (.goto (-39), 3) := by decide +kernel
theorem dX12_histories_47 : decode cX12_histories 47 = .ok (.iload_n 2, 1) := by decide +kernel
theorem dX12_histories_48 : decode cX12_histories 48 = .ok (.ifCond .ne 7, 3) := by decide +kernel
theorem dX12_histories_51 : decode cX12_histories 51 = .ok (.iconst 1, 1) := by decide +kernel
theorem dX12_histories_52 : decode cX12_histories 52 = .ok (.goto 26, 3) := by decide +kernel
theorem dX12_histories_55 : decode cX12_histories 55 = .ok (.iload_n 2, 1) := by decide +kernel
theorem dX12_histories_56 : decode cX12_histories 56 = .ok (.iconst 1, 1) := by decide +kernel
theorem dX12_histories_57 : decode cX12_histories 57 = .ok (.if_icmp .ne 8, 3) := by decide +kernel
theorem dX12_histories_60 : decode cX12_histories 60 = .ok (.bipush 9, 2) := by decide +kernel
theorem dX12_histories_62 : decode cX12_histories 62 = .ok (.goto 16, 3) := by decide +kernel
theorem dX12_histories_65 : decode cX12_histories 65 = .ok (.iload_n 2, 1) := by decide +kernel
theorem dX12_histories_66 : decode cX12_histories 66 = .ok (.iconst 2, 1) := by decide +kernel
theorem dX12_histories_67 : decode cX12_histories 67 = .ok (.if_icmp .ne 8, 3) := by decide +kernel
theorem dX12_histories_70 : decode cX12_histories 70 = .ok (.bipush 81, 2) := by decide +kernel
theorem dX12_histories_72 : decode cX12_histories 72 = .ok (.goto 6, 3) := by decide +kernel
theorem dX12_histories_75 : decode cX12_histories 75 = .ok (.sipush 729, 3) := by decide +kernel
theorem dX12_histories_78 : decode cX12_histories 78 = .ok (.istore_n 3, 1) := by decide +kernel
theorem dX12_histories_79 : decode cX12_histories 79 = .ok (.iconst 0, 1) := by decide +kernel
theorem dX12_histories_80 : decode cX12_histories 80 = .ok (.istore 4, 2) := by decide +kernel
theorem dX12_histories_82 : decode cX12_histories 82 = .ok (.iconst 0, 1) := by decide +kernel
theorem dX12_histories_83 : decode cX12_histories 83 = .ok (.istore 5, 2) := by decide +kernel
theorem dX12_histories_85 : decode cX12_histories 85 = .ok (.iload 5, 2) := by decide +kernel
theorem dX12_histories_87 : decode cX12_histories 87 = .ok (.iload_n 3, 1) := by decide +kernel
theorem dX12_histories_88 : decode cX12_histories 88 = .ok (.if_icmp .ge 32, 3) := by decide +kernel
theorem dX12_histories_91 : decode cX12_histories 91 = .ok (.aload_n 0, 1) := by decide +kernel
theorem dX12_histories_92 : decode cX12_histories 92 = .ok (.iload 5, 2) := by decide +kernel
theorem dX12_histories_94 : decode cX12_histories 94 = .ok (.iload_n 2, 1) := by decide +kernel
theorem dX12_histories_95 : decode cX12_histories 95 = .ok (.invokevirtual 480, 3) := by decide +kernel
theorem dX12_histories_98 : decode cX12_histories 98 = .ok (.ifCond .ne 6, 3) := by decide +kernel
theorem dX12_histories_101 : decode cX12_histories 101 = .ok (.goto 13, 3) := by decide +kernel
theorem dX12_histories_104 : decode cX12_histories 104 = .ok (.iload_n 1, 1) := by decide +kernel
theorem dX12_histories_105 : decode cX12_histories 105 = .ok (.ifCond .eq 6, 3) := by decide +kernel
theorem dX12_histories_108 : decode cX12_histories 108 = .ok (.iload 5, 2) := by decide +kernel
theorem dX12_histories_110 : decode cX12_histories 110 = .ok (.ireturn, 1) := by decide +kernel
theorem dX12_histories_111 : decode cX12_histories 111 = .ok (.iinc 4 1, 3) := by decide +kernel
theorem dX12_histories_114 : decode cX12_histories 114 = .ok (.iinc 5 1, 3) := by decide +kernel
theorem dX12_histories_117 : decode cX12_histories 117 = .ok (.goto (-32), 3) := by decide +kernel
theorem dX12_histories_120 : decode cX12_histories 120 = .ok (.iload_n 1, 1) := by decide +kernel
theorem dX12_histories_121 : decode cX12_histories 121 = .ok (.ifCond .eq 7, 3) := by decide +kernel
theorem dX12_histories_124 : decode cX12_histories 124 = .ok (.iconst (-1), 1) := by decide +kernel
theorem dX12_histories_125 : decode cX12_histories 125 = .ok (.goto 5, 3) := by decide +kernel
theorem dX12_histories_128 : decode cX12_histories 128 = .ok (.iload 4, 2) := by decide +kernel
theorem dX12_histories_130 : decode cX12_histories 130 = .ok (.ireturn, 1) := by decide +kernel
theorem dX12_late_0 : decode cX12_late 0 = .ok (.aload_n 0, 1) := by decide +kernel
theorem dX12_late_1 : decode cX12_late 1 = .ok (.iload_n 1, 1) := by decide +kernel
theorem dX12_late_2 : decode cX12_late 2 = .ok (.invokevirtual 102, 3) := by decide +kernel
theorem dX12_late_5 : decode cX12_late 5 = .ok (.ifCond .eq 13, 3) := by decide +kernel
theorem dX12_late_8 : decode cX12_late 8 = .ok (.iload_n 2, 1) := by decide +kernel
theorem dX12_late_9 : decode cX12_late 9 = .ok (.iconst 0, 1) := by decide +kernel
theorem dX12_late_10 : decode cX12_late 10 = .ok (.bipush 10, 2) := by decide +kernel
theorem dX12_late_12 : decode cX12_late 12 = .ok (.invokestatic 78, 3) := by decide +kernel
theorem dX12_late_15 : decode cX12_late 15 = .ok (.ifCond .ne 5, 3) := by decide +kernel
theorem dX12_late_18 : decode cX12_late 18 = .ok (.iconst 0, 1) := by decide +kernel
theorem dX12_late_19 : decode cX12_late 19 = .ok (.ireturn, 1) := by decide +kernel
theorem dX12_late_20 : decode cX12_late 20 = .ok (.aload_n 0, 1) := by decide +kernel
theorem dX12_late_21 : decode cX12_late 21 = .ok (.getfield 7, 3) := by decide +kernel
theorem dX12_late_24 : decode cX12_late 24 = .ok (.bipush 103, 2) := by decide +kernel
theorem dX12_late_26 : decode cX12_late 26 = .ok (.iload_n 1, 1) := by decide +kernel
theorem dX12_late_27 : decode cX12_late 27 = .ok (.iadd, 1) := by decide +kernel
theorem dX12_late_28 : decode cX12_late 28 = .ok (.iload_n 2, 1) := by decide +kernel
theorem dX12_late_29 : decode cX12_late 29 = .ok (.iastore, 1) := by decide +kernel
theorem dX12_late_30 : decode cX12_late 30 = .ok (.iconst 1, 1) := by decide +kernel
theorem dX12_late_31 : decode cX12_late 31 = .ok (.ireturn, 1) := by decide +kernel
theorem dX12_divisor_0 : decode cX12_divisor 0 = .ok (.lload_n 0, 1) := by decide +kernel
theorem dX12_divisor_1 : decode cX12_divisor 1 = .ok (.lstore 4, 2) := by decide +kernel
theorem dX12_divisor_3 : decode cX12_divisor 3 = .ok (.lload_n 2, 1) := by decide +kernel
theorem dX12_divisor_4 : decode cX12_divisor 4 = .ok (.lstore 6, 2) := by decide +kernel
theorem dX12_divisor_6 : decode cX12_divisor 6 = .ok (.lload 6, 2) := by decide +kernel
theorem dX12_divisor_8 : decode cX12_divisor 8 = .ok (.lconst 0, 1) := by decide +kernel
theorem dX12_divisor_9 : decode cX12_divisor 9 = .ok (.lcmp, 1) := by decide +kernel
theorem dX12_divisor_10 : decode cX12_divisor 10 = .ok (.ifCond .eq 21, 3) := by decide +kernel
theorem dX12_divisor_13 : decode cX12_divisor 13 = .ok (.lload 4, 2) := by decide +kernel
theorem dX12_divisor_15 : decode cX12_divisor 15 = .ok (.lload 6, 2) := by decide +kernel
theorem dX12_divisor_17 : decode cX12_divisor 17 = .ok (.lrem, 1) := by decide +kernel
theorem dX12_divisor_18 : decode cX12_divisor 18 = .ok (.lstore 8, 2) := by decide +kernel
theorem dX12_divisor_20 : decode cX12_divisor 20 = .ok (.lload 6, 2) := by decide +kernel
theorem dX12_divisor_22 : decode cX12_divisor 22 = .ok (.lstore 4, 2) := by decide +kernel
theorem dX12_divisor_24 : decode cX12_divisor 24 = .ok (.lload 8, 2) := by decide +kernel
theorem dX12_divisor_26 : decode cX12_divisor 26 = .ok (.lstore 6, 2) := by decide +kernel
theorem dX12_divisor_28 : decode cX12_divisor 28 = .ok (.goto (-22), 3) := by decide +kernel
theorem dX12_divisor_31 : decode cX12_divisor 31 = .ok (.lload 4, 2) := by decide +kernel
theorem dX12_divisor_33 : decode cX12_divisor 33 = .ok (.lreturn, 1) := by decide +kernel
theorem dX12_likely_0 : decode cX12_likely 0 = .ok (.iload_n 1, 1) := by decide +kernel
theorem dX12_likely_1 : decode cX12_likely 1 = .ok (.iconst 0, 1) := by decide +kernel
theorem dX12_likely_2 : decode cX12_likely 2 = .ok (.iconst 1, 1) := by decide +kernel
theorem dX12_likely_3 : decode cX12_likely 3 = .ok (.aload_n 0, 1) := by decide +kernel
theorem dX12_likely_4 : decode cX12_likely 4 = .ok (.getfield 7, 3) := by decide +kernel
theorem dX12_likely_7 : decode cX12_likely 7 = .ok (.iconst 0, 1) := by decide +kernel
theorem dX12_likely_8 : decode cX12_likely 8 = .ok (.iaload, 1) := by decide +kernel
theorem dX12_likely_9 : decode cX12_likely 9 = .ok (.ishl, 1) := by decide +kernel
theorem dX12_likely_10 : decode cX12_likely 10 = .ok (.iconst 1, 1) := by decide +kernel
theorem dX12_likely_11 : decode cX12_likely 11 = .ok (.isub, 1) := by decide +kernel
theorem dX12_likely_12 : decode cX12_likely 12 = .ok (.invokestatic 78, 3) := by decide +kernel
theorem dX12_likely_15 : decode cX12_likely 15 = .ok (.ifCond .ne 7, 3) := by decide +kernel
theorem dX12_likely_18 : decode cX12_likely 18 = .ok (.ldc2_w 447, 3) := by decide +kernel
theorem dX12_likely_21 : decode cX12_likely 21 = .ok (.lreturn, 1) := by decide +kernel
theorem dX12_likely_22 : decode cX12_likely 22 = .ok (.lconst 1, 1) := by decide +kernel
theorem dX12_likely_23 : decode cX12_likely 23 = .ok (.lstore_n 3, 1) := by decide +kernel
theorem dX12_likely_24 : decode cX12_likely 24 = .ok (.lconst 1, 1) := by decide +kernel
theorem dX12_likely_25 : decode cX12_likely 25 = .ok (.lstore 5, 2) := by decide +kernel
theorem dX12_likely_27 : decode cX12_likely 27 = .ok (.iconst 0, 1) := by decide +kernel
theorem dX12_likely_28 : decode cX12_likely 28 = .ok (.istore 7, 2) := by decide +kernel
theorem dX12_likely_30 : decode cX12_likely 30 = .ok (.iload 7, 2) := by decide +kernel
theorem dX12_likely_32 : decode cX12_likely 32 = .ok (.aload_n 0, 1) := by decide +kernel
theorem dX12_likely_33 : decode cX12_likely 33 = .ok (.getfield 7, 3) := by decide +kernel
theorem dX12_likely_36 : decode cX12_likely 36 = .ok (.iconst 0, 1) := by decide +kernel
theorem dX12_likely_37 : decode cX12_likely 37 = .ok (.iaload, 1) := by decide +kernel
theorem dX12_likely_38 : decode cX12_likely 38 = .ok (.if_icmp .ge 46, 3) := by decide +kernel
theorem dX12_likely_41 : decode cX12_likely 41 = .ok (.iload_n 1, 1) := by decide +kernel
theorem dX12_likely_42 : decode cX12_likely 42 = .ok (.iload 7, 2) := by decide +kernel
theorem dX12_likely_44 : decode cX12_likely 44 = .ok (.invokestatic 90, 3) := by decide +kernel
theorem dX12_likely_47 : decode cX12_likely 47 = .ok (.ifCond .ne 6, 3) := by decide +kernel
theorem dX12_likely_50 : decode cX12_likely 50 = .ok (.goto 28, 3) := by decide +kernel
theorem dX12_likely_53 : decode cX12_likely 53 = .ok (.lload_n 3, 1) := by decide +kernel
theorem dX12_likely_54 : decode cX12_likely 54 = .ok (.bipush 10, 2) := by decide +kernel
theorem dX12_likely_56 : decode cX12_likely 56 = .ok (.aload_n 0, 1) := by decide +kernel
theorem dX12_likely_57 : decode cX12_likely 57 = .ok (.getfield 7, 3) := by decide +kernel
theorem dX12_likely_60 : decode cX12_likely 60 = .ok (.bipush 103, 2) := by decide +kernel
theorem dX12_likely_62 : decode cX12_likely 62 = .ok (.iload 7, 2) := by decide +kernel
theorem dX12_likely_64 : decode cX12_likely 64 = .ok (.iadd, 1) := by decide +kernel
theorem dX12_likely_65 : decode cX12_likely 65 = .ok (.iaload, 1) := by decide +kernel
theorem dX12_likely_66 : decode cX12_likely 66 = .ok (.isub, 1) := by decide +kernel
theorem dX12_likely_67 : decode cX12_likely 67 = .ok (.i2l, 1) := by decide +kernel
theorem dX12_likely_68 : decode cX12_likely 68 = .ok (.lmul, 1) := by decide +kernel
theorem dX12_likely_69 : decode cX12_likely 69 = .ok (.lstore_n 3, 1) := by decide +kernel
theorem dX12_likely_70 : decode cX12_likely 70 = .ok (.lload 5, 2) := by decide +kernel
theorem dX12_likely_72 : decode cX12_likely 72 = .ok (.ldc2_w 483, 3) := by decide +kernel
theorem dX12_likely_75 : decode cX12_likely 75 = .ok (.lmul, 1) := by decide +kernel
theorem dX12_likely_76 : decode cX12_likely 76 = .ok (.lstore 5, 2) := by decide +kernel
theorem dX12_likely_78 : decode cX12_likely 78 = .ok (.iinc 7 1, 3) := by decide +kernel
theorem dX12_likely_81 : decode cX12_likely 81 = .ok (.goto (-51), 3) := by decide +kernel
theorem dX12_likely_84 : decode cX12_likely 84 = .ok (.iload_n 2, 1) := by decide +kernel
theorem dX12_likely_85 : decode cX12_likely 85 = .ok (.ifCond .eq 8, 3) := by decide +kernel
theorem dX12_likely_88 : decode cX12_likely 88 = .ok (.lload 5, 2) := by decide +kernel
theorem dX12_likely_90 : decode cX12_likely 90 = .ok (.goto 4, 3) := by decide +kernel
theorem dX12_likely_93 : decode cX12_likely 93 = .ok (.lload_n 3, 1) := by decide +kernel
theorem dX12_likely_94 : decode cX12_likely 94 = .ok (.lload_n 3, 1) := by decide +kernel
theorem dX12_likely_95 : decode cX12_likely 95 = .ok (.lload 5, 2) := by decide +kernel
theorem dX12_likely_97 : decode cX12_likely 97 = .ok (.invokestatic 485, 3) := by decide +kernel
theorem dX12_likely_100 : decode cX12_likely 100 = .ok (.ldiv, 1) := by decide +kernel
theorem dX12_likely_101 : decode cX12_likely 101 = .ok (.lreturn, 1) := by decide +kernel
theorem dX12_said_0 : decode cX12_said 0 = .ok (.iload_n 1, 1) := by decide +kernel
theorem dX12_said_1 : decode cX12_said 1 = .ok (.iconst (-1), 1) := by decide +kernel
theorem dX12_said_2 : decode cX12_said 2 = .ok (.if_icmp .ne 13, 3) := by decide +kernel
theorem dX12_said_5 : decode cX12_said 5 = .ok (.aload_n 0, 1) := by decide +kernel
theorem dX12_said_6 : decode cX12_said 6 = .ok (.getfield 7, 3) := by decide +kernel
theorem dX12_said_9 : decode cX12_said 9 = .ok (.bipush 6, 2) := by decide +kernel
theorem dX12_said_11 : decode cX12_said 11 = .ok (.iconst 0, 1) := by decide +kernel
theorem dX12_said_12 : decode cX12_said 12 = .ok (.iastore, 1) := by decide +kernel
theorem dX12_said_13 : decode cX12_said 13 = .ok (.iconst 0, 1) := by decide +kernel
theorem dX12_said_14 : decode cX12_said 14 = .ok (.ireturn, 1) := by decide +kernel
theorem dX12_said_15 : decode cX12_said 15 = .ok (.aload_n 0, 1) := by decide +kernel
theorem dX12_said_16 : decode cX12_said 16 = .ok (.iload_n 1, 1) := by decide +kernel
theorem dX12_said_17 : decode cX12_said 17 = .ok (.invokevirtual 102, 3) := by decide +kernel
theorem dX12_said_20 : decode cX12_said 20 = .ok (.ifCond .eq 26, 3) := by decide +kernel
theorem dX12_said_23 : decode cX12_said 23 = .ok (.iload_n 2, 1) := by decide +kernel
theorem dX12_said_24 : decode cX12_said 24 = .ok (.bipush (-9), 2) := by decide +kernel
theorem dX12_said_26 : decode cX12_said 26 = .ok (.bipush 9, 2) := by decide +kernel
theorem dX12_said_28 : decode cX12_said 28 = .ok (.invokestatic 78, 3) := by decide +kernel
theorem dX12_said_31 : decode cX12_said 31 = .ok (.ifCond .eq 15, 3) := by decide +kernel
theorem dX12_said_34 : decode cX12_said 34 = .ok (.aload_n 0, 1) := by decide +kernel
theorem dX12_said_35 : decode cX12_said 35 = .ok (.getfield 7, 3) := by decide +kernel
theorem dX12_said_38 : decode cX12_said 38 = .ok (.bipush 6, 2) := by decide +kernel
theorem dX12_said_40 : decode cX12_said 40 = .ok (.iaload, 1) := by decide +kernel
theorem dX12_said_41 : decode cX12_said 41 = .ok (.bipush 8, 2) := by decide +kernel
theorem dX12_said_43 : decode cX12_said 43 = .ok (.if_icmp .ne 6, 3) := by decide +kernel
theorem dX12_said_46 : decode cX12_said 46 = .ok (.bipush (-2), 2) := by decide +kernel
theorem dX12_said_48 : decode cX12_said 48 = .ok (.ireturn, 1) := by decide +kernel
theorem dX12_said_49 : decode cX12_said 49 = .ok (.aload_n 0, 1) := by decide +kernel
theorem dX12_said_50 : decode cX12_said 50 = .ok (.getfield 7, 3) := by decide +kernel
theorem dX12_said_53 : decode cX12_said 53 = .ok (.bipush 108, 2) := by decide +kernel
theorem dX12_said_55 : decode cX12_said 55 = .ok (.iconst 2, 1) := by decide +kernel
theorem dX12_said_56 : decode cX12_said 56 = .ok (.aload_n 0, 1) := by decide +kernel
theorem dX12_said_57 : decode cX12_said 57 = .ok (.getfield 7, 3) := by decide +kernel
theorem dX12_said_60 : decode cX12_said 60 = .ok (.bipush 6, 2) := by decide +kernel
theorem dX12_said_62 : decode cX12_said 62 = .ok (.iaload, 1) := by decide +kernel
theorem dX12_said_63 : decode cX12_said 63 = .ok (.imul, 1) := by decide +kernel
theorem dX12_said_64 : decode cX12_said 64 = .ok (.iadd, 1) := by decide +kernel
theorem dX12_said_65 : decode cX12_said 65 = .ok (.iload_n 1, 1) := by decide +kernel
theorem dX12_said_66 : decode cX12_said 66 = .ok (.iastore, 1) := by decide +kernel
theorem dX12_said_67 : decode cX12_said 67 = .ok (.aload_n 0, 1) := by decide +kernel
theorem dX12_said_68 : decode cX12_said 68 = .ok (.getfield 7, 3) := by decide +kernel
theorem dX12_said_71 : decode cX12_said 71 = .ok (.bipush 108, 2) := by decide +kernel
theorem dX12_said_73 : decode cX12_said 73 = .ok (.iconst 2, 1) := by decide +kernel
theorem dX12_said_74 : decode cX12_said 74 = .ok (.aload_n 0, 1) := by decide +kernel
theorem dX12_said_75 : decode cX12_said 75 = .ok (.getfield 7, 3) := by decide +kernel
theorem dX12_said_78 : decode cX12_said 78 = .ok (.bipush 6, 2) := by decide +kernel
theorem dX12_said_80 : decode cX12_said 80 = .ok (.iaload, 1) := by decide +kernel
theorem dX12_said_81 : decode cX12_said 81 = .ok (.imul, 1) := by decide +kernel
theorem dX12_said_82 : decode cX12_said 82 = .ok (.iadd, 1) := by decide +kernel
theorem dX12_said_83 : decode cX12_said 83 = .ok (.iconst 1, 1) := by decide +kernel
theorem dX12_said_84 : decode cX12_said 84 = .ok (.iadd, 1) := by decide +kernel
theorem dX12_said_85 : decode cX12_said 85 = .ok (.iload_n 2, 1) := by decide +kernel
theorem dX12_said_86 : decode cX12_said 86 = .ok (.iastore, 1) := by decide +kernel
theorem dX12_said_87 : decode cX12_said 87 = .ok (.aload_n 0, 1) := by decide +kernel
theorem dX12_said_88 : decode cX12_said 88 = .ok (.getfield 7, 3) := by decide +kernel
theorem dX12_said_91 : decode cX12_said 91 = .ok (.bipush 6, 2) := by decide +kernel
theorem dX12_said_93 : decode cX12_said 93 = .ok (.dup2, 1) := by decide +kernel
theorem dX12_said_94 : decode cX12_said 94 = .ok (.iaload, 1) := by decide +kernel
