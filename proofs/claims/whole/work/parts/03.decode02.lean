theorem dX9_passYear_60 : decode cX9_passYear 60 = .ok (.irem, 1) := by decide +kernel
theorem dX9_passYear_61 : decode cX9_passYear 61 = .ok (.iconst 1, 1) := by decide +kernel
theorem dX9_passYear_62 : decode cX9_passYear 62 = .ok (.if_icmp .le 7, 3) := by decide +kernel
theorem dX9_passYear_65 : decode cX9_passYear 65 = .ok (.iconst 2, 1) := by decide +kernel
theorem dX9_passYear_66 : decode cX9_passYear 66 = .ok (.goto 4, 3) := by decide +kernel
theorem dX9_passYear_69 : decode cX9_passYear 69 = .ok (.iconst 1, 1) := by decide +kernel
theorem dX9_passYear_70 : decode cX9_passYear 70 = .ok (.iadd, 1) := by decide +kernel
theorem dX9_passYear_71 : decode cX9_passYear 71 = .ok (.iconst 3, 1) := by decide +kernel
theorem dX9_passYear_72 : decode cX9_passYear 72 = .ok (.irem, 1) := by decide +kernel
theorem dX9_passYear_73 : decode cX9_passYear 73 = .ok (.iconst 0, 1) := by decide +kernel
theorem dX9_passYear_74 : decode cX9_passYear 74 = .ok (.invokevirtual 134, 3) := by decide +kernel
theorem dX9_passYear_77 : decode cX9_passYear 77 = .ok (.pop, 1) := by decide +kernel
theorem dX9_passYear_78 : decode cX9_passYear 78 = .ok (.goto 37, 3) := by decide +kernel
theorem dX9_passYear_81 : decode cX9_passYear 81 = .ok (.aload_n 0, 1) := by decide +kernel
theorem dX9_passYear_82 : decode cX9_passYear 82 = .ok (.iconst 0, 1) := by decide +kernel
theorem dX9_passYear_83 : decode cX9_passYear 83 = .ok (.invokevirtual 138, 3) := by decide +kernel
theorem dX9_passYear_86 : decode cX9_passYear 86 = .ok (.pop, 1) := by decide +kernel
theorem dX9_passYear_87 : decode cX9_passYear 87 = .ok (.goto 28, 3) := by decide +kernel
theorem dX9_passYear_90 : decode cX9_passYear 90 = .ok (.aload_n 1, 1) := by decide +kernel
theorem dX9_passYear_91 : decode cX9_passYear 91 = .ok (.iload_n 2, 1) := by decide +kernel
theorem dX9_passYear_92 : decode cX9_passYear 92 = .ok (.bipush 6, 2) := by decide +kernel
theorem dX9_passYear_94 : decode cX9_passYear 94 = .ok (.idiv, 1) := by decide +kernel
theorem dX9_passYear_95 : decode cX9_passYear 95 = .ok (.iconst 2, 1) := by decide +kernel
theorem dX9_passYear_96 : decode cX9_passYear 96 = .ok (.irem, 1) := by decide +kernel
theorem dX9_passYear_97 : decode cX9_passYear 97 = .ok (.invokevirtual 154, 3) := by decide +kernel
theorem dX9_passYear_100 : decode cX9_passYear 100 = .ok (.goto 15, 3) := by decide +kernel
theorem dX9_passYear_103 : decode cX9_passYear 103 = .ok (.aload_n 1, 1) := by decide +kernel
theorem dX9_passYear_104 : decode cX9_passYear 104 = .ok (.invokevirtual 116, 3) := by decide +kernel
theorem dX9_passYear_107 : decode cX9_passYear 107 = .ok (.ifCond .eq 8, 3) := by decide +kernel
theorem dX9_passYear_110 : decode cX9_passYear 110 = .ok (.aload_n 1, 1) := by decide +kernel
theorem dX9_passYear_111 : decode cX9_passYear 111 = .ok (.invokevirtual 120, 3) := by decide +kernel
theorem dX9_passYear_114 : decode cX9_passYear 114 = .ok (.pop, 1) := by decide +kernel
theorem dX9_passYear_115 : decode cX9_passYear 115 = .ok (.return_, 1) := by decide +kernel
theorem dX10_init_0 : decode cX10_init 0 = .ok (.aload_n 0, 1) := by decide +kernel
theorem dX10_init_1 : decode cX10_init 1 = .ok (.invokespecial 3, 3) := by decide +kernel
theorem dX10_init_4 : decode cX10_init 4 = .ok (.aload_n 0, 1) := by decide +kernel
theorem dX10_init_5 : decode cX10_init 5 = .ok (.bipush 60, 2) := by decide +kernel
theorem dX10_init_7 : decode cX10_init 7 = .ok (.newarray .int, 2) := by decide +kernel
theorem dX10_init_9 : decode cX10_init 9 = .ok (.putfield 11, 3) := by decide +kernel
theorem dX10_init_12 : decode cX10_init 12 = .ok (.aload_n 0, 1) := by decide +kernel
theorem dX10_init_13 : decode cX10_init 13 = .ok (.getfield 11, 3) := by decide +kernel
theorem dX10_init_16 : decode cX10_init 16 = .ok (.iconst 1, 1) := by decide +kernel
theorem dX10_init_17 : decode cX10_init 17 = .ok (.sipush 353, 3) := by decide +kernel
theorem dX10_init_20 : decode cX10_init 20 = .ok (.iastore, 1) := by decide +kernel
theorem dX10_init_21 : decode cX10_init 21 = .ok (.aload_n 0, 1) := by decide +kernel
theorem dX10_init_22 : decode cX10_init 22 = .ok (.getfield 11, 3) := by decide +kernel
theorem dX10_init_25 : decode cX10_init 25 = .ok (.iconst 2, 1) := by decide +kernel
theorem dX10_init_26 : decode cX10_init 26 = .ok (.iconst 1, 1) := by decide +kernel
theorem dX10_init_27 : decode cX10_init 27 = .ok (.iastore, 1) := by decide +kernel
theorem dX10_init_28 : decode cX10_init 28 = .ok (.aload_n 0, 1) := by decide +kernel
theorem dX10_init_29 : decode cX10_init 29 = .ok (.getfield 11, 3) := by decide +kernel
theorem dX10_init_32 : decode cX10_init 32 = .ok (.iconst 3, 1) := by decide +kernel
theorem dX10_init_33 : decode cX10_init 33 = .ok (.iconst 1, 1) := by decide +kernel
theorem dX10_init_34 : decode cX10_init 34 = .ok (.iastore, 1) := by decide +kernel
theorem dX10_init_35 : decode cX10_init 35 = .ok (.return_, 1) := by decide +kernel
theorem dX10_copyFrom_0 : decode cX10_copyFrom 0 = .ok (.aload_n 1, 1) := by decide +kernel
theorem dX10_copyFrom_1 : decode cX10_copyFrom 1 = .ok (.getfield 11, 3) := by decide +kernel
theorem dX10_copyFrom_4 : decode cX10_copyFrom 4 = .ok (.iconst 0, 1) := by decide +kernel
theorem dX10_copyFrom_5 : decode cX10_copyFrom 5 = .ok (.aload_n 0, 1) := by decide +kernel
theorem dX10_copyFrom_6 : decode cX10_copyFrom 6 = .ok (.getfield 11, 3) := by decide +kernel
theorem dX10_copyFrom_9 : decode cX10_copyFrom 9 = .ok (.iconst 0, 1) := by decide +kernel
theorem dX10_copyFrom_10 : decode cX10_copyFrom 10 = .ok (.bipush 60, 2) := by decide +kernel
theorem dX10_copyFrom_12 : decode cX10_copyFrom 12 = .ok (.invokestatic 15, 3) := by decide +kernel
theorem dX10_copyFrom_15 : decode cX10_copyFrom 15 = .ok (.return_, 1) := by decide +kernel
theorem dX10_hourNow_0 : decode cX10_hourNow 0 = .ok (.aload_n 0, 1) := by decide +kernel
theorem dX10_hourNow_1 : decode cX10_hourNow 1 = .ok (.getfield 11, 3) := by decide +kernel
theorem dX10_hourNow_4 : decode cX10_hourNow 4 = .ok (.iconst 0, 1) := by decide +kernel
theorem dX10_hourNow_5 : decode cX10_hourNow 5 = .ok (.iaload, 1) := by decide +kernel
theorem dX10_hourNow_6 : decode cX10_hourNow 6 = .ok (.ireturn, 1) := by decide +kernel
theorem dX10_wheelsOf_0 : decode cX10_wheelsOf 0 = .ok (.aload_n 0, 1) := by decide +kernel
theorem dX10_wheelsOf_1 : decode cX10_wheelsOf 1 = .ok (.getfield 11, 3) := by decide +kernel
theorem dX10_wheelsOf_4 : decode cX10_wheelsOf 4 = .ok (.iconst 2, 1) := by decide +kernel
theorem dX10_wheelsOf_5 : decode cX10_wheelsOf 5 = .ok (.iload_n 1, 1) := by decide +kernel
theorem dX10_wheelsOf_6 : decode cX10_wheelsOf 6 = .ok (.iadd, 1) := by decide +kernel
theorem dX10_wheelsOf_7 : decode cX10_wheelsOf 7 = .ok (.iaload, 1) := by decide +kernel
theorem dX10_wheelsOf_8 : decode cX10_wheelsOf 8 = .ok (.ireturn, 1) := by decide +kernel
theorem dX10_countCars_0 : decode cX10_countCars 0 = .ok (.aload_n 0, 1) := by decide +kernel
theorem dX10_countCars_1 : decode cX10_countCars 1 = .ok (.getfield 11, 3) := by decide +kernel
theorem dX10_countCars_4 : decode cX10_countCars 4 = .ok (.iconst 4, 1) := by decide +kernel
theorem dX10_countCars_5 : decode cX10_countCars 5 = .ok (.iaload, 1) := by decide +kernel
theorem dX10_countCars_6 : decode cX10_countCars 6 = .ok (.ireturn, 1) := by decide +kernel
theorem dX10_toldCars_0 : decode cX10_toldCars 0 = .ok (.iconst 1, 1) := by decide +kernel
theorem dX10_toldCars_1 : decode cX10_toldCars 1 = .ok (.aload_n 0, 1) := by decide +kernel
theorem dX10_toldCars_2 : decode cX10_toldCars 2 = .ok (.getfield 11, 3) := by decide +kernel
theorem dX10_toldCars_5 : decode cX10_toldCars 5 = .ok (.iconst 4, 1) := by decide +kernel
theorem dX10_toldCars_6 : decode cX10_toldCars 6 = .ok (.iaload, 1) := by decide +kernel
theorem dX10_toldCars_7 : decode cX10_toldCars 7 = .ok (.ishl, 1) := by decide +kernel
theorem dX10_toldCars_8 : decode cX10_toldCars 8 = .ok (.iconst 1, 1) := by decide +kernel
theorem dX10_toldCars_9 : decode cX10_toldCars 9 = .ok (.isub, 1) := by decide +kernel
theorem dX10_toldCars_10 : decode cX10_toldCars 10 = .ok (.ireturn, 1) := by decide +kernel
theorem dX10_isWide_0 : decode cX10_isWide 0 = .ok (.aload_n 0, 1) := by decide +kernel
theorem dX10_isWide_1 : decode cX10_isWide 1 = .ok (.getfield 11, 3) := by decide +kernel
theorem dX10_isWide_4 : decode cX10_isWide 4 = .ok (.iconst 5, 1) := by decide +kernel
theorem dX10_isWide_5 : decode cX10_isWide 5 = .ok (.iaload, 1) := by decide +kernel
theorem dX10_isWide_6 : decode cX10_isWide 6 = .ok (.iload_n 1, 1) := by decide +kernel
theorem dX10_isWide_7 : decode cX10_isWide 7 = .ok (.ishr, 1) := by decide +kernel
theorem dX10_isWide_8 : decode cX10_isWide 8 = .ok (.iconst 1, 1) := by decide +kernel
theorem dX10_isWide_9 : decode cX10_isWide 9 = .ok (.iand, 1) := by decide +kernel
theorem dX10_isWide_10 : decode cX10_isWide 10 = .ok (.ifCond .eq 7, 3) := by decide +kernel
theorem dX10_isWide_13 : decode cX10_isWide 13 = .ok (.iconst 1, 1) := by decide +kernel
theorem dX10_isWide_14 : decode cX10_isWide 14 = .ok (.goto 4, 3) := by decide +kernel
theorem dX10_isWide_17 : decode cX10_isWide 17 = .ok (.iconst 0, 1) := by decide +kernel
theorem dX10_isWide_18 : decode cX10_isWide 18 = .ok (.ireturn, 1) := by decide +kernel
theorem dX10_wornOf_0 : decode cX10_wornOf 0 = .ok (.aload_n 0, 1) := by decide +kernel
theorem dX10_wornOf_1 : decode cX10_wornOf 1 = .ok (.getfield 11, 3) := by decide +kernel
theorem dX10_wornOf_4 : decode cX10_wornOf 4 = .ok (.bipush 6, 2) := by decide +kernel
theorem dX10_wornOf_6 : decode cX10_wornOf 6 = .ok (.iload_n 1, 1) := by decide +kernel
theorem dX10_wornOf_7 : decode cX10_wornOf 7 = .ok (.iadd, 1) := by decide +kernel
theorem dX10_wornOf_8 : decode cX10_wornOf 8 = .ok (.iaload, 1) := by decide +kernel
theorem dX10_wornOf_9 : decode cX10_wornOf 9 = .ok (.ireturn, 1) := by decide +kernel
theorem dX10_wornTogether_0 : decode cX10_wornTogether 0 = .ok (.iconst 0, 1) := by decide +kernel
theorem dX10_wornTogether_1 : decode cX10_wornTogether 1 = .ok (.istore_n 1, 1) := by decide +kernel
theorem dX10_wornTogether_2 : decode cX10_wornTogether 2 = .ok (.iconst 0, 1) := by decide +kernel
theorem dX10_wornTogether_3 : decode cX10_wornTogether 3 = .ok (.istore_n 2, 1) := by decide +kernel
theorem dX10_wornTogether_4 : decode cX10_wornTogether 4 = .ok (.iload_n 2, 1) := by decide +kernel
theorem dX10_wornTogether_5 : decode cX10_wornTogether 5 = .ok (.iconst 5, 1) := by decide +kernel
theorem dX10_wornTogether_6 : decode cX10_wornTogether 6 = .ok (.if_icmp .ge 17, 3) := by decide +kernel
theorem dX10_wornTogether_9 : decode cX10_wornTogether 9 = .ok (.iload_n 1, 1) := by decide +kernel
theorem dX10_wornTogether_10 : decode cX10_wornTogether 10 = .ok (.aload_n 0, 1) := by decide +kernel
theorem dX10_wornTogether_11 : decode cX10_wornTogether 11 = .ok (.iload_n 2, 1) := by decide +kernel
theorem dX10_wornTogether_12 : decode cX10_wornTogether 12 = .ok (.invokevirtual 21, 3) := by decide +kernel
theorem dX10_wornTogether_15 : decode cX10_wornTogether 15 = .ok (.iadd, 1) := by decide +kernel
theorem dX10_wornTogether_16 : decode cX10_wornTogether 16 = .ok (.istore_n 1, 1) := by decide +kernel
theorem dX10_wornTogether_17 : decode cX10_wornTogether 17 = .ok (.iinc 2 1, 3) := by decide +kernel
theorem dX10_wornTogether_20 : decode cX10_wornTogether 20 = .ok (.goto (-16), 3) := by decide +kernel
theorem dX10_wornTogether_23 : decode cX10_wornTogether 23 = .ok (.iload_n 1, 1) := by decide +kernel
theorem dX10_wornTogether_24 : decode cX10_wornTogether 24 = .ok (.ireturn, 1) := by decide +kernel
theorem dX10_countOn_0 : decode cX10_countOn 0 = .ok (.aload_n 0, 1) := by decide +kernel
theorem dX10_countOn_1 : decode cX10_countOn 1 = .ok (.getfield 11, 3) := by decide +kernel
theorem dX10_countOn_4 : decode cX10_countOn 4 = .ok (.bipush 11, 2) := by decide +kernel
theorem dX10_countOn_6 : decode cX10_countOn 6 = .ok (.iload_n 1, 1) := by decide +kernel
theorem dX10_countOn_7 : decode cX10_countOn 7 = .ok (.iadd, 1) := by decide +kernel
theorem dX10_countOn_8 : decode cX10_countOn 8 = .ok (.iaload, 1) := by decide +kernel
theorem dX10_countOn_9 : decode cX10_countOn 9 = .ok (.ireturn, 1) := by decide +kernel
theorem dX10_carAt_0 : decode cX10_carAt 0 = .ok (.aload_n 0, 1) := by decide +kernel
theorem dX10_carAt_1 : decode cX10_carAt 1 = .ok (.getfield 11, 3) := by decide +kernel
theorem dX10_carAt_4 : decode cX10_carAt 4 = .ok (.bipush 14, 2) := by decide +kernel
theorem dX10_carAt_6 : decode cX10_carAt 6 = .ok (.iconst 5, 1) := by decide +kernel
theorem dX10_carAt_7 : decode cX10_carAt 7 = .ok (.iload_n 1, 1) := by decide +kernel
theorem dX10_carAt_8 : decode cX10_carAt 8 = .ok (.imul, 1) := by decide +kernel
theorem dX10_carAt_9 : decode cX10_carAt 9 = .ok (.iadd, 1) := by decide +kernel
theorem dX10_carAt_10 : decode cX10_carAt 10 = .ok (.iload_n 2, 1) := by decide +kernel
theorem dX10_carAt_11 : decode cX10_carAt 11 = .ok (.iadd, 1) := by decide +kernel
theorem dX10_carAt_12 : decode cX10_carAt 12 = .ok (.iaload, 1) := by decide +kernel
theorem dX10_carAt_13 : decode cX10_carAt 13 = .ok (.ireturn, 1) := by decide +kernel
theorem dX10_uppermost_0 : decode cX10_uppermost 0 = .ok (.aload_n 0, 1) := by decide +kernel
theorem dX10_uppermost_1 : decode cX10_uppermost 1 = .ok (.getfield 11, 3) := by decide +kernel
theorem dX10_uppermost_4 : decode cX10_uppermost 4 = .ok (.bipush 11, 2) := by decide +kernel
theorem dX10_uppermost_6 : decode cX10_uppermost 6 = .ok (.iload_n 1, 1) := by decide +kernel
theorem dX10_uppermost_7 : decode cX10_uppermost 7 = .ok (.iadd, 1) := by decide +kernel
theorem dX10_uppermost_8 : decode cX10_uppermost 8 = .ok (.iaload, 1) := by decide +kernel
theorem dX10_uppermost_9 : decode cX10_uppermost 9 = .ok (.istore_n 2, 1) := by decide +kernel
theorem dX10_uppermost_10 : decode cX10_uppermost 10 = .ok (.iload_n 2, 1) := by decide +kernel
theorem dX10_uppermost_11 : decode cX10_uppermost 11 = .ok (.ifCond .le 21, 3) := by decide +kernel
theorem dX10_uppermost_14 : decode cX10_uppermost 14 = .ok (.aload_n 0, 1) := by decide +kernel
theorem dX10_uppermost_15 : decode cX10_uppermost 15 = .ok (.getfield 11, 3) := by decide +kernel
theorem dX10_uppermost_18 : decode cX10_uppermost 18 = .ok (.bipush 14, 2) := by decide +kernel
theorem dX10_uppermost_20 : decode cX10_uppermost 20 = .ok (.iconst 5, 1) := by decide +kernel
theorem dX10_uppermost_21 : decode cX10_uppermost 21 = .ok (.iload_n 1, 1) := by decide +kernel
theorem dX10_uppermost_22 : decode cX10_uppermost 22 = .ok (.imul, 1) := by decide +kernel
theorem dX10_uppermost_23 : decode cX10_uppermost 23 = .ok (.iadd, 1) := by decide +kernel
theorem dX10_uppermost_24 : decode cX10_uppermost 24 = .ok (.iload_n 2, 1) := by decide +kernel
theorem dX10_uppermost_25 : decode cX10_uppermost 25 = .ok (.iadd, 1) := by decide +kernel
theorem dX10_uppermost_26 : decode cX10_uppermost 26 = .ok (.iconst 1, 1) := by decide +kernel
theorem dX10_uppermost_27 : decode cX10_uppermost 27 = .ok (.isub, 1) := by decide +kernel
theorem dX10_uppermost_28 : decode cX10_uppermost 28 = .ok (.iaload, 1) := by decide +kernel
theorem dX10_uppermost_29 : decode cX10_uppermost 29 = .ok (.goto 4, 3) := by decide +kernel
theorem dX10_uppermost_32 : decode cX10_uppermost 32 = .ok (.iconst (-1), 1) := by decide +kernel
theorem dX10_uppermost_33 : decode cX10_uppermost 33 = .ok (.ireturn, 1) := by decide +kernel
theorem dX10_carsOn_0 : decode cX10_carsOn 0 = .ok (.iconst 0, 1) := by decide +kernel
theorem dX10_carsOn_1 : decode cX10_carsOn 1 = .ok (.istore_n 2, 1) := by decide +kernel
theorem dX10_carsOn_2 : decode cX10_carsOn 2 = .ok (.iconst 0, 1) := by decide +kernel
theorem dX10_carsOn_3 : decode cX10_carsOn 3 = .ok (.istore_n 3, 1) := by decide +kernel
theorem dX10_carsOn_4 : decode cX10_carsOn 4 = .ok (.iload_n 3, 1) := by decide +kernel
theorem dX10_carsOn_5 : decode cX10_carsOn 5 = .ok (.aload_n 0, 1) := by decide +kernel
theorem dX10_carsOn_6 : decode cX10_carsOn 6 = .ok (.iload_n 1, 1) := by decide +kernel
theorem dX10_carsOn_7 : decode cX10_carsOn 7 = .ok (.invokevirtual 25, 3) := by decide +kernel
theorem dX10_carsOn_10 : decode cX10_carsOn 10 = .ok (.if_icmp .ge 20, 3) := by decide +kernel
theorem dX10_carsOn_13 : decode cX10_carsOn 13 = .ok (.iload_n 2, 1) := by decide +kernel
theorem dX10_carsOn_14 : decode cX10_carsOn 14 = .ok (.iconst 1, 1) := by decide +kernel
theorem dX10_carsOn_15 : decode cX10_carsOn 15 = .ok (.aload_n 0, 1) := by decide +kernel
theorem dX10_carsOn_16 : decode cX10_carsOn 16 = .ok (.iload_n 1, 1) := by decide +kernel
theorem dX10_carsOn_17 : decode cX10_carsOn 17 = .ok (.iload_n 3, 1) := by decide +kernel
theorem dX10_carsOn_18 : decode cX10_carsOn 18 = .ok (.invokevirtual 28, 3) := by decide +kernel
theorem dX10_carsOn_21 : decode cX10_carsOn 21 = .ok (.ishl, 1) := by decide +kernel
theorem dX10_carsOn_22 : decode cX10_carsOn 22 = .ok (.ior, 1) := by decide +kernel
theorem dX10_carsOn_23 : decode cX10_carsOn 23 = .ok (.istore_n 2, 1) := by decide +kernel
theorem dX10_carsOn_24 : decode cX10_carsOn 24 = .ok (.iinc 3 1, 3) := by decide +kernel
theorem dX10_carsOn_27 : decode cX10_carsOn 27 = .ok (.goto (-23), 3) := by decide +kernel
theorem dX10_carsOn_30 : decode cX10_carsOn 30 = .ok (.iload_n 2, 1) := by decide +kernel
theorem dX10_carsOn_31 : decode cX10_carsOn 31 = .ok (.ireturn, 1) := by decide +kernel
theorem dX10_placeOn_0 : decode cX10_placeOn 0 = .ok (.iconst 0, 1) := by decide +kernel
theorem dX10_placeOn_1 : decode cX10_placeOn 1 = .ok (.istore_n 3, 1) := by decide +kernel
theorem dX10_placeOn_2 : decode cX10_placeOn 2 = .ok (.iload_n 3, 1) := by decide +kernel
theorem dX10_placeOn_3 : decode cX10_placeOn 3 = .ok (.aload_n 0, 1) := by decide +kernel
theorem dX10_placeOn_4 : decode cX10_placeOn 4 = .ok (.iload_n 1, 1) := by decide +kernel
theorem dX10_placeOn_5 : decode cX10_placeOn 5 = .ok (.invokevirtual 25, 3) := by decide +kernel
theorem dX10_placeOn_8 : decode cX10_placeOn 8 = .ok (.if_icmp .ge 21, 3) := by decide +kernel
theorem dX10_placeOn_11 : decode cX10_placeOn 11 = .ok (.aload_n 0, 1) := by decide +kernel
theorem dX10_placeOn_12 : decode cX10_placeOn 12 = .ok (.iload_n 1, 1) := by decide +kernel
theorem dX10_placeOn_13 : decode cX10_placeOn 13 = .ok (.iload_n 3, 1) := by decide +kernel
theorem dX10_placeOn_14 : decode cX10_placeOn 14 = .ok (.invokevirtual 28, 3) := by decide +kernel
theorem dX10_placeOn_17 : decode cX10_placeOn 17 = .ok (.iload_n 2, 1) := by decide +kernel
theorem dX10_placeOn_18 : decode cX10_placeOn 18 = .ok (.if_icmp .ne 5, 3) := by decide +kernel
theorem dX10_placeOn_21 : decode cX10_placeOn 21 = .ok (.iload_n 3, 1) := by decide +kernel
theorem dX10_placeOn_22 : decode cX10_placeOn 22 = .ok (.ireturn, 1) := by decide +kernel
theorem dX10_placeOn_23 : decode cX10_placeOn 23 = .ok (.iinc 3 1, 3) := by decide +kernel
theorem dX10_placeOn_26 : decode cX10_placeOn 26 = .ok (.goto (-24), 3) := by decide +kernel
theorem dX10_placeOn_29 : decode cX10_placeOn 29 = .ok (.iconst (-1), 1) := by decide +kernel
theorem dX10_placeOn_30 : decode cX10_placeOn 30 = .ok (.ireturn, 1) := by decide +kernel
theorem dX10_trackOf_0 : decode cX10_trackOf 0 = .ok (.iconst 0, 1) := by decide +kernel
theorem dX10_trackOf_1 : decode cX10_trackOf 1 = .ok (.istore_n 2, 1) := by decide +kernel
theorem dX10_trackOf_2 : decode cX10_trackOf 2 = .ok (.iload_n 2, 1) := by decide +kernel
theorem dX10_trackOf_3 : decode cX10_trackOf 3 = .ok (.iconst 3, 1) := by decide +kernel
theorem dX10_trackOf_4 : decode cX10_trackOf 4 = .ok (.if_icmp .ge 21, 3) := by decide +kernel
theorem dX10_trackOf_7 : decode cX10_trackOf 7 = .ok (.aload_n 0, 1) := by decide +kernel
theorem dX10_trackOf_8 : decode cX10_trackOf 8 = .ok (.iload_n 2, 1) := by decide +kernel
theorem dX10_trackOf_9 : decode cX10_trackOf 9 = .ok (.iload_n 1, 1) := by decide +kernel
theorem dX10_trackOf_10 : decode cX10_trackOf 10 = .ok (.invokevirtual 32, 3) := by decide +kernel
theorem dX10_trackOf_13 : decode cX10_trackOf 13 = .ok (.iconst (-1), 1) := by decide +kernel
theorem dX10_trackOf_14 : decode cX10_trackOf 14 = .ok (.if_icmp .eq 5, 3) := by decide +kernel
theorem dX10_trackOf_17 : decode cX10_trackOf 17 = .ok (.iload_n 2, 1) := by decide +kernel
theorem dX10_trackOf_18 : decode cX10_trackOf 18 = .ok (.ireturn, 1) := by decide +kernel
theorem dX10_trackOf_19 : decode cX10_trackOf 19 = .ok (.iinc 2 1, 3) := by decide +kernel
theorem dX10_trackOf_22 : decode cX10_trackOf 22 = .ok (.goto (-20), 3) := by decide +kernel
theorem dX10_trackOf_25 : decode cX10_trackOf 25 = .ok (.iconst (-1), 1) := by decide +kernel
theorem dX10_trackOf_26 : decode cX10_trackOf 26 = .ok (.ireturn, 1) := by decide +kernel
theorem dX10_placeOf_0 : decode cX10_placeOf 0 = .ok (.aload_n 0, 1) := by decide +kernel
theorem dX10_placeOf_1 : decode cX10_placeOf 1 = .ok (.iload_n 1, 1) := by decide +kernel
theorem dX10_placeOf_2 : decode cX10_placeOf 2 = .ok (.invokevirtual 35, 3) := by decide +kernel
theorem dX10_placeOf_5 : decode cX10_placeOf 5 = .ok (.istore_n 2, 1) := by decide +kernel
theorem dX10_placeOf_6 : decode cX10_placeOf 6 = .ok (.iload_n 2, 1) := by decide +kernel
theorem dX10_placeOf_7 : decode cX10_placeOf 7 = .ok (.iconst (-1), 1) := by decide +kernel
theorem dX10_placeOf_8 : decode cX10_placeOf 8 = .ok (.if_icmp .ne 7, 3) := by decide +kernel
theorem dX10_placeOf_11 : decode cX10_placeOf 11 = .ok (.iconst (-1), 1) := by decide +kernel
theorem dX10_placeOf_12 : decode cX10_placeOf 12 = .ok (.goto 9, 3) := by decide +kernel
theorem dX10_placeOf_15 : decode cX10_placeOf 15 = .ok (.aload_n 0, 1) := by decide +kernel
theorem dX10_placeOf_16 : decode cX10_placeOf 16 = .ok (.iload_n 2, 1) := by decide +kernel
theorem dX10_placeOf_17 : decode cX10_placeOf 17 = .ok (.iload_n 1, 1) := by decide +kernel
theorem dX10_placeOf_18 : decode cX10_placeOf 18 = .ok (.invokevirtual 32, 3) := by decide +kernel
theorem dX10_placeOf_21 : decode cX10_placeOf 21 = .ok (.ireturn, 1) := by decide +kernel
theorem dX10_putUppermost_0 : decode cX10_putUppermost 0 = .ok (.aload_n 0, 1) := by decide +kernel
theorem dX10_putUppermost_1 : decode cX10_putUppermost 1 = .ok (.iload_n 1, 1) := by decide +kernel
theorem dX10_putUppermost_2 : decode cX10_putUppermost 2 = .ok (.invokevirtual 25, 3) := by decide +kernel
theorem dX10_putUppermost_5 : decode cX10_putUppermost 5 = .ok (.istore_n 3, 1) := by decide +kernel
theorem dX10_putUppermost_6 : decode cX10_putUppermost 6 = .ok (.iload_n 3, 1) := by decide +kernel
theorem dX10_putUppermost_7 : decode cX10_putUppermost 7 = .ok (.iconst 5, 1) := by decide +kernel
theorem dX10_putUppermost_8 : decode cX10_putUppermost 8 = .ok (.if_icmp .ge 29, 3) := by decide +kernel
theorem dX10_putUppermost_11 : decode cX10_putUppermost 11 = .ok (.aload_n 0, 1) := by decide +kernel
theorem dX10_putUppermost_12 : decode cX10_putUppermost 12 = .ok (.getfield 11, 3) := by decide +kernel
theorem dX10_putUppermost_15 : decode cX10_putUppermost 15 = .ok (.bipush 14, 2) := by decide +kernel
theorem dX10_putUppermost_17 : decode cX10_putUppermost 17 = .ok (.iconst 5, 1) := by decide +kernel
theorem dX10_putUppermost_18 : decode cX10_putUppermost 18 = .ok (.iload_n 1, 1) := by decide +kernel
theorem dX10_putUppermost_19 : decode cX10_putUppermost 19 = .ok (.imul, 1) := by decide +kernel
theorem dX10_putUppermost_20 : decode cX10_putUppermost 20 = .ok (.iadd, 1) := by decide +kernel
theorem dX10_putUppermost_21 : decode cX10_putUppermost 21 = .ok (.iload_n 3, 1) := by decide +kernel
theorem dX10_putUppermost_22 : decode cX10_putUppermost 22 = .ok (.iadd, 1) := by decide +kernel
theorem dX10_putUppermost_23 : decode cX10_putUppermost 23 = .ok (.iload_n 2, 1) := by decide +kernel
theorem dX10_putUppermost_24 : decode cX10_putUppermost 24 = .ok (.iastore, 1) := by decide +kernel
theorem dX10_putUppermost_25 : decode cX10_putUppermost 25 = .ok (.aload_n 0, 1) := by decide +kernel
theorem dX10_putUppermost_26 : decode cX10_putUppermost 26 = .ok (.getfield 11, 3) := by decide +kernel
theorem dX10_putUppermost_29 : decode cX10_putUppermost 29 = .ok (.bipush 11, 2) := by decide +kernel
theorem dX10_putUppermost_31 : decode cX10_putUppermost 31 = .ok (.iload_n 1, 1) := by decide +kernel
theorem dX10_putUppermost_32 : decode cX10_putUppermost 32 = .ok (.iadd, 1) := by decide +kernel
theorem dX10_putUppermost_33 : decode cX10_putUppermost 33 = .ok (.iload_n 3, 1) := by decide +kernel
theorem dX10_putUppermost_34 : decode cX10_putUppermost 34 = .ok (.iconst 1, 1) := by decide +kernel
theorem dX10_putUppermost_35 : decode cX10_putUppermost 35 = .ok (.iadd, 1) := by decide +kernel
theorem dX10_putUppermost_36 : decode cX10_putUppermost 36 = .ok (.iastore, 1) := by decide +kernel
theorem dX10_putUppermost_37 : decode cX10_putUppermost 37 = .ok (.return_, 1) := by decide +kernel
theorem dX10_addCar_0 : decode cX10_addCar 0 = .ok (.aload_n 0, 1) := by decide +kernel
theorem dX10_addCar_1 : decode cX10_addCar 1 = .ok (.getfield 11, 3) := by decide +kernel
theorem dX10_addCar_4 : decode cX10_addCar 4 = .ok (.iconst 4, 1) := by decide +kernel
theorem dX10_addCar_5 : decode cX10_addCar 5 = .ok (.iaload, 1) := by decide +kernel
theorem dX10_addCar_6 : decode cX10_addCar 6 = .ok (.istore_n 1, 1) := by decide +kernel
theorem dX10_addCar_7 : decode cX10_addCar 7 = .ok (.iload_n 1, 1) := by decide +kernel
theorem dX10_addCar_8 : decode cX10_addCar 8 = .ok (.iconst 5, 1) := by decide +kernel
theorem dX10_addCar_9 : decode cX10_addCar 9 = .ok (.if_icmp .lt 5, 3) := by decide +kernel
theorem dX10_addCar_12 : decode cX10_addCar 12 = .ok (.iconst (-1), 1) := by decide +kernel
theorem dX10_addCar_13 : decode cX10_addCar 13 = .ok (.ireturn, 1) := by decide +kernel
theorem dX10_addCar_14 : decode cX10_addCar 14 = .ok (.aload_n 0, 1) := by decide +kernel
theorem dX10_addCar_15 : decode cX10_addCar 15 = .ok (.getfield 11, 3) := by decide +kernel
theorem dX10_addCar_18 : decode cX10_addCar 18 = .ok (.iconst 4, 1) := by decide +kernel
theorem dX10_addCar_19 : decode cX10_addCar 19 = .ok (.iload_n 1, 1) := by decide +kernel
theorem dX10_addCar_20 : decode cX10_addCar 20 = .ok (.iconst 1, 1) := by decide +kernel
theorem dX10_addCar_21 : decode cX10_addCar 21 = .ok (.iadd, 1) := by decide +kernel
theorem dX10_addCar_22 : decode cX10_addCar 22 = .ok (.iastore, 1) := by decide +kernel
theorem dX10_addCar_23 : decode cX10_addCar 23 = .ok (.aload_n 0, 1) := by decide +kernel
theorem dX10_addCar_24 : decode cX10_addCar 24 = .ok (.iconst 0, 1) := by decide +kernel
theorem dX10_addCar_25 : decode cX10_addCar 25 = .ok (.iload_n 1, 1) := by decide +kernel
theorem dX10_addCar_26 : decode cX10_addCar 26 = .ok (.invokevirtual 38, 3) := by decide +kernel
theorem dX10_addCar_29 : decode cX10_addCar 29 = .ok (.iload_n 1, 1) := by decide +kernel
theorem dX10_addCar_30 : decode cX10_addCar 30 = .ok (.ireturn, 1) := by decide +kernel
theorem dX10_moveUppermost_0 : decode cX10_moveUppermost 0 = .ok (.aload_n 0, 1) := by decide +kernel
theorem dX10_moveUppermost_1 : decode cX10_moveUppermost 1 = .ok (.iload_n 1, 1) := by decide +kernel
theorem dX10_moveUppermost_2 : decode cX10_moveUppermost 2 = .ok (.invokevirtual 42, 3) := by decide +kernel
theorem dX10_moveUppermost_5 : decode cX10_moveUppermost 5 = .ok (.istore_n 3, 1) := by decide +kernel
theorem dX10_moveUppermost_6 : decode cX10_moveUppermost 6 = .ok (.iload_n 3, 1) := by decide +kernel
theorem dX10_moveUppermost_7 : decode cX10_moveUppermost 7 = .ok (.iconst (-1), 1) := by decide +kernel
theorem dX10_moveUppermost_8 : decode cX10_moveUppermost 8 = .ok (.if_icmp .ne 4, 3) := by decide +kernel
theorem dX10_moveUppermost_11 : decode cX10_moveUppermost 11 = .ok (.return_, 1) := by decide +kernel
theorem dX10_moveUppermost_12 : decode cX10_moveUppermost 12 = .ok (.aload_n 0, 1) := by decide +kernel
theorem dX10_moveUppermost_13 : decode cX10_moveUppermost 13 = .ok (.getfield 11, 3) := by decide +kernel
theorem dX10_moveUppermost_16 : decode cX10_moveUppermost 16 = .ok (.bipush 11, 2) := by decide +kernel
theorem dX10_moveUppermost_18 : decode cX10_moveUppermost 18 = .ok (.iload_n 1, 1) := by decide +kernel
theorem dX10_moveUppermost_19 : decode cX10_moveUppermost 19 = .ok (.iadd, 1) := by decide +kernel
theorem dX10_moveUppermost_20 : decode cX10_moveUppermost 20 = .ok (.dup2, 1) := by decide +kernel
theorem dX10_moveUppermost_21 : decode cX10_moveUppermost 21 = .ok (.iaload, 1) := by decide +kernel
theorem dX10_moveUppermost_22 : decode cX10_moveUppermost 22 = .ok (.iconst 1, 1) := by decide +kernel
theorem dX10_moveUppermost_23 : decode cX10_moveUppermost 23 = .ok (.isub, 1) := by decide +kernel
theorem dX10_moveUppermost_24 : decode cX10_moveUppermost 24 = .ok (.iastore, 1) := by decide +kernel
theorem dX10_moveUppermost_25 : decode cX10_moveUppermost 25 = .ok (.aload_n 0, 1) := by decide +kernel
theorem dX10_moveUppermost_26 : decode cX10_moveUppermost 26 = .ok (.iload_n 2, 1) := by decide +kernel
theorem dX10_moveUppermost_27 : decode cX10_moveUppermost 27 = .ok (.iload_n 3, 1) := by decide +kernel
theorem dX10_moveUppermost_28 : decode cX10_moveUppermost 28 = .ok (.invokevirtual 38, 3) := by decide +kernel
theorem dX10_moveUppermost_31 : decode cX10_moveUppermost 31 = .ok (.aload_n 0, 1) := by decide +kernel
theorem dX10_moveUppermost_32 : decode cX10_moveUppermost 32 = .ok (.iload_n 3, 1) := by decide +kernel
theorem dX10_moveUppermost_33 : decode cX10_moveUppermost 33 = .ok (.iconst 0, 1) := by decide +kernel
theorem dX10_moveUppermost_34 : decode cX10_moveUppermost 34 = .ok (.iload_n 2, 1) := by decide +kernel
theorem dX10_moveUppermost_35 : decode cX10_moveUppermost 35 = .ok (.invokevirtual 45, 3) := by decide +kernel
theorem dX10_moveUppermost_38 : decode cX10_moveUppermost 38 = .ok (.return_, 1) := by decide +kernel
theorem dX10_changeFeet_0 : decode cX10_changeFeet 0 = .ok (.aload_n 0, 1) := by decide +kernel
theorem dX10_changeFeet_1 : decode cX10_changeFeet 1 = .ok (.iload_n 1, 1) := by decide +kernel
theorem dX10_changeFeet_2 : decode cX10_changeFeet 2 = .ok (.invokevirtual 49, 3) := by decide +kernel
theorem dX10_changeFeet_5 : decode cX10_changeFeet 5 = .ok (.ifCond .eq 7, 3) := by decide +kernel
theorem dX10_changeFeet_8 : decode cX10_changeFeet 8 = .ok (.iconst 1, 1) := by decide +kernel
theorem dX10_changeFeet_9 : decode cX10_changeFeet 9 = .ok (.goto 4, 3) := by decide +kernel
theorem dX10_changeFeet_12 : decode cX10_changeFeet 12 = .ok (.iconst 0, 1) := by decide +kernel
theorem dX10_changeFeet_13 : decode cX10_changeFeet 13 = .ok (.istore_n 2, 1) := by decide +kernel
theorem dX10_changeFeet_14 : decode cX10_changeFeet 14 = .ok (.iconst 1, 1) := by decide +kernel
theorem dX10_changeFeet_15 : decode cX10_changeFeet 15 = .ok (.iload_n 2, 1) := by decide +kernel
theorem dX10_changeFeet_16 : decode cX10_changeFeet 16 = .ok (.isub, 1) := by decide +kernel
theorem dX10_changeFeet_17 : decode cX10_changeFeet 17 = .ok (.istore_n 3, 1) := by decide +kernel
theorem dX10_changeFeet_18 : decode cX10_changeFeet 18 = .ok (.aload_n 0, 1) := by decide +kernel
theorem dX10_changeFeet_19 : decode cX10_changeFeet 19 = .ok (.getfield 11, 3) := by decide +kernel
theorem dX10_changeFeet_22 : decode cX10_changeFeet 22 = .ok (.iconst 2, 1) := by decide +kernel
theorem dX10_changeFeet_23 : decode cX10_changeFeet 23 = .ok (.iload_n 3, 1) := by decide +kernel
theorem dX10_changeFeet_24 : decode cX10_changeFeet 24 = .ok (.iadd, 1) := by decide +kernel
theorem dX10_changeFeet_25 : decode cX10_changeFeet 25 = .ok (.dup2, 1) := by decide +kernel
theorem dX10_changeFeet_26 : decode cX10_changeFeet 26 = .ok (.iaload, 1) := by decide +kernel
theorem dX10_changeFeet_27 : decode cX10_changeFeet 27 = .ok (.iconst 1, 1) := by decide +kernel
theorem dX10_changeFeet_28 : decode cX10_changeFeet 28 = .ok (.isub, 1) := by decide +kernel
theorem dX10_changeFeet_29 : decode cX10_changeFeet 29 = .ok (.iastore, 1) := by decide +kernel
theorem dX10_changeFeet_30 : decode cX10_changeFeet 30 = .ok (.aload_n 0, 1) := by decide +kernel
theorem dX10_changeFeet_31 : decode cX10_changeFeet 31 = .ok (.iload_n 2, 1) := by decide +kernel
theorem dX10_changeFeet_32 : decode cX10_changeFeet 32 = .ok (.invokevirtual 53, 3) := by decide +kernel
theorem dX10_changeFeet_35 : decode cX10_changeFeet 35 = .ok (.aload_n 0, 1) := by decide +kernel
theorem dX10_changeFeet_36 : decode cX10_changeFeet 36 = .ok (.getfield 11, 3) := by decide +kernel
theorem dX10_changeFeet_39 : decode cX10_changeFeet 39 = .ok (.iconst 5, 1) := by decide +kernel
theorem dX10_changeFeet_40 : decode cX10_changeFeet 40 = .ok (.dup2, 1) := by decide +kernel
theorem dX10_changeFeet_41 : decode cX10_changeFeet 41 = .ok (.iaload, 1) := by decide +kernel
theorem dX10_changeFeet_42 : decode cX10_changeFeet 42 = .ok (.iconst 1, 1) := by decide +kernel
theorem dX10_changeFeet_43 : decode cX10_changeFeet 43 = .ok (.iload_n 1, 1) := by decide +kernel
theorem dX10_changeFeet_44 : decode cX10_changeFeet 44 = .ok (.ishl, 1) := by decide +kernel
theorem dX10_changeFeet_45 : decode cX10_changeFeet 45 = .ok (.ixor, 1) := by decide +kernel
theorem dX10_changeFeet_46 : decode cX10_changeFeet 46 = .ok (.iastore, 1) := by decide +kernel
theorem dX10_changeFeet_47 : decode cX10_changeFeet 47 = .ok (.aload_n 0, 1) := by decide +kernel
theorem dX10_changeFeet_48 : decode cX10_changeFeet 48 = .ok (.getfield 11, 3) := by decide +kernel
theorem dX10_changeFeet_51 : decode cX10_changeFeet 51 = .ok (.bipush 6, 2) := by decide +kernel
theorem dX10_changeFeet_53 : decode cX10_changeFeet 53 = .ok (.iload_n 1, 1) := by decide +kernel
theorem dX10_changeFeet_54 : decode cX10_changeFeet 54 = .ok (.iadd, 1) := by decide +kernel
theorem dX10_changeFeet_55 : decode cX10_changeFeet 55 = .ok (.iconst 0, 1) := by decide +kernel
theorem dX10_changeFeet_56 : decode cX10_changeFeet 56 = .ok (.iastore, 1) := by decide +kernel
theorem dX10_changeFeet_57 : decode cX10_changeFeet 57 = .ok (.aload_n 0, 1) := by decide +kernel
theorem dX10_changeFeet_58 : decode cX10_changeFeet 58 = .ok (.iload_n 1, 1) := by decide +kernel
theorem dX10_changeFeet_59 : decode cX10_changeFeet 59 = .ok (.iconst 1, 1) := by decide +kernel
theorem dX10_changeFeet_60 : decode cX10_changeFeet 60 = .ok (.iload_n 3, 1) := by decide +kernel
theorem dX10_changeFeet_61 : decode cX10_changeFeet 61 = .ok (.invokevirtual 45, 3) := by decide +kernel
theorem dX10_changeFeet_64 : decode cX10_changeFeet 64 = .ok (.return_, 1) := by decide +kernel
theorem dX10_gainWheel_0 : decode cX10_gainWheel 0 = .ok (.aload_n 0, 1) := by decide +kernel
theorem dX10_gainWheel_1 : decode cX10_gainWheel 1 = .ok (.getfield 11, 3) := by decide +kernel
theorem dX10_gainWheel_4 : decode cX10_gainWheel 4 = .ok (.iconst 2, 1) := by decide +kernel
theorem dX10_gainWheel_5 : decode cX10_gainWheel 5 = .ok (.iload_n 1, 1) := by decide +kernel
theorem dX10_gainWheel_6 : decode cX10_gainWheel 6 = .ok (.iadd, 1) := by decide +kernel
theorem dX10_gainWheel_7 : decode cX10_gainWheel 7 = .ok (.bipush 9, 2) := by decide +kernel
theorem dX10_gainWheel_9 : decode cX10_gainWheel 9 = .ok (.aload_n 0, 1) := by decide +kernel
theorem dX10_gainWheel_10 : decode cX10_gainWheel 10 = .ok (.getfield 11, 3) := by decide +kernel
theorem dX10_gainWheel_13 : decode cX10_gainWheel 13 = .ok (.iconst 2, 1) := by decide +kernel
theorem dX10_gainWheel_14 : decode cX10_gainWheel 14 = .ok (.iload_n 1, 1) := by decide +kernel
theorem dX10_gainWheel_15 : decode cX10_gainWheel 15 = .ok (.iadd, 1) := by decide +kernel
theorem dX10_gainWheel_16 : decode cX10_gainWheel 16 = .ok (.iaload, 1) := by decide +kernel
theorem dX10_gainWheel_17 : decode cX10_gainWheel 17 = .ok (.iconst 1, 1) := by decide +kernel
theorem dX10_gainWheel_18 : decode cX10_gainWheel 18 = .ok (.iadd, 1) := by decide +kernel
theorem dX10_gainWheel_19 : decode cX10_gainWheel 19 = .ok (.invokestatic 57, 3) := by decide +kernel
theorem dX10_gainWheel_22 : decode cX10_gainWheel 22 = .ok (.iastore, 1) := by decide +kernel
theorem dX10_gainWheel_23 : decode cX10_gainWheel 23 = .ok (.return_, 1) := by decide +kernel
theorem dX10_draw_0 : decode cX10_draw 0 = .ok (.aload_n 0, 1) := by decide +kernel
theorem dX10_draw_1 : decode cX10_draw 1 = .ok (.invokevirtual 62, 3) := by decide +kernel
theorem dX10_draw_4 : decode cX10_draw 4 = .ok (.istore_n 2, 1) := by decide +kernel
theorem dX10_draw_5 : decode cX10_draw 5 = .ok (.iload_n 1, 1) := by decide +kernel
theorem dX10_draw_6 : decode cX10_draw 6 = .ok (.ifCond .le 9, 3) := by decide +kernel
theorem dX10_draw_9 : decode cX10_draw 9 = .ok (.iload_n 2, 1) := by decide +kernel
theorem dX10_draw_10 : decode cX10_draw 10 = .ok (.iload_n 1, 1) := by decide +kernel
theorem dX10_draw_11 : decode cX10_draw 11 = .ok (.irem, 1) := by decide +kernel
theorem dX10_draw_12 : decode cX10_draw 12 = .ok (.goto 4, 3) := by decide +kernel
theorem dX10_draw_15 : decode cX10_draw 15 = .ok (.iconst 0, 1) := by decide +kernel
theorem dX10_draw_16 : decode cX10_draw 16 = .ok (.ireturn, 1) := by decide +kernel
theorem dX10_drawnX_0 : decode cX10_drawnX 0 = .ok (.aload_n 0, 1) := by decide +kernel
theorem dX10_drawnX_1 : decode cX10_drawnX 1 = .ok (.getfield 11, 3) := by decide +kernel
theorem dX10_drawnX_4 : decode cX10_drawnX 4 = .ok (.iconst 1, 1) := by decide +kernel
theorem dX10_drawnX_5 : decode cX10_drawnX 5 = .ok (.iaload, 1) := by decide +kernel
theorem dX10_drawnX_6 : decode cX10_drawnX 6 = .ok (.istore_n 1, 1) := by decide +kernel
theorem dX10_drawnX_7 : decode cX10_drawnX 7 = .ok (.aload_n 0, 1) := by decide +kernel
theorem dX10_drawnX_8 : decode cX10_drawnX 8 = .ok (.getfield 11, 3) := by decide +kernel
theorem dX10_drawnX_11 : decode cX10_drawnX 11 = .ok (.iconst 1, 1) := by decide +kernel
theorem dX10_drawnX_12 : decode cX10_drawnX 12 = .ok (.iload_n 1, 1) := by decide +kernel
theorem dX10_drawnX_13 : decode cX10_drawnX 13 = .ok (.sipush 607, 3) := by decide +kernel
theorem dX10_drawnX_16 : decode cX10_drawnX 16 = .ok (.imul, 1) := by decide +kernel
theorem dX10_drawnX_17 : decode cX10_drawnX 17 = .ok (.sipush 479, 3) := by decide +kernel
theorem dX10_drawnX_20 : decode cX10_drawnX 20 = .ok (.iadd, 1) := by decide +kernel
theorem dX10_drawnX_21 : decode cX10_drawnX 21 = .ok (.sipush 30851, 3) := by decide +kernel
theorem dX10_drawnX_24 : decode cX10_drawnX 24 = .ok (.irem, 1) := by decide +kernel
theorem dX10_drawnX_25 : decode cX10_drawnX 25 = .ok (.iastore, 1) := by decide +kernel
theorem dX10_drawnX_26 : decode cX10_drawnX 26 = .ok (.iload_n 1, 1) := by decide +kernel
theorem dX10_drawnX_27 : decode cX10_drawnX 27 = .ok (.ireturn, 1) := by decide +kernel
theorem dX10_hourCanPass_0 : decode cX10_hourCanPass 0 = .ok (.aload_n 0, 1) := by decide +kernel
theorem dX10_hourCanPass_1 : decode cX10_hourCanPass 1 = .ok (.getfield 11, 3) := by decide +kernel
theorem dX10_hourCanPass_4 : decode cX10_hourCanPass 4 = .ok (.iconst 0, 1) := by decide +kernel
theorem dX10_hourCanPass_5 : decode cX10_hourCanPass 5 = .ok (.iaload, 1) := by decide +kernel
theorem dX10_hourCanPass_6 : decode cX10_hourCanPass 6 = .ok (.sipush 9999, 3) := by decide +kernel
theorem dX10_hourCanPass_9 : decode cX10_hourCanPass 9 = .ok (.if_icmp .ge 7, 3) := by decide +kernel
theorem dX10_hourCanPass_12 : decode cX10_hourCanPass 12 = .ok (.iconst 1, 1) := by decide +kernel
theorem dX10_hourCanPass_13 : decode cX10_hourCanPass 13 = .ok (.goto 4, 3) := by decide +kernel
theorem dX10_hourCanPass_16 : decode cX10_hourCanPass 16 = .ok (.iconst 0, 1) := by decide +kernel
theorem dX10_hourCanPass_17 : decode cX10_hourCanPass 17 = .ok (.ireturn, 1) := by decide +kernel
theorem dX10_passHour_0 : decode cX10_passHour 0 = .ok (.iconst 0, 1) := by decide +kernel
theorem dX10_passHour_1 : decode cX10_passHour 1 = .ok (.istore_n 1, 1) := by decide +kernel
theorem dX10_passHour_2 : decode cX10_passHour 2 = .ok (.aload_n 0, 1) := by decide +kernel
theorem dX10_passHour_3 : decode cX10_passHour 3 = .ok (.bipush 10, 2) := by decide +kernel
theorem dX10_passHour_5 : decode cX10_passHour 5 = .ok (.invokevirtual 66, 3) := by decide +kernel
theorem dX10_passHour_8 : decode cX10_passHour 8 = .ok (.istore_n 2, 1) := by decide +kernel
theorem dX10_passHour_9 : decode cX10_passHour 9 = .ok (.iload_n 2, 1) := by decide +kernel
theorem dX10_passHour_10 : decode cX10_passHour 10 = .ok (.iconst 2, 1) := by decide +kernel
theorem dX10_passHour_11 : decode cX10_passHour 11 = .ok (.if_icmp .ge 11, 3) := by decide +kernel
theorem dX10_passHour_14 : decode cX10_passHour 14 = .ok (.aload_n 0, 1) := by decide +kernel
theorem dX10_passHour_15 : decode cX10_passHour 15 = .ok (.iload_n 2, 1) := by decide +kernel
theorem dX10_passHour_16 : decode cX10_passHour 16 = .ok (.invokevirtual 53, 3) := by decide +kernel
theorem dX10_passHour_19 : decode cX10_passHour 19 = .ok (.goto 46, 3) := by decide +kernel
theorem dX10_passHour_22 : decode cX10_passHour 22 = .ok (.iload_n 2, 1) := by decide +kernel
theorem dX10_passHour_23 : decode cX10_passHour 23 = .ok (.iconst 4, 1) := by decide +kernel
theorem dX10_passHour_24 : decode cX10_passHour 24 = .ok (.if_icmp .ge 41, 3) := by decide +kernel
theorem dX10_passHour_27 : decode cX10_passHour 27 = .ok (.aload_n 0, 1) := by decide +kernel
theorem dX10_passHour_28 : decode cX10_passHour 28 = .ok (.getfield 11, 3) := by decide +kernel
theorem dX10_passHour_31 : decode cX10_passHour 31 = .ok (.iconst 2, 1) := by decide +kernel
theorem dX10_passHour_32 : decode cX10_passHour 32 = .ok (.iload_n 2, 1) := by decide +kernel
theorem dX10_passHour_33 : decode cX10_passHour 33 = .ok (.iadd, 1) := by decide +kernel
theorem dX10_passHour_34 : decode cX10_passHour 34 = .ok (.iconst 2, 1) := by decide +kernel
theorem dX10_passHour_35 : decode cX10_passHour 35 = .ok (.isub, 1) := by decide +kernel
theorem dX10_passHour_36 : decode cX10_passHour 36 = .ok (.iaload, 1) := by decide +kernel
theorem dX10_passHour_37 : decode cX10_passHour 37 = .ok (.ifCond .le 28, 3) := by decide +kernel
theorem dX10_passHour_40 : decode cX10_passHour 40 = .ok (.aload_n 0, 1) := by decide +kernel
theorem dX10_passHour_41 : decode cX10_passHour 41 = .ok (.getfield 11, 3) := by decide +kernel
theorem dX10_passHour_44 : decode cX10_passHour 44 = .ok (.iconst 2, 1) := by decide +kernel
theorem dX10_passHour_45 : decode cX10_passHour 45 = .ok (.iload_n 2, 1) := by decide +kernel
theorem dX10_passHour_46 : decode cX10_passHour 46 = .ok (.iadd, 1) := by decide +kernel
theorem dX10_passHour_47 : decode cX10_passHour 47 = .ok (.iconst 2, 1) := by decide +kernel
theorem dX10_passHour_48 : decode cX10_passHour 48 = .ok (.isub, 1) := by decide +kernel
theorem dX10_passHour_49 : decode cX10_passHour 49 = .ok (.dup2, 1) := by decide +kernel
theorem dX10_passHour_50 : decode cX10_passHour 50 = .ok (.iaload, 1) := by decide +kernel
theorem dX10_passHour_51 : decode cX10_passHour 51 = .ok (.iconst 1, 1) := by decide +kernel
theorem dX10_passHour_52 : decode cX10_passHour 52 = .ok (.isub, 1) := by decide +kernel
theorem dX10_passHour_53 : decode cX10_passHour 53 = .ok (.iastore, 1) := by decide +kernel
theorem dX10_passHour_54 : decode cX10_passHour 54 = .ok (.aload_n 0, 1) := by decide +kernel
theorem dX10_passHour_55 : decode cX10_passHour 55 = .ok (.iconst (-1), 1) := by decide +kernel
theorem dX10_passHour_56 : decode cX10_passHour 56 = .ok (.iconst 2, 1) := by decide +kernel
theorem dX10_passHour_57 : decode cX10_passHour 57 = .ok (.iload_n 2, 1) := by decide +kernel
theorem dX10_passHour_58 : decode cX10_passHour 58 = .ok (.iconst 2, 1) := by decide +kernel
theorem dX10_passHour_59 : decode cX10_passHour 59 = .ok (.isub, 1) := by decide +kernel
theorem dX10_passHour_60 : decode cX10_passHour 60 = .ok (.invokevirtual 45, 3) := by decide +kernel
theorem dX10_passHour_63 : decode cX10_passHour 63 = .ok (.iconst 1, 1) := by decide +kernel
theorem dX10_passHour_64 : decode cX10_passHour 64 = .ok (.istore_n 1, 1) := by decide +kernel
theorem dX10_passHour_65 : decode cX10_passHour 65 = .ok (.aload_n 0, 1) := by decide +kernel
theorem dX10_passHour_66 : decode cX10_passHour 66 = .ok (.invokevirtual 69, 3) := by decide +kernel
theorem dX10_passHour_69 : decode cX10_passHour 69 = .ok (.ifCond .le 37, 3) := by decide +kernel
theorem dX10_passHour_72 : decode cX10_passHour 72 = .ok (.aload_n 0, 1) := by decide +kernel
theorem dX10_passHour_73 : decode cX10_passHour 73 = .ok (.aload_n 0, 1) := by decide +kernel
theorem dX10_passHour_74 : decode cX10_passHour 74 = .ok (.invokevirtual 69, 3) := by decide +kernel
theorem dX10_passHour_77 : decode cX10_passHour 77 = .ok (.invokevirtual 66, 3) := by decide +kernel
theorem dX10_passHour_80 : decode cX10_passHour 80 = .ok (.istore_n 3, 1) := by decide +kernel
theorem dX10_passHour_81 : decode cX10_passHour 81 = .ok (.aload_n 0, 1) := by decide +kernel
theorem dX10_passHour_82 : decode cX10_passHour 82 = .ok (.getfield 11, 3) := by decide +kernel
theorem dX10_passHour_85 : decode cX10_passHour 85 = .ok (.bipush 6, 2) := by decide +kernel
theorem dX10_passHour_87 : decode cX10_passHour 87 = .ok (.iload_n 3, 1) := by decide +kernel
theorem dX10_passHour_88 : decode cX10_passHour 88 = .ok (.iadd, 1) := by decide +kernel
theorem dX10_passHour_89 : decode cX10_passHour 89 = .ok (.bipush 9, 2) := by decide +kernel
theorem dX10_passHour_91 : decode cX10_passHour 91 = .ok (.aload_n 0, 1) := by decide +kernel
theorem dX10_passHour_92 : decode cX10_passHour 92 = .ok (.getfield 11, 3) := by decide +kernel
theorem dX10_passHour_95 : decode cX10_passHour 95 = .ok (.bipush 6, 2) := by decide +kernel
theorem dX10_passHour_97 : decode cX10_passHour 97 = .ok (.iload_n 3, 1) := by decide +kernel
theorem dX10_passHour_98 : decode cX10_passHour 98 = .ok (.iadd, 1) := by decide +kernel
theorem dX10_passHour_99 : decode cX10_passHour 99 = .ok (.iaload, 1) := by decide +kernel
theorem dX10_passHour_100 : decode cX10_passHour 100 = .ok (.iconst 1, 1) := by decide +kernel
theorem dX10_passHour_101 : decode cX10_passHour 101 = .ok (.iadd, 1) := by decide +kernel
theorem dX10_passHour_102 : decode cX10_passHour 102 = .ok (.invokestatic 57, 3) := by decide +kernel
theorem dX10_passHour_105 : decode cX10_passHour 105 = .ok (.iastore, 1) := by decide +kernel
theorem dX10_passHour_106 : decode cX10_passHour 106 = .ok (.aload_n 0, 1) := by decide +kernel
theorem dX10_passHour_107 : decode cX10_passHour 107 = .ok (.getfield 11, 3) := by decide +kernel
theorem dX10_passHour_110 : decode cX10_passHour 110 = .ok (.iconst 0, 1) := by decide +kernel
theorem dX10_passHour_111 : decode cX10_passHour 111 = .ok (.dup2, 1) := by decide +kernel
theorem dX10_passHour_112 : decode cX10_passHour 112 = .ok (.iaload, 1) := by decide +kernel
theorem dX10_passHour_113 : decode cX10_passHour 113 = .ok (.iconst 1, 1) := by decide +kernel
theorem dX10_passHour_114 : decode cX10_passHour 114 = .ok (.iadd, 1) := by decide +kernel
theorem dX10_passHour_115 : decode cX10_passHour 115 = .ok (.iastore, 1) := by decide +kernel
theorem dX10_passHour_116 : decode cX10_passHour 116 = .ok (.iload_n 1, 1) := by decide +kernel
theorem dX10_passHour_117 : decode cX10_passHour 117 = .ok (.ireturn, 1) := by decide +kernel
theorem dX10_countLines_0 : decode cX10_countLines 0 = .ok (.aload_n 0, 1) := by decide +kernel
theorem dX10_countLines_1 : decode cX10_countLines 1 = .ok (.getfield 11, 3) := by decide +kernel
theorem dX10_countLines_4 : decode cX10_countLines 4 = .ok (.bipush 29, 2) := by decide +kernel
theorem dX10_countLines_6 : decode cX10_countLines 6 = .ok (.iaload, 1) := by decide +kernel
theorem dX10_countLines_7 : decode cX10_countLines 7 = .ok (.ireturn, 1) := by decide +kernel
theorem dX10_write_0 : decode cX10_write 0 = .ok (.aload_n 0, 1) := by decide +kernel
theorem dX10_write_1 : decode cX10_write 1 = .ok (.getfield 11, 3) := by decide +kernel
theorem dX10_write_4 : decode cX10_write 4 = .ok (.bipush 29, 2) := by decide +kernel
theorem dX10_write_6 : decode cX10_write 6 = .ok (.iaload, 1) := by decide +kernel
theorem dX10_write_7 : decode cX10_write 7 = .ok (.bipush 30, 2) := by decide +kernel
theorem dX10_write_9 : decode cX10_write 9 = .ok (.if_icmp .lt 29, 3) := by decide +kernel
theorem dX10_write_12 : decode cX10_write 12 = .ok (.aload_n 0, 1) := by decide +kernel
theorem dX10_write_13 : decode cX10_write 13 = .ok (.getfield 11, 3) := by decide +kernel
theorem dX10_write_16 : decode cX10_write 16 = .ok (.bipush 31, 2) := by decide +kernel
theorem dX10_write_18 : decode cX10_write 18 = .ok (.aload_n 0, 1) := by decide +kernel
theorem dX10_write_19 : decode cX10_write 19 = .ok (.getfield 11, 3) := by decide +kernel
theorem dX10_write_22 : decode cX10_write 22 = .ok (.bipush 30, 2) := by decide +kernel
theorem dX10_write_24 : decode cX10_write 24 = .ok (.bipush 29, 2) := by decide +kernel
theorem dX10_write_26 : decode cX10_write 26 = .ok (.invokestatic 15, 3) := by decide +kernel
theorem dX10_write_29 : decode cX10_write 29 = .ok (.aload_n 0, 1) := by decide +kernel
theorem dX10_write_30 : decode cX10_write 30 = .ok (.getfield 11, 3) := by decide +kernel
theorem dX10_write_33 : decode cX10_write 33 = .ok (.bipush 29, 2) := by decide +kernel
theorem dX10_write_35 : decode cX10_write 35 = .ok (.bipush 29, 2) := by decide +kernel
theorem dX10_write_37 : decode cX10_write 37 = .ok (.iastore, 1) := by decide +kernel
theorem dX10_write_38 : decode cX10_write 38 = .ok (.aload_n 0, 1) := by decide +kernel
theorem dX10_write_39 : decode cX10_write 39 = .ok (.getfield 11, 3) := by decide +kernel
theorem dX10_write_42 : decode cX10_write 42 = .ok (.bipush 30, 2) := by decide +kernel
theorem dX10_write_44 : decode cX10_write 44 = .ok (.aload_n 0, 1) := by decide +kernel
theorem dX10_write_45 : decode cX10_write 45 = .ok (.getfield 11, 3) := by decide +kernel
theorem dX10_write_48 : decode cX10_write 48 = .ok (.bipush 29, 2) := by decide +kernel
theorem dX10_write_50 : decode cX10_write 50 = .ok (.iaload, 1) := by decide +kernel
theorem dX10_write_51 : decode cX10_write 51 = .ok (.iadd, 1) := by decide +kernel
theorem dX10_write_52 : decode cX10_write 52 = .ok (.aload_n 0, 1) := by decide +kernel
theorem dX10_write_53 : decode cX10_write 53 = .ok (.getfield 11, 3) := by decide +kernel
theorem dX10_write_56 : decode cX10_write 56 = .ok (.iconst 0, 1) := by decide +kernel
theorem dX10_write_57 : decode cX10_write 57 = .ok (.iaload, 1) := by decide +kernel
theorem dX10_write_58 : decode cX10_write 58 = .ok (.bipush 8, 2) := by decide +kernel
theorem dX10_write_60 : decode cX10_write 60 = .ok (.ishl, 1) := by decide +kernel
theorem dX10_write_61 : decode cX10_write 61 = .ok (.iload_n 1, 1) := by decide +kernel
theorem dX10_write_62 : decode cX10_write 62 = .ok (.iconst 1, 1) := by decide +kernel
theorem dX10_write_63 : decode cX10_write 63 = .ok (.iadd, 1) := by decide +kernel
theorem dX10_write_64 : decode cX10_write 64 = .ok (.iconst 4, 1) := by decide +kernel
theorem dX10_write_65 : decode cX10_write 65 = .ok (.ishl, 1) := by decide +kernel
theorem dX10_write_66 : decode cX10_write 66 = .ok (.ior, 1) := by decide +kernel
theorem dX10_write_67 : decode cX10_write 67 = .ok (.iload_n 2, 1) := by decide +kernel
theorem dX10_write_68 : decode cX10_write 68 = .ok (.iconst 2, 1) := by decide +kernel
theorem dX10_write_69 : decode cX10_write 69 = .ok (.ishl, 1) := by decide +kernel
theorem dX10_write_70 : decode cX10_write 70 = .ok (.ior, 1) := by decide +kernel
theorem dX10_write_71 : decode cX10_write 71 = .ok (.iload_n 3, 1) := by decide +kernel
theorem dX10_write_72 : decode cX10_write 72 = .ok (.ior, 1) := by decide +kernel
theorem dX10_write_73 : decode cX10_write 73 = .ok (.iastore, 1) := by decide +kernel
theorem dX10_write_74 : decode cX10_write 74 = .ok (.aload_n 0, 1) := by decide +kernel
theorem dX10_write_75 : decode cX10_write 75 = .ok (.getfield 11, 3) := by decide +kernel
theorem dX10_write_78 : decode cX10_write 78 = .ok (.bipush 29, 2) := by decide +kernel
theorem dX10_write_80 : decode cX10_write 80 = .ok (.dup2, 1) := by decide +kernel
theorem dX10_write_81 : decode cX10_write 81 = .ok (.iaload, 1) := by decide +kernel
theorem dX10_write_82 : decode cX10_write 82 = .ok (.iconst 1, 1) := by decide +kernel
theorem dX10_write_83 : decode cX10_write 83 = .ok (.iadd, 1) := by decide +kernel
theorem dX10_write_84 : decode cX10_write 84 = .ok (.iastore, 1) := by decide +kernel
theorem dX10_write_85 : decode cX10_write 85 = .ok (.return_, 1) := by decide +kernel
theorem dX10_lineTells_0 : decode cX10_lineTells 0 = .ok (.aload_n 0, 1) := by decide +kernel
theorem dX10_lineTells_1 : decode cX10_lineTells 1 = .ok (.getfield 11, 3) := by decide +kernel
theorem dX10_lineTells_4 : decode cX10_lineTells 4 = .ok (.bipush 30, 2) := by decide +kernel
theorem dX10_lineTells_6 : decode cX10_lineTells 6 = .ok (.iload_n 1, 1) := by decide +kernel
theorem dX10_lineTells_7 : decode cX10_lineTells 7 = .ok (.iadd, 1) := by decide +kernel
theorem dX10_lineTells_8 : decode cX10_lineTells 8 = .ok (.iaload, 1) := by decide +kernel
theorem dX10_lineTells_9 : decode cX10_lineTells 9 = .ok (.istore_n 3, 1) := by decide +kernel
theorem dX10_lineTells_10 : decode cX10_lineTells 10 = .ok (.iload_n 2, 1) := by decide +kernel
theorem dX10_lineTells_11 : decode cX10_lineTells 11 = .ok (.tableswitch 45 0 2 #[25, 30, 39], 25) := by decide +kernel
theorem dX10_lineTells_36 : decode cX10_lineTells 36 = .ok (.iload_n 3, 1) := by decide +kernel
theorem dX10_lineTells_37 : decode cX10_lineTells 37 = .ok (.bipush 8, 2) := by decide +kernel
theorem dX10_lineTells_39 : decode cX10_lineTells 39 = .ok (.ishr, 1) := by decide +kernel
theorem dX10_lineTells_40 : decode cX10_lineTells 40 = .ok (.ireturn, 1) := by decide +kernel
theorem dX10_lineTells_41 : decode cX10_lineTells 41 = .ok (.iload_n 3, 1) := by decide +kernel
theorem dX10_lineTells_42 : decode cX10_lineTells 42 = .ok (.iconst 4, 1) := by decide +kernel
theorem dX10_lineTells_43 : decode cX10_lineTells 43 = .ok (.ishr, 1) := by decide +kernel
theorem dX10_lineTells_44 : decode cX10_lineTells 44 = .ok (.bipush 15, 2) := by decide +kernel
theorem dX10_lineTells_46 : decode cX10_lineTells 46 = .ok (.iand, 1) := by decide +kernel
theorem dX10_lineTells_47 : decode cX10_lineTells 47 = .ok (.iconst 1, 1) := by decide +kernel
theorem dX10_lineTells_48 : decode cX10_lineTells 48 = .ok (.isub, 1) := by decide +kernel
theorem dX10_lineTells_49 : decode cX10_lineTells 49 = .ok (.ireturn, 1) := by decide +kernel
theorem dX10_lineTells_50 : decode cX10_lineTells 50 = .ok (.iload_n 3, 1) := by decide +kernel
theorem dX10_lineTells_51 : decode cX10_lineTells 51 = .ok (.iconst 2, 1) := by decide +kernel
theorem dX10_lineTells_52 : decode cX10_lineTells 52 = .ok (.ishr, 1) := by decide +kernel
theorem dX10_lineTells_53 : decode cX10_lineTells 53 = .ok (.iconst 3, 1) := by decide +kernel
theorem dX10_lineTells_54 : decode cX10_lineTells 54 = .ok (.iand, 1) := by decide +kernel
theorem dX10_lineTells_55 : decode cX10_lineTells 55 = .ok (.ireturn, 1) := by decide +kernel
theorem dX10_lineTells_56 : decode cX10_lineTells 56 = .ok (.iload_n 3, 1) := by decide +kernel
theorem dX10_lineTells_57 : decode cX10_lineTells 57 = .ok (.iconst 3, 1) := by decide +kernel
theorem dX10_lineTells_58 : decode cX10_lineTells 58 = .ok (.iand, 1) := by decide +kernel
theorem dX10_lineTells_59 : decode cX10_lineTells 59 = .ok (.ireturn, 1) := by decide +kernel
theorem dX11_init_0 : decode cX11_init 0 = .ok (.aload_n 0, 1) := by decide +kernel
theorem dX11_init_1 : decode cX11_init 1 = .ok (.invokespecial 1, 3) := by decide +kernel
theorem dX11_init_4 : decode cX11_init 4 = .ok (.aload_n 0, 1) := by decide +kernel
theorem dX11_init_5 : decode cX11_init 5 = .ok (.new 7, 3) := by decide +kernel
theorem dX11_init_8 : decode cX11_init 8 = .ok (.dup, 1) := by decide +kernel
theorem dX11_init_9 : decode cX11_init 9 = .ok (.invokespecial 9, 3) := by decide +kernel
theorem dX11_init_12 : decode cX11_init 12 = .ok (.putfield 10, 3) := by decide +kernel
theorem dX11_init_15 : decode cX11_init 15 = .ok (.aload_n 0, 1) := by decide +kernel
theorem dX11_init_16 : decode cX11_init 16 = .ok (.aload_n 0, 1) := by decide +kernel
theorem dX11_init_17 : decode cX11_init 17 = .ok (.getfield 10, 3) := by decide +kernel
theorem dX11_init_20 : decode cX11_init 20 = .ok (.getfield 16, 3) := by decide +kernel
theorem dX11_init_23 : decode cX11_init 23 = .ok (.putfield 20, 3) := by decide +kernel
theorem dX11_init_26 : decode cX11_init 26 = .ok (.aload_n 0, 1) := by decide +kernel
theorem dX11_init_27 : decode cX11_init 27 = .ok (.new 21, 3) := by decide +kernel
theorem dX11_init_30 : decode cX11_init 30 = .ok (.dup, 1) := by decide +kernel
theorem dX11_init_31 : decode cX11_init 31 = .ok (.invokespecial 23, 3) := by decide +kernel
theorem dX11_init_34 : decode cX11_init 34 = .ok (.putfield 24, 3) := by decide +kernel
theorem dX11_init_37 : decode cX11_init 37 = .ok (.aload_n 0, 1) := by decide +kernel
theorem dX11_init_38 : decode cX11_init 38 = .ok (.new 27, 3) := by decide +kernel
theorem dX11_init_41 : decode cX11_init 41 = .ok (.dup, 1) := by decide +kernel
theorem dX11_init_42 : decode cX11_init 42 = .ok (.invokespecial 29, 3) := by decide +kernel
theorem dX11_init_45 : decode cX11_init 45 = .ok (.putfield 30, 3) := by decide +kernel
theorem dX11_init_48 : decode cX11_init 48 = .ok (.aload_n 0, 1) := by decide +kernel
theorem dX11_init_49 : decode cX11_init 49 = .ok (.new 34, 3) := by decide +kernel
theorem dX11_init_52 : decode cX11_init 52 = .ok (.dup, 1) := by decide +kernel
theorem dX11_init_53 : decode cX11_init 53 = .ok (.invokespecial 36, 3) := by decide +kernel
theorem dX11_init_56 : decode cX11_init 56 = .ok (.putfield 37, 3) := by decide +kernel
theorem dX11_init_59 : decode cX11_init 59 = .ok (.aload_n 0, 1) := by decide +kernel
theorem dX11_init_60 : decode cX11_init 60 = .ok (.new 41, 3) := by decide +kernel
theorem dX11_init_63 : decode cX11_init 63 = .ok (.dup, 1) := by decide +kernel
theorem dX11_init_64 : decode cX11_init 64 = .ok (.invokespecial 43, 3) := by decide +kernel
theorem dX11_init_67 : decode cX11_init 67 = .ok (.putfield 44, 3) := by decide +kernel
theorem dX11_init_70 : decode cX11_init 70 = .ok (.aload_n 0, 1) := by decide +kernel
theorem dX11_init_71 : decode cX11_init 71 = .ok (.new 48, 3) := by decide +kernel
theorem dX11_init_74 : decode cX11_init 74 = .ok (.dup, 1) := by decide +kernel
theorem dX11_init_75 : decode cX11_init 75 = .ok (.invokespecial 50, 3) := by decide +kernel
theorem dX11_init_78 : decode cX11_init 78 = .ok (.putfield 51, 3) := by decide +kernel
theorem dX11_init_81 : decode cX11_init 81 = .ok (.aload_n 0, 1) := by decide +kernel
theorem dX11_init_82 : decode cX11_init 82 = .ok (.new 55, 3) := by decide +kernel
theorem dX11_init_85 : decode cX11_init 85 = .ok (.dup, 1) := by decide +kernel
theorem dX11_init_86 : decode cX11_init 86 = .ok (.invokespecial 57, 3) := by decide +kernel
theorem dX11_init_89 : decode cX11_init 89 = .ok (.putfield 58, 3) := by decide +kernel
theorem dX11_init_92 : decode cX11_init 92 = .ok (.return_, 1) := by decide +kernel
theorem dX11_within_0 : decode cX11_within 0 = .ok (.iload_n 0, 1) := by decide +kernel
theorem dX11_within_1 : decode cX11_within 1 = .ok (.iload_n 1, 1) := by decide +kernel
theorem dX11_within_2 : decode cX11_within 2 = .ok (.if_icmp .lt 12, 3) := by decide +kernel
theorem dX11_within_5 : decode cX11_within 5 = .ok (.iload_n 0, 1) := by decide +kernel
theorem dX11_within_6 : decode cX11_within 6 = .ok (.iload_n 2, 1) := by decide +kernel
theorem dX11_within_7 : decode cX11_within 7 = .ok (.if_icmp .gt 7, 3) := by decide +kernel
theorem dX11_within_10 : decode cX11_within 10 = .ok (.iconst 1, 1) := by decide +kernel
theorem dX11_within_11 : decode cX11_within 11 = .ok (.goto 4, 3) := by decide +kernel
theorem dX11_within_14 : decode cX11_within 14 = .ok (.iconst 0, 1) := by decide +kernel
theorem dX11_within_15 : decode cX11_within 15 = .ok (.ireturn, 1) := by decide +kernel
theorem dX11_isTrack_0 : decode cX11_isTrack 0 = .ok (.iload_n 0, 1) := by decide +kernel
theorem dX11_isTrack_1 : decode cX11_isTrack 1 = .ok (.iconst 0, 1) := by decide +kernel
theorem dX11_isTrack_2 : decode cX11_isTrack 2 = .ok (.iconst 2, 1) := by decide +kernel
theorem dX11_isTrack_3 : decode cX11_isTrack 3 = .ok (.invokestatic 62, 3) := by decide +kernel
theorem dX11_isTrack_6 : decode cX11_isTrack 6 = .ok (.ireturn, 1) := by decide +kernel
theorem dX11_isCar_0 : decode cX11_isCar 0 = .ok (.iload_n 1, 1) := by decide +kernel
theorem dX11_isCar_1 : decode cX11_isCar 1 = .ok (.iconst 0, 1) := by decide +kernel
theorem dX11_isCar_2 : decode cX11_isCar 2 = .ok (.aload_n 0, 1) := by decide +kernel
theorem dX11_isCar_3 : decode cX11_isCar 3 = .ok (.getfield 20, 3) := by decide +kernel
theorem dX11_isCar_6 : decode cX11_isCar 6 = .ok (.getfield 66, 3) := by decide +kernel
theorem dX11_isCar_9 : decode cX11_isCar 9 = .ok (.invokevirtual 69, 3) := by decide +kernel
theorem dX11_isCar_12 : decode cX11_isCar 12 = .ok (.iconst 1, 1) := by decide +kernel
theorem dX11_isCar_13 : decode cX11_isCar 13 = .ok (.isub, 1) := by decide +kernel
theorem dX11_isCar_14 : decode cX11_isCar 14 = .ok (.invokestatic 62, 3) := by decide +kernel
theorem dX11_isCar_17 : decode cX11_isCar 17 = .ok (.ireturn, 1) := by decide +kernel
theorem dX11_isText_0 : decode cX11_isText 0 = .ok (.iload_n 1, 1) := by decide +kernel
theorem dX11_isText_1 : decode cX11_isText 1 = .ok (.iconst 0, 1) := by decide +kernel
theorem dX11_isText_2 : decode cX11_isText 2 = .ok (.aload_n 0, 1) := by decide +kernel
theorem dX11_isText_3 : decode cX11_isText 3 = .ok (.getfield 20, 3) := by decide +kernel
theorem dX11_isText_6 : decode cX11_isText 6 = .ok (.getfield 73, 3) := by decide +kernel
theorem dX11_isText_9 : decode cX11_isText 9 = .ok (.iconst 1, 1) := by decide +kernel
theorem dX11_isText_10 : decode cX11_isText 10 = .ok (.isub, 1) := by decide +kernel
theorem dX11_isText_11 : decode cX11_isText 11 = .ok (.invokestatic 62, 3) := by decide +kernel
theorem dX11_isText_14 : decode cX11_isText 14 = .ok (.ifCond .eq 19, 3) := by decide +kernel
theorem dX11_isText_17 : decode cX11_isText 17 = .ok (.aload_n 0, 1) := by decide +kernel
theorem dX11_isText_18 : decode cX11_isText 18 = .ok (.getfield 20, 3) := by decide +kernel
theorem dX11_isText_21 : decode cX11_isText 21 = .ok (.getfield 77, 3) := by decide +kernel
theorem dX11_isText_24 : decode cX11_isText 24 = .ok (.iload_n 1, 1) := by decide +kernel
theorem dX11_isText_25 : decode cX11_isText 25 = .ok (.aaload, 1) := by decide +kernel
theorem dX11_isText_26 : decode cX11_isText 26 = .ok (.ifnull 7, 3) := by decide +kernel
theorem dX11_isText_29 : decode cX11_isText 29 = .ok (.iconst 1, 1) := by decide +kernel
theorem dX11_isText_30 : decode cX11_isText 30 = .ok (.goto 4, 3) := by decide +kernel
theorem dX11_isText_33 : decode cX11_isText 33 = .ok (.iconst 0, 1) := by decide +kernel
theorem dX11_isText_34 : decode cX11_isText 34 = .ok (.ireturn, 1) := by decide +kernel
theorem dX11_car_0 : decode cX11_car 0 = .ok (.iload_n 1, 1) := by decide +kernel
theorem dX11_car_1 : decode cX11_car 1 = .ok (.iconst 0, 1) := by decide +kernel
theorem dX11_car_2 : decode cX11_car 2 = .ok (.iconst 3, 1) := by decide +kernel
theorem dX11_car_3 : decode cX11_car 3 = .ok (.invokestatic 62, 3) := by decide +kernel
theorem dX11_car_6 : decode cX11_car 6 = .ok (.ifCond .eq 13, 3) := by decide +kernel
theorem dX11_car_9 : decode cX11_car 9 = .ok (.iload_n 2, 1) := by decide +kernel
theorem dX11_car_10 : decode cX11_car 10 = .ok (.iconst 1, 1) := by decide +kernel
theorem dX11_car_11 : decode cX11_car 11 = .ok (.bipush 9, 2) := by decide +kernel
theorem dX11_car_13 : decode cX11_car 13 = .ok (.invokestatic 62, 3) := by decide +kernel
theorem dX11_car_16 : decode cX11_car 16 = .ok (.ifCond .ne 5, 3) := by decide +kernel
theorem dX11_car_19 : decode cX11_car 19 = .ok (.iconst (-1), 1) := by decide +kernel
theorem dX11_car_20 : decode cX11_car 20 = .ok (.ireturn, 1) := by decide +kernel
theorem dX11_car_21 : decode cX11_car 21 = .ok (.aload_n 0, 1) := by decide +kernel
theorem dX11_car_22 : decode cX11_car 22 = .ok (.getfield 20, 3) := by decide +kernel
theorem dX11_car_25 : decode cX11_car 25 = .ok (.iload_n 1, 1) := by decide +kernel
theorem dX11_car_26 : decode cX11_car 26 = .ok (.iload_n 2, 1) := by decide +kernel
theorem dX11_car_27 : decode cX11_car 27 = .ok (.invokevirtual 81, 3) := by decide +kernel
theorem dX11_car_30 : decode cX11_car 30 = .ok (.ireturn, 1) := by decide +kernel
theorem dX11_forbid_0 : decode cX11_forbid 0 = .ok (.iload_n 1, 1) := by decide +kernel
theorem dX11_forbid_1 : decode cX11_forbid 1 = .ok (.iconst 0, 1) := by decide +kernel
theorem dX11_forbid_2 : decode cX11_forbid 2 = .ok (.iconst 3, 1) := by decide +kernel
theorem dX11_forbid_3 : decode cX11_forbid 3 = .ok (.invokestatic 62, 3) := by decide +kernel
theorem dX11_forbid_6 : decode cX11_forbid 6 = .ok (.ifCond .eq 12, 3) := by decide +kernel
theorem dX11_forbid_9 : decode cX11_forbid 9 = .ok (.iload_n 2, 1) := by decide +kernel
theorem dX11_forbid_10 : decode cX11_forbid 10 = .ok (.iconst 0, 1) := by decide +kernel
theorem dX11_forbid_11 : decode cX11_forbid 11 = .ok (.iconst 3, 1) := by decide +kernel
theorem dX11_forbid_12 : decode cX11_forbid 12 = .ok (.invokestatic 62, 3) := by decide +kernel
theorem dX11_forbid_15 : decode cX11_forbid 15 = .ok (.ifCond .ne 5, 3) := by decide +kernel
theorem dX11_forbid_18 : decode cX11_forbid 18 = .ok (.iconst 0, 1) := by decide +kernel
theorem dX11_forbid_19 : decode cX11_forbid 19 = .ok (.ireturn, 1) := by decide +kernel
theorem dX11_forbid_20 : decode cX11_forbid 20 = .ok (.aload_n 0, 1) := by decide +kernel
theorem dX11_forbid_21 : decode cX11_forbid 21 = .ok (.getfield 20, 3) := by decide +kernel
theorem dX11_forbid_24 : decode cX11_forbid 24 = .ok (.iload_n 1, 1) := by decide +kernel
theorem dX11_forbid_25 : decode cX11_forbid 25 = .ok (.iload_n 2, 1) := by decide +kernel
theorem dX11_forbid_26 : decode cX11_forbid 26 = .ok (.iload_n 3, 1) := by decide +kernel
theorem dX11_forbid_27 : decode cX11_forbid 27 = .ok (.invokevirtual 85, 3) := by decide +kernel
theorem dX11_forbid_30 : decode cX11_forbid 30 = .ok (.ireturn, 1) := by decide +kernel
theorem dX11_times_0 : decode cX11_times 0 = .ok (.aload_n 0, 1) := by decide +kernel
theorem dX11_times_1 : decode cX11_times 1 = .ok (.iload_n 1, 1) := by decide +kernel
theorem dX11_times_2 : decode cX11_times 2 = .ok (.invokevirtual 89, 3) := by decide +kernel
theorem dX11_times_5 : decode cX11_times 5 = .ok (.ifCond .eq 23, 3) := by decide +kernel
theorem dX11_times_8 : decode cX11_times 8 = .ok (.iload_n 2, 1) := by decide +kernel
theorem dX11_times_9 : decode cX11_times 9 = .ok (.iconst 1, 1) := by decide +kernel
theorem dX11_times_10 : decode cX11_times 10 = .ok (.bipush 20, 2) := by decide +kernel
theorem dX11_times_12 : decode cX11_times 12 = .ok (.invokestatic 62, 3) := by decide +kernel
theorem dX11_times_15 : decode cX11_times 15 = .ok (.ifCond .eq 13, 3) := by decide +kernel
theorem dX11_times_18 : decode cX11_times 18 = .ok (.iload_n 3, 1) := by decide +kernel
theorem dX11_times_19 : decode cX11_times 19 = .ok (.iconst 1, 1) := by decide +kernel
theorem dX11_times_20 : decode cX11_times 20 = .ok (.bipush 20, 2) := by decide +kernel
theorem dX11_times_22 : decode cX11_times 22 = .ok (.invokestatic 62, 3) := by decide +kernel
theorem dX11_times_25 : decode cX11_times 25 = .ok (.ifCond .ne 5, 3) := by decide +kernel
theorem dX11_times_28 : decode cX11_times 28 = .ok (.iconst 0, 1) := by decide +kernel
theorem dX11_times_29 : decode cX11_times 29 = .ok (.ireturn, 1) := by decide +kernel
theorem dX11_times_30 : decode cX11_times 30 = .ok (.aload_n 0, 1) := by decide +kernel
theorem dX11_times_31 : decode cX11_times 31 = .ok (.getfield 20, 3) := by decide +kernel
theorem dX11_times_34 : decode cX11_times 34 = .ok (.getfield 93, 3) := by decide +kernel
theorem dX11_times_37 : decode cX11_times 37 = .ok (.iload_n 1, 1) := by decide +kernel
theorem dX11_times_38 : decode cX11_times 38 = .ok (.iload_n 2, 1) := by decide +kernel
theorem dX11_times_39 : decode cX11_times 39 = .ok (.iastore, 1) := by decide +kernel
theorem dX11_times_40 : decode cX11_times 40 = .ok (.aload_n 0, 1) := by decide +kernel
theorem dX11_times_41 : decode cX11_times 41 = .ok (.getfield 20, 3) := by decide +kernel
theorem dX11_times_44 : decode cX11_times 44 = .ok (.getfield 97, 3) := by decide +kernel
theorem dX11_times_47 : decode cX11_times 47 = .ok (.iload_n 1, 1) := by decide +kernel
theorem dX11_times_48 : decode cX11_times 48 = .ok (.iload_n 3, 1) := by decide +kernel
theorem dX11_times_49 : decode cX11_times 49 = .ok (.iastore, 1) := by decide +kernel
theorem dX11_times_50 : decode cX11_times 50 = .ok (.iconst 1, 1) := by decide +kernel
theorem dX11_times_51 : decode cX11_times 51 = .ok (.ireturn, 1) := by decide +kernel
theorem dX11_feed_0 : decode cX11_feed 0 = .ok (.aload_n 0, 1) := by decide +kernel
theorem dX11_feed_1 : decode cX11_feed 1 = .ok (.getfield 30, 3) := by decide +kernel
theorem dX11_feed_4 : decode cX11_feed 4 = .ok (.getfield 100, 3) := by decide +kernel
theorem dX11_feed_7 : decode cX11_feed 7 = .ok (.bipush 20, 2) := by decide +kernel
theorem dX11_feed_9 : decode cX11_feed 9 = .ok (.iadd, 1) := by decide +kernel
theorem dX11_feed_10 : decode cX11_feed 10 = .ok (.sipush 300, 3) := by decide +kernel
theorem dX11_feed_13 : decode cX11_feed 13 = .ok (.if_icmp .le 5, 3) := by decide +kernel
theorem dX11_feed_16 : decode cX11_feed 16 = .ok (.iconst (-1), 1) := by decide +kernel
theorem dX11_feed_17 : decode cX11_feed 17 = .ok (.ireturn, 1) := by decide +kernel
theorem dX11_feed_18 : decode cX11_feed 18 = .ok (.aload_n 0, 1) := by decide +kernel
theorem dX11_feed_19 : decode cX11_feed 19 = .ok (.getfield 30, 3) := by decide +kernel
theorem dX11_feed_22 : decode cX11_feed 22 = .ok (.iload_n 1, 1) := by decide +kernel
theorem dX11_feed_23 : decode cX11_feed 23 = .ok (.invokevirtual 103, 3) := by decide +kernel
theorem dX11_feed_26 : decode cX11_feed 26 = .ok (.aload_n 0, 1) := by decide +kernel
theorem dX11_feed_27 : decode cX11_feed 27 = .ok (.getfield 30, 3) := by decide +kernel
theorem dX11_feed_30 : decode cX11_feed 30 = .ok (.iload_n 2, 1) := by decide +kernel
theorem dX11_feed_31 : decode cX11_feed 31 = .ok (.invokevirtual 103, 3) := by decide +kernel
theorem dX11_feed_34 : decode cX11_feed 34 = .ok (.aload_n 0, 1) := by decide +kernel
theorem dX11_feed_35 : decode cX11_feed 35 = .ok (.getfield 30, 3) := by decide +kernel
theorem dX11_feed_38 : decode cX11_feed 38 = .ok (.iload_n 3, 1) := by decide +kernel
theorem dX11_feed_39 : decode cX11_feed 39 = .ok (.invokevirtual 103, 3) := by decide +kernel
theorem dX11_feed_42 : decode cX11_feed 42 = .ok (.aload_n 0, 1) := by decide +kernel
theorem dX11_feed_43 : decode cX11_feed 43 = .ok (.getfield 30, 3) := by decide +kernel
theorem dX11_feed_46 : decode cX11_feed 46 = .ok (.iload 4, 2) := by decide +kernel
theorem dX11_feed_48 : decode cX11_feed 48 = .ok (.invokevirtual 103, 3) := by decide +kernel
theorem dX11_feed_51 : decode cX11_feed 51 = .ok (.aload_n 0, 1) := by decide +kernel
theorem dX11_feed_52 : decode cX11_feed 52 = .ok (.getfield 30, 3) := by decide +kernel
theorem dX11_feed_55 : decode cX11_feed 55 = .ok (.iload 5, 2) := by decide +kernel
theorem dX11_feed_57 : decode cX11_feed 57 = .ok (.invokevirtual 103, 3) := by decide +kernel
theorem dX11_feed_60 : decode cX11_feed 60 = .ok (.aload_n 0, 1) := by decide +kernel
theorem dX11_feed_61 : decode cX11_feed 61 = .ok (.getfield 30, 3) := by decide +kernel
theorem dX11_feed_64 : decode cX11_feed 64 = .ok (.getfield 100, 3) := by decide +kernel
theorem dX11_feed_67 : decode cX11_feed 67 = .ok (.ireturn, 1) := by decide +kernel
theorem dX11_end_0 : decode cX11_end 0 = .ok (.iload_n 1, 1) := by decide +kernel
theorem dX11_end_1 : decode cX11_end 1 = .ok (.iconst 0, 1) := by decide +kernel
theorem dX11_end_2 : decode cX11_end 2 = .ok (.aload_n 0, 1) := by decide +kernel
theorem dX11_end_3 : decode cX11_end 3 = .ok (.getfield 30, 3) := by decide +kernel
theorem dX11_end_6 : decode cX11_end 6 = .ok (.getfield 100, 3) := by decide +kernel
theorem dX11_end_9 : decode cX11_end 9 = .ok (.invokestatic 62, 3) := by decide +kernel
theorem dX11_end_12 : decode cX11_end 12 = .ok (.ifCond .ne 5, 3) := by decide +kernel
theorem dX11_end_15 : decode cX11_end 15 = .ok (.iconst (-1), 1) := by decide +kernel
theorem dX11_end_16 : decode cX11_end 16 = .ok (.ireturn, 1) := by decide +kernel
theorem dX11_end_17 : decode cX11_end 17 = .ok (.aload_n 0, 1) := by decide +kernel
theorem dX11_end_18 : decode cX11_end 18 = .ok (.getfield 30, 3) := by decide +kernel
theorem dX11_end_21 : decode cX11_end 21 = .ok (.iload_n 1, 1) := by decide +kernel
theorem dX11_end_22 : decode cX11_end 22 = .ok (.putfield 100, 3) := by decide +kernel
theorem dX11_end_25 : decode cX11_end 25 = .ok (.iload_n 1, 1) := by decide +kernel
theorem dX11_end_26 : decode cX11_end 26 = .ok (.ireturn, 1) := by decide +kernel
theorem dX11_text_0 : decode cX11_text 0 = .ok (.aload_n 0, 1) := by decide +kernel
theorem dX11_text_1 : decode cX11_text 1 = .ok (.getfield 20, 3) := by decide +kernel
theorem dX11_text_4 : decode cX11_text 4 = .ok (.getfield 73, 3) := by decide +kernel
theorem dX11_text_7 : decode cX11_text 7 = .ok (.iconst 4, 1) := by decide +kernel
theorem dX11_text_8 : decode cX11_text 8 = .ok (.if_icmp .lt 5, 3) := by decide +kernel
theorem dX11_text_11 : decode cX11_text 11 = .ok (.iconst (-1), 1) := by decide +kernel
theorem dX11_text_12 : decode cX11_text 12 = .ok (.ireturn, 1) := by decide +kernel
theorem dX11_text_13 : decode cX11_text 13 = .ok (.aload_n 0, 1) := by decide +kernel
theorem dX11_text_14 : decode cX11_text 14 = .ok (.getfield 30, 3) := by decide +kernel
theorem dX11_text_17 : decode cX11_text 17 = .ok (.invokevirtual 107, 3) := by decide +kernel
theorem dX11_text_20 : decode cX11_text 20 = .ok (.astore_n 1, 1) := by decide +kernel
theorem dX11_text_21 : decode cX11_text 21 = .ok (.aload_n 0, 1) := by decide +kernel
theorem dX11_text_22 : decode cX11_text 22 = .ok (.getfield 30, 3) := by decide +kernel
theorem dX11_text_25 : decode cX11_text 25 = .ok (.iconst 0, 1) := by decide +kernel
theorem dX11_text_26 : decode cX11_text 26 = .ok (.putfield 100, 3) := by decide +kernel
theorem dX11_text_29 : decode cX11_text 29 = .ok (.aload_n 1, 1) := by decide +kernel
theorem dX11_text_30 : decode cX11_text 30 = .ok (.ifnonnull 5, 3) := by decide +kernel
theorem dX11_text_33 : decode cX11_text 33 = .ok (.iconst (-1), 1) := by decide +kernel
theorem dX11_text_34 : decode cX11_text 34 = .ok (.ireturn, 1) := by decide +kernel
theorem dX11_text_35 : decode cX11_text 35 = .ok (.aload_n 0, 1) := by decide +kernel
theorem dX11_text_36 : decode cX11_text 36 = .ok (.getfield 20, 3) := by decide +kernel
theorem dX11_text_39 : decode cX11_text 39 = .ok (.getfield 77, 3) := by decide +kernel
theorem dX11_text_42 : decode cX11_text 42 = .ok (.aload_n 0, 1) := by decide +kernel
theorem dX11_text_43 : decode cX11_text 43 = .ok (.getfield 20, 3) := by decide +kernel
theorem dX11_text_46 : decode cX11_text 46 = .ok (.getfield 73, 3) := by decide +kernel
theorem dX11_text_49 : decode cX11_text 49 = .ok (.aload_n 1, 1) := by decide +kernel
theorem dX11_text_50 : decode cX11_text 50 = .ok (.aastore, 1) := by decide +kernel
theorem dX11_text_51 : decode cX11_text 51 = .ok (.aload_n 0, 1) := by decide +kernel
theorem dX11_text_52 : decode cX11_text 52 = .ok (.getfield 20, 3) := by decide +kernel
theorem dX11_text_55 : decode cX11_text 55 = .ok (.dup, 1) := by decide +kernel
theorem dX11_text_56 : decode cX11_text 56 = .ok (.getfield 73, 3) := by decide +kernel
theorem dX11_text_59 : decode cX11_text 59 = .ok (.iconst 1, 1) := by decide +kernel
theorem dX11_text_60 : decode cX11_text 60 = .ok (.iadd, 1) := by decide +kernel
theorem dX11_text_61 : decode cX11_text 61 = .ok (.putfield 73, 3) := by decide +kernel
theorem dX11_text_64 : decode cX11_text 64 = .ok (.aload_n 0, 1) := by decide +kernel
theorem dX11_text_65 : decode cX11_text 65 = .ok (.getfield 20, 3) := by decide +kernel
theorem dX11_text_68 : decode cX11_text 68 = .ok (.getfield 73, 3) := by decide +kernel
theorem dX11_text_71 : decode cX11_text 71 = .ok (.iconst 1, 1) := by decide +kernel
theorem dX11_text_72 : decode cX11_text 72 = .ok (.isub, 1) := by decide +kernel
theorem dX11_text_73 : decode cX11_text 73 = .ok (.ireturn, 1) := by decide +kernel
theorem dX11_fault_0 : decode cX11_fault 0 = .ok (.iload_n 1, 1) := by decide +kernel
theorem dX11_fault_1 : decode cX11_fault 1 = .ok (.ifCond .ne 11, 3) := by decide +kernel
theorem dX11_fault_4 : decode cX11_fault 4 = .ok (.aload_n 0, 1) := by decide +kernel
theorem dX11_fault_5 : decode cX11_fault 5 = .ok (.getfield 30, 3) := by decide +kernel
theorem dX11_fault_8 : decode cX11_fault 8 = .ok (.getfield 111, 3) := by decide +kernel
theorem dX11_fault_11 : decode cX11_fault 11 = .ok (.ireturn, 1) := by decide +kernel
theorem dX11_fault_12 : decode cX11_fault 12 = .ok (.iload_n 1, 1) := by decide +kernel
theorem dX11_fault_13 : decode cX11_fault 13 = .ok (.iconst 1, 1) := by decide +kernel
theorem dX11_fault_14 : decode cX11_fault 14 = .ok (.if_icmp .ne 13, 3) := by decide +kernel
theorem dX11_fault_17 : decode cX11_fault 17 = .ok (.aload_n 0, 1) := by decide +kernel
theorem dX11_fault_18 : decode cX11_fault 18 = .ok (.getfield 30, 3) := by decide +kernel
theorem dX11_fault_21 : decode cX11_fault 21 = .ok (.getfield 114, 3) := by decide +kernel
theorem dX11_fault_24 : decode cX11_fault 24 = .ok (.goto 4, 3) := by decide +kernel
theorem dX11_fault_27 : decode cX11_fault 27 = .ok (.iconst (-1), 1) := by decide +kernel
theorem dX11_fault_28 : decode cX11_fault 28 = .ok (.ireturn, 1) := by decide +kernel
theorem dX11_by_0 : decode cX11_by 0 = .ok (.iload_n 1, 1) := by decide +kernel
theorem dX11_by_1 : decode cX11_by 1 = .ok (.iconst (-1), 1) := by decide +kernel
theorem dX11_by_2 : decode cX11_by 2 = .ok (.if_icmp .eq 13, 3) := by decide +kernel
theorem dX11_by_5 : decode cX11_by 5 = .ok (.aload_n 0, 1) := by decide +kernel
theorem dX11_by_6 : decode cX11_by 6 = .ok (.iload_n 1, 1) := by decide +kernel
theorem dX11_by_7 : decode cX11_by 7 = .ok (.invokevirtual 117, 3) := by decide +kernel
theorem dX11_by_10 : decode cX11_by 10 = .ok (.ifCond .ne 5, 3) := by decide +kernel
theorem dX11_by_13 : decode cX11_by 13 = .ok (.iconst 0, 1) := by decide +kernel
theorem dX11_by_14 : decode cX11_by 14 = .ok (.ireturn, 1) := by decide +kernel
theorem dX11_by_15 : decode cX11_by 15 = .ok (.aload_n 0, 1) := by decide +kernel
theorem dX11_by_16 : decode cX11_by 16 = .ok (.getfield 20, 3) := by decide +kernel
theorem dX11_by_19 : decode cX11_by 19 = .ok (.iload_n 1, 1) := by decide +kernel
theorem dX11_by_20 : decode cX11_by 20 = .ok (.putfield 120, 3) := by decide +kernel
theorem dX11_by_23 : decode cX11_by 23 = .ok (.iconst 1, 1) := by decide +kernel
theorem dX11_by_24 : decode cX11_by 24 = .ok (.ireturn, 1) := by decide +kernel
theorem dX11_move_0 : decode cX11_move 0 = .ok (.iload_n 1, 1) := by decide +kernel
theorem dX11_move_1 : decode cX11_move 1 = .ok (.invokestatic 123, 3) := by decide +kernel
theorem dX11_move_4 : decode cX11_move 4 = .ok (.ifCond .eq 10, 3) := by decide +kernel
theorem dX11_move_7 : decode cX11_move 7 = .ok (.iload_n 2, 1) := by decide +kernel
theorem dX11_move_8 : decode cX11_move 8 = .ok (.invokestatic 123, 3) := by decide +kernel
theorem dX11_move_11 : decode cX11_move 11 = .ok (.ifCond .ne 5, 3) := by decide +kernel
theorem dX11_move_14 : decode cX11_move 14 = .ok (.iconst (-1), 1) := by decide +kernel
theorem dX11_move_15 : decode cX11_move 15 = .ok (.ireturn, 1) := by decide +kernel
theorem dX11_move_16 : decode cX11_move 16 = .ok (.aload_n 0, 1) := by decide +kernel
theorem dX11_move_17 : decode cX11_move 17 = .ok (.getfield 10, 3) := by decide +kernel
theorem dX11_move_20 : decode cX11_move 20 = .ok (.iload_n 1, 1) := by decide +kernel
theorem dX11_move_21 : decode cX11_move 21 = .ok (.iload_n 2, 1) := by decide +kernel
theorem dX11_move_22 : decode cX11_move 22 = .ok (.iconst 1, 1) := by decide +kernel
theorem dX11_move_23 : decode cX11_move 23 = .ok (.invokevirtual 126, 3) := by decide +kernel
theorem dX11_move_26 : decode cX11_move 26 = .ok (.ireturn, 1) := by decide +kernel
theorem dX11_change_0 : decode cX11_change 0 = .ok (.aload_n 0, 1) := by decide +kernel
theorem dX11_change_1 : decode cX11_change 1 = .ok (.getfield 10, 3) := by decide +kernel
theorem dX11_change_4 : decode cX11_change 4 = .ok (.iconst 1, 1) := by decide +kernel
theorem dX11_change_5 : decode cX11_change 5 = .ok (.invokevirtual 130, 3) := by decide +kernel
theorem dX11_change_8 : decode cX11_change 8 = .ok (.ireturn, 1) := by decide +kernel
theorem dX11_lend_0 : decode cX11_lend 0 = .ok (.iload_n 1, 1) := by decide +kernel
theorem dX11_lend_1 : decode cX11_lend 1 = .ok (.iconst 0, 1) := by decide +kernel
theorem dX11_lend_2 : decode cX11_lend 2 = .ok (.iconst 1, 1) := by decide +kernel
theorem dX11_lend_3 : decode cX11_lend 3 = .ok (.invokestatic 62, 3) := by decide +kernel
theorem dX11_lend_6 : decode cX11_lend 6 = .ok (.ifCond .eq 18, 3) := by decide +kernel
theorem dX11_lend_9 : decode cX11_lend 9 = .ok (.iload_n 2, 1) := by decide +kernel
theorem dX11_lend_10 : decode cX11_lend 10 = .ok (.bipush (-9), 2) := by decide +kernel
theorem dX11_lend_12 : decode cX11_lend 12 = .ok (.bipush 9, 2) := by decide +kernel
theorem dX11_lend_14 : decode cX11_lend 14 = .ok (.invokestatic 62, 3) := by decide +kernel
theorem dX11_lend_17 : decode cX11_lend 17 = .ok (.ifCond .eq 7, 3) := by decide +kernel
theorem dX11_lend_20 : decode cX11_lend 20 = .ok (.iload_n 2, 1) := by decide +kernel
theorem dX11_lend_21 : decode cX11_lend 21 = .ok (.ifCond .ne 5, 3) := by decide +kernel
theorem dX11_lend_24 : decode cX11_lend 24 = .ok (.iconst 0, 1) := by decide +kernel
theorem dX11_lend_25 : decode cX11_lend 25 = .ok (.ireturn, 1) := by decide +kernel
theorem dX11_lend_26 : decode cX11_lend 26 = .ok (.aload_n 0, 1) := by decide +kernel
theorem dX11_lend_27 : decode cX11_lend 27 = .ok (.getfield 10, 3) := by decide +kernel
theorem dX11_lend_30 : decode cX11_lend 30 = .ok (.iload_n 1, 1) := by decide +kernel
theorem dX11_lend_31 : decode cX11_lend 31 = .ok (.iload_n 2, 1) := by decide +kernel
theorem dX11_lend_32 : decode cX11_lend 32 = .ok (.invokevirtual 134, 3) := by decide +kernel
theorem dX11_lend_35 : decode cX11_lend 35 = .ok (.ireturn, 1) := by decide +kernel
theorem dX11_hour_0 : decode cX11_hour 0 = .ok (.iload_n 1, 1) := by decide +kernel
theorem dX11_hour_1 : decode cX11_hour 1 = .ok (.iconst 1, 1) := by decide +kernel
theorem dX11_hour_2 : decode cX11_hour 2 = .ok (.bipush 60, 2) := by decide +kernel
theorem dX11_hour_4 : decode cX11_hour 4 = .ok (.invokestatic 62, 3) := by decide +kernel
theorem dX11_hour_7 : decode cX11_hour 7 = .ok (.ifCond .eq 21, 3) := by decide +kernel
theorem dX11_hour_10 : decode cX11_hour 10 = .ok (.aload_n 0, 1) := by decide +kernel
theorem dX11_hour_11 : decode cX11_hour 11 = .ok (.getfield 20, 3) := by decide +kernel
theorem dX11_hour_14 : decode cX11_hour 14 = .ok (.getfield 66, 3) := by decide +kernel
theorem dX11_hour_17 : decode cX11_hour 17 = .ok (.invokevirtual 138, 3) := by decide +kernel
theorem dX11_hour_20 : decode cX11_hour 20 = .ok (.iload_n 1, 1) := by decide +kernel
theorem dX11_hour_21 : decode cX11_hour 21 = .ok (.iadd, 1) := by decide +kernel
theorem dX11_hour_22 : decode cX11_hour 22 = .ok (.sipush 9999, 3) := by decide +kernel
theorem dX11_hour_25 : decode cX11_hour 25 = .ok (.if_icmp .le 5, 3) := by decide +kernel
theorem dX11_hour_28 : decode cX11_hour 28 = .ok (.iconst (-1), 1) := by decide +kernel
theorem dX11_hour_29 : decode cX11_hour 29 = .ok (.ireturn, 1) := by decide +kernel
theorem dX11_hour_30 : decode cX11_hour 30 = .ok (.aload_n 0, 1) := by decide +kernel
theorem dX11_hour_31 : decode cX11_hour 31 = .ok (.getfield 10, 3) := by decide +kernel
theorem dX11_hour_34 : decode cX11_hour 34 = .ok (.iload_n 1, 1) := by decide +kernel
theorem dX11_hour_35 : decode cX11_hour 35 = .ok (.invokevirtual 141, 3) := by decide +kernel
theorem dX11_hour_38 : decode cX11_hour 38 = .ok (.ireturn, 1) := by decide +kernel
theorem dX11_played_0 : decode cX11_played 0 = .ok (.aload_n 0, 1) := by decide +kernel
theorem dX11_played_1 : decode cX11_played 1 = .ok (.iload_n 1, 1) := by decide +kernel
theorem dX11_played_2 : decode cX11_played 2 = .ok (.invokevirtual 117, 3) := by decide +kernel
theorem dX11_played_5 : decode cX11_played 5 = .ok (.ifCond .ne 6, 3) := by decide +kernel
theorem dX11_played_8 : decode cX11_played 8 = .ok (.bipush (-2), 2) := by decide +kernel
theorem dX11_played_10 : decode cX11_played 10 = .ok (.ireturn, 1) := by decide +kernel
theorem dX11_played_11 : decode cX11_played 11 = .ok (.aload_n 0, 1) := by decide +kernel
theorem dX11_played_12 : decode cX11_played 12 = .ok (.getfield 20, 3) := by decide +kernel
theorem dX11_played_15 : decode cX11_played 15 = .ok (.getfield 77, 3) := by decide +kernel
theorem dX11_played_18 : decode cX11_played 18 = .ok (.iload_n 1, 1) := by decide +kernel
theorem dX11_played_19 : decode cX11_played 19 = .ok (.aaload, 1) := by decide +kernel
theorem dX11_played_20 : decode cX11_played 20 = .ok (.astore_n 2, 1) := by decide +kernel
theorem dX11_played_21 : decode cX11_played 21 = .ok (.iconst 0, 1) := by decide +kernel
theorem dX11_played_22 : decode cX11_played 22 = .ok (.istore_n 3, 1) := by decide +kernel
theorem dX11_played_23 : decode cX11_played 23 = .ok (.iload_n 3, 1) := by decide +kernel
theorem dX11_played_24 : decode cX11_played 24 = .ok (.aload_n 2, 1) := by decide +kernel
theorem dX11_played_25 : decode cX11_played 25 = .ok (.invokevirtual 145, 3) := by decide +kernel
theorem dX11_played_28 : decode cX11_played 28 = .ok (.if_icmp .ge 23, 3) := by decide +kernel
theorem dX11_played_31 : decode cX11_played 31 = .ok (.aload_n 0, 1) := by decide +kernel
theorem dX11_played_32 : decode cX11_played 32 = .ok (.getfield 10, 3) := by decide +kernel
theorem dX11_played_35 : decode cX11_played 35 = .ok (.aload_n 2, 1) := by decide +kernel
theorem dX11_played_36 : decode cX11_played 36 = .ok (.iload_n 3, 1) := by decide +kernel
theorem dX11_played_37 : decode cX11_played 37 = .ok (.invokevirtual 150, 3) := by decide +kernel
theorem dX11_played_40 : decode cX11_played 40 = .ok (.ifCond .ne 5, 3) := by decide +kernel
theorem dX11_played_43 : decode cX11_played 43 = .ok (.iload_n 3, 1) := by decide +kernel
theorem dX11_played_44 : decode cX11_played 44 = .ok (.ireturn, 1) := by decide +kernel
theorem dX11_played_45 : decode cX11_played 45 = .ok (.iinc 3 1, 3) := by decide +kernel
theorem dX11_played_48 : decode cX11_played 48 = .ok (.goto (-25), 3) := by decide +kernel
theorem dX11_played_51 : decode cX11_played 51 = .ok (.iconst (-1), 1) := by decide +kernel
theorem dX11_played_52 : decode cX11_played 52 = .ok (.ireturn, 1) := by decide +kernel
theorem dX11_years_0 : decode cX11_years 0 = .ok (.iload_n 1, 1) := by decide +kernel
theorem dX11_years_1 : decode cX11_years 1 = .ok (.iconst 0, 1) := by decide +kernel
theorem dX11_years_2 : decode cX11_years 2 = .ok (.sipush 9999, 3) := by decide +kernel
theorem dX11_years_5 : decode cX11_years 5 = .ok (.invokestatic 62, 3) := by decide +kernel
theorem dX11_years_8 : decode cX11_years 8 = .ok (.ifCond .eq 13, 3) := by decide +kernel
theorem dX11_years_11 : decode cX11_years 11 = .ok (.iload_n 2, 1) := by decide +kernel
theorem dX11_years_12 : decode cX11_years 12 = .ok (.iconst 1, 1) := by decide +kernel
theorem dX11_years_13 : decode cX11_years 13 = .ok (.bipush 40, 2) := by decide +kernel
theorem dX11_years_15 : decode cX11_years 15 = .ok (.invokestatic 62, 3) := by decide +kernel
theorem dX11_years_18 : decode cX11_years 18 = .ok (.ifCond .ne 5, 3) := by decide +kernel
theorem dX11_years_21 : decode cX11_years 21 = .ok (.iconst (-1), 1) := by decide +kernel
theorem dX11_years_22 : decode cX11_years 22 = .ok (.ireturn, 1) := by decide +kernel
theorem dX11_years_23 : decode cX11_years 23 = .ok (.aload_n 0, 1) := by decide +kernel
theorem dX11_years_24 : decode cX11_years 24 = .ok (.getfield 10, 3) := by decide +kernel
theorem dX11_years_27 : decode cX11_years 27 = .ok (.iload_n 1, 1) := by decide +kernel
theorem dX11_years_28 : decode cX11_years 28 = .ok (.invokevirtual 154, 3) := by decide +kernel
theorem dX11_years_31 : decode cX11_years 31 = .ok (.iconst 0, 1) := by decide +kernel
theorem dX11_years_32 : decode cX11_years 32 = .ok (.istore_n 3, 1) := by decide +kernel
theorem dX11_years_33 : decode cX11_years 33 = .ok (.iload_n 3, 1) := by decide +kernel
theorem dX11_years_34 : decode cX11_years 34 = .ok (.iload_n 2, 1) := by decide +kernel
theorem dX11_years_35 : decode cX11_years 35 = .ok (.if_icmp .ge 16, 3) := by decide +kernel
theorem dX11_years_38 : decode cX11_years 38 = .ok (.aload_n 0, 1) := by decide +kernel
theorem dX11_years_39 : decode cX11_years 39 = .ok (.getfield 10, 3) := by decide +kernel
theorem dX11_years_42 : decode cX11_years 42 = .ok (.invokevirtual 157, 3) := by decide +kernel
theorem dX11_years_45 : decode cX11_years 45 = .ok (.iinc 3 1, 3) := by decide +kernel
theorem dX11_years_48 : decode cX11_years 48 = .ok (.goto (-15), 3) := by decide +kernel
theorem dX11_years_51 : decode cX11_years 51 = .ok (.aload_n 0, 1) := by decide +kernel
theorem dX11_years_52 : decode cX11_years 52 = .ok (.getfield 20, 3) := by decide +kernel
theorem dX11_years_55 : decode cX11_years 55 = .ok (.getfield 66, 3) := by decide +kernel
theorem dX11_years_58 : decode cX11_years 58 = .ok (.invokevirtual 138, 3) := by decide +kernel
theorem dX11_years_61 : decode cX11_years 61 = .ok (.ireturn, 1) := by decide +kernel
theorem dX11_undo_0 : decode cX11_undo 0 = .ok (.aload_n 0, 1) := by decide +kernel
theorem dX11_undo_1 : decode cX11_undo 1 = .ok (.getfield 20, 3) := by decide +kernel
theorem dX11_undo_4 : decode cX11_undo 4 = .ok (.getfield 160, 3) := by decide +kernel
theorem dX11_undo_7 : decode cX11_undo 7 = .ok (.aload_n 0, 1) := by decide +kernel
theorem dX11_undo_8 : decode cX11_undo 8 = .ok (.getfield 20, 3) := by decide +kernel
theorem dX11_undo_11 : decode cX11_undo 11 = .ok (.getfield 66, 3) := by decide +kernel
theorem dX11_undo_14 : decode cX11_undo 14 = .ok (.invokevirtual 164, 3) := by decide +kernel
theorem dX11_undo_17 : decode cX11_undo 17 = .ok (.ifCond .eq 16, 3) := by decide +kernel
theorem dX11_undo_20 : decode cX11_undo 20 = .ok (.aload_n 0, 1) := by decide +kernel
theorem dX11_undo_21 : decode cX11_undo 21 = .ok (.getfield 20, 3) := by decide +kernel
theorem dX11_undo_24 : decode cX11_undo 24 = .ok (.getfield 160, 3) := by decide +kernel
theorem dX11_undo_27 : decode cX11_undo 27 = .ok (.getfield 170, 3) := by decide +kernel
theorem dX11_undo_30 : decode cX11_undo 30 = .ok (.goto 4, 3) := by decide +kernel
theorem dX11_undo_33 : decode cX11_undo 33 = .ok (.iconst (-1), 1) := by decide +kernel
theorem dX11_undo_34 : decode cX11_undo 34 = .ok (.ireturn, 1) := by decide +kernel
theorem dX11_of_0 : decode cX11_of 0 = .ok (.aload_n 0, 1) := by decide +kernel
theorem dX11_of_1 : decode cX11_of 1 = .ok (.iload_n 1, 1) := by decide +kernel
theorem dX11_of_2 : decode cX11_of 2 = .ok (.invokevirtual 89, 3) := by decide +kernel
theorem dX11_of_5 : decode cX11_of 5 = .ok (.ifCond .ne 5, 3) := by decide +kernel
theorem dX11_of_8 : decode cX11_of 8 = .ok (.iconst (-1), 1) := by decide +kernel
theorem dX11_of_9 : decode cX11_of 9 = .ok (.ireturn, 1) := by decide +kernel
theorem dX11_of_10 : decode cX11_of 10 = .ok (.iload_n 2, 1) := by decide +kernel
theorem dX11_of_11 : decode cX11_of 11 = .ok (.tableswitch 113 0 5 #[37, 47, 57, 69, 81, 101], 37) := by decide +kernel
theorem dX11_of_48 : decode cX11_of 48 = .ok (.aload_n 0, 1) := by decide +kernel
theorem dX11_of_49 : decode cX11_of 49 = .ok (.getfield 20, 3) := by decide +kernel
theorem dX11_of_52 : decode cX11_of 52 = .ok (.getfield 173, 3) := by decide +kernel
theorem dX11_of_55 : decode cX11_of 55 = .ok (.iload_n 1, 1) := by decide +kernel
theorem dX11_of_56 : decode cX11_of 56 = .ok (.iaload, 1) := by decide +kernel
theorem dX11_of_57 : decode cX11_of 57 = .ok (.ireturn, 1) := by decide +kernel
theorem dX11_of_58 : decode cX11_of 58 = .ok (.aload_n 0, 1) := by decide +kernel
theorem dX11_of_59 : decode cX11_of 59 = .ok (.getfield 20, 3) := by decide +kernel
theorem dX11_of_62 : decode cX11_of 62 = .ok (.getfield 176, 3) := by decide +kernel
theorem dX11_of_65 : decode cX11_of 65 = .ok (.iload_n 1, 1) := by decide +kernel
theorem dX11_of_66 : decode cX11_of 66 = .ok (.iaload, 1) := by decide +kernel
theorem dX11_of_67 : decode cX11_of 67 = .ok (.ireturn, 1) := by decide +kernel
theorem dX11_of_68 : decode cX11_of 68 = .ok (.aload_n 0, 1) := by decide +kernel
theorem dX11_of_69 : decode cX11_of 69 = .ok (.getfield 20, 3) := by decide +kernel
theorem dX11_of_72 : decode cX11_of 72 = .ok (.getfield 66, 3) := by decide +kernel
theorem dX11_of_75 : decode cX11_of 75 = .ok (.iload_n 1, 1) := by decide +kernel
theorem dX11_of_76 : decode cX11_of 76 = .ok (.invokevirtual 179, 3) := by decide +kernel
theorem dX11_of_79 : decode cX11_of 79 = .ok (.ireturn, 1) := by decide +kernel
theorem dX11_of_80 : decode cX11_of 80 = .ok (.aload_n 0, 1) := by decide +kernel
theorem dX11_of_81 : decode cX11_of 81 = .ok (.getfield 20, 3) := by decide +kernel
theorem dX11_of_84 : decode cX11_of 84 = .ok (.getfield 66, 3) := by decide +kernel
theorem dX11_of_87 : decode cX11_of 87 = .ok (.iload_n 1, 1) := by decide +kernel
theorem dX11_of_88 : decode cX11_of 88 = .ok (.invokevirtual 182, 3) := by decide +kernel
theorem dX11_of_91 : decode cX11_of 91 = .ok (.ireturn, 1) := by decide +kernel
theorem dX11_of_92 : decode cX11_of 92 = .ok (.aload_n 0, 1) := by decide +kernel
theorem dX11_of_93 : decode cX11_of 93 = .ok (.getfield 20, 3) := by decide +kernel
theorem dX11_of_96 : decode cX11_of 96 = .ok (.getfield 66, 3) := by decide +kernel
theorem dX11_of_99 : decode cX11_of 99 = .ok (.iload_n 1, 1) := by decide +kernel
theorem dX11_of_100 : decode cX11_of 100 = .ok (.invokevirtual 185, 3) := by decide +kernel
theorem dX11_of_103 : decode cX11_of 103 = .ok (.ifCond .eq 7, 3) := by decide +kernel
theorem dX11_of_106 : decode cX11_of 106 = .ok (.iconst 1, 1) := by decide +kernel
theorem dX11_of_107 : decode cX11_of 107 = .ok (.goto 4, 3) := by decide +kernel
theorem dX11_of_110 : decode cX11_of 110 = .ok (.iconst 0, 1) := by decide +kernel
theorem dX11_of_111 : decode cX11_of 111 = .ok (.ireturn, 1) := by decide +kernel
theorem dX11_of_112 : decode cX11_of 112 = .ok (.aload_n 0, 1) := by decide +kernel
theorem dX11_of_113 : decode cX11_of 113 = .ok (.getfield 20, 3) := by decide +kernel
theorem dX11_of_116 : decode cX11_of 116 = .ok (.getfield 66, 3) := by decide +kernel
theorem dX11_of_119 : decode cX11_of 119 = .ok (.iload_n 1, 1) := by decide +kernel
theorem dX11_of_120 : decode cX11_of 120 = .ok (.invokevirtual 188, 3) := by decide +kernel
theorem dX11_of_123 : decode cX11_of 123 = .ok (.ireturn, 1) := by decide +kernel
theorem dX11_of_124 : decode cX11_of 124 = .ok (.iconst (-1), 1) := by decide +kernel
theorem dX11_of_125 : decode cX11_of 125 = .ok (.ireturn, 1) := by decide +kernel
theorem dX11_track_0 : decode cX11_track 0 = .ok (.iload_n 1, 1) := by decide +kernel
theorem dX11_track_1 : decode cX11_track 1 = .ok (.invokestatic 123, 3) := by decide +kernel
theorem dX11_track_4 : decode cX11_track 4 = .ok (.ifCond .ne 6, 3) := by decide +kernel
theorem dX11_track_7 : decode cX11_track 7 = .ok (.bipush (-2), 2) := by decide +kernel
theorem dX11_track_9 : decode cX11_track 9 = .ok (.ireturn, 1) := by decide +kernel
theorem dX11_track_10 : decode cX11_track 10 = .ok (.aload_n 0, 1) := by decide +kernel
theorem dX11_track_11 : decode cX11_track 11 = .ok (.getfield 20, 3) := by decide +kernel
theorem dX11_track_14 : decode cX11_track 14 = .ok (.getfield 66, 3) := by decide +kernel
theorem dX11_track_17 : decode cX11_track 17 = .ok (.iload_n 1, 1) := by decide +kernel
theorem dX11_track_18 : decode cX11_track 18 = .ok (.invokevirtual 191, 3) := by decide +kernel
theorem dX11_track_21 : decode cX11_track 21 = .ok (.istore_n 3, 1) := by decide +kernel
theorem dX11_track_22 : decode cX11_track 22 = .ok (.iload_n 2, 1) := by decide +kernel
theorem dX11_track_23 : decode cX11_track 23 = .ok (.iconst (-1), 1) := by decide +kernel
theorem dX11_track_24 : decode cX11_track 24 = .ok (.if_icmp .ne 5, 3) := by decide +kernel
theorem dX11_track_27 : decode cX11_track 27 = .ok (.iload_n 3, 1) := by decide +kernel
theorem dX11_track_28 : decode cX11_track 28 = .ok (.ireturn, 1) := by decide +kernel
theorem dX11_track_29 : decode cX11_track 29 = .ok (.iload_n 2, 1) := by decide +kernel
theorem dX11_track_30 : decode cX11_track 30 = .ok (.iconst 0, 1) := by decide +kernel
theorem dX11_track_31 : decode cX11_track 31 = .ok (.iload_n 3, 1) := by decide +kernel
theorem dX11_track_32 : decode cX11_track 32 = .ok (.iconst 1, 1) := by decide +kernel
theorem dX11_track_33 : decode cX11_track 33 = .ok (.isub, 1) := by decide +kernel
theorem dX11_track_34 : decode cX11_track 34 = .ok (.invokestatic 62, 3) := by decide +kernel
theorem dX11_track_37 : decode cX11_track 37 = .ok (.ifCond .eq 18, 3) := by decide +kernel
theorem dX11_track_40 : decode cX11_track 40 = .ok (.aload_n 0, 1) := by decide +kernel
theorem dX11_track_41 : decode cX11_track 41 = .ok (.getfield 20, 3) := by decide +kernel
theorem dX11_track_44 : decode cX11_track 44 = .ok (.getfield 66, 3) := by decide +kernel
theorem dX11_track_47 : decode cX11_track 47 = .ok (.iload_n 1, 1) := by decide +kernel
theorem dX11_track_48 : decode cX11_track 48 = .ok (.iload_n 2, 1) := by decide +kernel
theorem dX11_track_49 : decode cX11_track 49 = .ok (.invokevirtual 194, 3) := by decide +kernel
theorem dX11_track_52 : decode cX11_track 52 = .ok (.goto 5, 3) := by decide +kernel
theorem dX11_track_55 : decode cX11_track 55 = .ok (.bipush (-2), 2) := by decide +kernel
theorem dX11_track_57 : decode cX11_track 57 = .ok (.ireturn, 1) := by decide +kernel
theorem dX11_law_0 : decode cX11_law 0 = .ok (.iload_n 1, 1) := by decide +kernel
theorem dX11_law_1 : decode cX11_law 1 = .ok (.invokestatic 123, 3) := by decide +kernel
theorem dX11_law_4 : decode cX11_law 4 = .ok (.ifCond .eq 10, 3) := by decide +kernel
theorem dX11_law_7 : decode cX11_law 7 = .ok (.iload_n 2, 1) := by decide +kernel
theorem dX11_law_8 : decode cX11_law 8 = .ok (.invokestatic 123, 3) := by decide +kernel
theorem dX11_law_11 : decode cX11_law 11 = .ok (.ifCond .ne 6, 3) := by decide +kernel
theorem dX11_law_14 : decode cX11_law 14 = .ok (.bipush (-100), 2) := by decide +kernel
theorem dX11_law_16 : decode cX11_law 16 = .ok (.ireturn, 1) := by decide +kernel
theorem dX11_law_17 : decode cX11_law 17 = .ok (.aload_n 0, 1) := by decide +kernel
theorem dX11_law_18 : decode cX11_law 18 = .ok (.getfield 20, 3) := by decide +kernel
theorem dX11_law_21 : decode cX11_law 21 = .ok (.getfield 66, 3) := by decide +kernel
theorem dX11_law_24 : decode cX11_law 24 = .ok (.iload_n 1, 1) := by decide +kernel
theorem dX11_law_25 : decode cX11_law 25 = .ok (.invokevirtual 197, 3) := by decide +kernel
theorem dX11_law_28 : decode cX11_law 28 = .ok (.istore_n 3, 1) := by decide +kernel
theorem dX11_law_29 : decode cX11_law 29 = .ok (.iload_n 3, 1) := by decide +kernel
theorem dX11_law_30 : decode cX11_law 30 = .ok (.iconst (-1), 1) := by decide +kernel
theorem dX11_law_31 : decode cX11_law 31 = .ok (.if_icmp .ne 6, 3) := by decide +kernel
theorem dX11_law_34 : decode cX11_law 34 = .ok (.bipush (-100), 2) := by decide +kernel
theorem dX11_law_36 : decode cX11_law 36 = .ok (.ireturn, 1) := by decide +kernel
theorem dX11_law_37 : decode cX11_law 37 = .ok (.iload_n 1, 1) := by decide +kernel
theorem dX11_law_38 : decode cX11_law 38 = .ok (.iload_n 2, 1) := by decide +kernel
theorem dX11_law_39 : decode cX11_law 39 = .ok (.if_icmp .ne 21, 3) := by decide +kernel
theorem dX11_law_42 : decode cX11_law 42 = .ok (.aload_n 0, 1) := by decide +kernel
theorem dX11_law_43 : decode cX11_law 43 = .ok (.getfield 10, 3) := by decide +kernel
theorem dX11_law_46 : decode cX11_law 46 = .ok (.aload_n 0, 1) := by decide +kernel
theorem dX11_law_47 : decode cX11_law 47 = .ok (.getfield 20, 3) := by decide +kernel
theorem dX11_law_50 : decode cX11_law 50 = .ok (.invokevirtual 200, 3) := by decide +kernel
theorem dX11_law_53 : decode cX11_law 53 = .ok (.iload_n 3, 1) := by decide +kernel
theorem dX11_law_54 : decode cX11_law 54 = .ok (.invokevirtual 203, 3) := by decide +kernel
theorem dX11_law_57 : decode cX11_law 57 = .ok (.goto 13, 3) := by decide +kernel
theorem dX11_law_60 : decode cX11_law 60 = .ok (.aload_n 0, 1) := by decide +kernel
theorem dX11_law_61 : decode cX11_law 61 = .ok (.getfield 10, 3) := by decide +kernel
theorem dX11_law_64 : decode cX11_law 64 = .ok (.iload_n 3, 1) := by decide +kernel
theorem dX11_law_65 : decode cX11_law 65 = .ok (.iload_n 1, 1) := by decide +kernel
theorem dX11_law_66 : decode cX11_law 66 = .ok (.iload_n 2, 1) := by decide +kernel
theorem dX11_law_67 : decode cX11_law 67 = .ok (.invokevirtual 207, 3) := by decide +kernel
theorem dX11_law_70 : decode cX11_law 70 = .ok (.ireturn, 1) := by decide +kernel
theorem dX11_is_0 : decode cX11_is 0 = .ok (.iload_n 1, 1) := by decide +kernel
theorem dX11_is_1 : decode cX11_is 1 = .ok (.tableswitch 96 0 4 #[35, 46, 59, 71, 83], 35) := by decide +kernel
theorem dX11_is_36 : decode cX11_is 36 = .ok (.aload_n 0, 1) := by decide +kernel
theorem dX11_is_37 : decode cX11_is 37 = .ok (.getfield 20, 3) := by decide +kernel
theorem dX11_is_40 : decode cX11_is 40 = .ok (.getfield 66, 3) := by decide +kernel
theorem dX11_is_43 : decode cX11_is 43 = .ok (.invokevirtual 138, 3) := by decide +kernel
theorem dX11_is_46 : decode cX11_is 46 = .ok (.ireturn, 1) := by decide +kernel
theorem dX11_is_47 : decode cX11_is 47 = .ok (.aload_n 0, 1) := by decide +kernel
theorem dX11_is_48 : decode cX11_is 48 = .ok (.getfield 20, 3) := by decide +kernel
theorem dX11_is_51 : decode cX11_is 51 = .ok (.getfield 66, 3) := by decide +kernel
theorem dX11_is_54 : decode cX11_is 54 = .ok (.getfield 211, 3) := by decide +kernel
theorem dX11_is_57 : decode cX11_is 57 = .ok (.iconst 1, 1) := by decide +kernel
theorem dX11_is_58 : decode cX11_is 58 = .ok (.iaload, 1) := by decide +kernel
theorem dX11_is_59 : decode cX11_is 59 = .ok (.ireturn, 1) := by decide +kernel
theorem dX11_is_60 : decode cX11_is 60 = .ok (.aload_n 0, 1) := by decide +kernel
theorem dX11_is_61 : decode cX11_is 61 = .ok (.getfield 20, 3) := by decide +kernel
theorem dX11_is_64 : decode cX11_is 64 = .ok (.getfield 66, 3) := by decide +kernel
theorem dX11_is_67 : decode cX11_is 67 = .ok (.iconst 0, 1) := by decide +kernel
theorem dX11_is_68 : decode cX11_is 68 = .ok (.invokevirtual 214, 3) := by decide +kernel
theorem dX11_is_71 : decode cX11_is 71 = .ok (.ireturn, 1) := by decide +kernel
theorem dX11_is_72 : decode cX11_is 72 = .ok (.aload_n 0, 1) := by decide +kernel
theorem dX11_is_73 : decode cX11_is 73 = .ok (.getfield 20, 3) := by decide +kernel
theorem dX11_is_76 : decode cX11_is 76 = .ok (.getfield 66, 3) := by decide +kernel
theorem dX11_is_79 : decode cX11_is 79 = .ok (.iconst 1, 1) := by decide +kernel
theorem dX11_is_80 : decode cX11_is 80 = .ok (.invokevirtual 214, 3) := by decide +kernel
theorem dX11_is_83 : decode cX11_is 83 = .ok (.ireturn, 1) := by decide +kernel
theorem dX11_is_84 : decode cX11_is 84 = .ok (.aload_n 0, 1) := by decide +kernel
theorem dX11_is_85 : decode cX11_is 85 = .ok (.getfield 20, 3) := by decide +kernel
theorem dX11_is_88 : decode cX11_is 88 = .ok (.getfield 66, 3) := by decide +kernel
theorem dX11_is_91 : decode cX11_is 91 = .ok (.getfield 211, 3) := by decide +kernel
theorem dX11_is_94 : decode cX11_is 94 = .ok (.iconst 5, 1) := by decide +kernel
theorem dX11_is_95 : decode cX11_is 95 = .ok (.iaload, 1) := by decide +kernel
theorem dX11_is_96 : decode cX11_is 96 = .ok (.ireturn, 1) := by decide +kernel
theorem dX11_is_97 : decode cX11_is 97 = .ok (.bipush (-2), 2) := by decide +kernel
theorem dX11_is_99 : decode cX11_is 99 = .ok (.ireturn, 1) := by decide +kernel
theorem dX11_book_0 : decode cX11_book 0 = .ok (.aload_n 0, 1) := by decide +kernel
theorem dX11_book_1 : decode cX11_book 1 = .ok (.getfield 20, 3) := by decide +kernel
theorem dX11_book_4 : decode cX11_book 4 = .ok (.getfield 66, 3) := by decide +kernel
theorem dX11_book_7 : decode cX11_book 7 = .ok (.invokevirtual 217, 3) := by decide +kernel
theorem dX11_book_10 : decode cX11_book 10 = .ok (.istore_n 3, 1) := by decide +kernel
theorem dX11_book_11 : decode cX11_book 11 = .ok (.iload_n 1, 1) := by decide +kernel
theorem dX11_book_12 : decode cX11_book 12 = .ok (.iconst (-1), 1) := by decide +kernel
theorem dX11_book_13 : decode cX11_book 13 = .ok (.if_icmp .ne 5, 3) := by decide +kernel
theorem dX11_book_16 : decode cX11_book 16 = .ok (.iload_n 3, 1) := by decide +kernel
theorem dX11_book_17 : decode cX11_book 17 = .ok (.ireturn, 1) := by decide +kernel
theorem dX11_book_18 : decode cX11_book 18 = .ok (.iload_n 1, 1) := by decide +kernel
theorem dX11_book_19 : decode cX11_book 19 = .ok (.iconst 0, 1) := by decide +kernel
theorem dX11_book_20 : decode cX11_book 20 = .ok (.iload_n 3, 1) := by decide +kernel
theorem dX11_book_21 : decode cX11_book 21 = .ok (.iconst 1, 1) := by decide +kernel
theorem dX11_book_22 : decode cX11_book 22 = .ok (.isub, 1) := by decide +kernel
theorem dX11_book_23 : decode cX11_book 23 = .ok (.invokestatic 62, 3) := by decide +kernel
theorem dX11_book_26 : decode cX11_book 26 = .ok (.ifCond .eq 27, 3) := by decide +kernel
theorem dX11_book_29 : decode cX11_book 29 = .ok (.iload_n 2, 1) := by decide +kernel
theorem dX11_book_30 : decode cX11_book 30 = .ok (.iconst 0, 1) := by decide +kernel
theorem dX11_book_31 : decode cX11_book 31 = .ok (.iconst 3, 1) := by decide +kernel
theorem dX11_book_32 : decode cX11_book 32 = .ok (.invokestatic 62, 3) := by decide +kernel
theorem dX11_book_35 : decode cX11_book 35 = .ok (.ifCond .eq 18, 3) := by decide +kernel
theorem dX11_book_38 : decode cX11_book 38 = .ok (.aload_n 0, 1) := by decide +kernel
theorem dX11_book_39 : decode cX11_book 39 = .ok (.getfield 20, 3) := by decide +kernel
theorem dX11_book_42 : decode cX11_book 42 = .ok (.getfield 66, 3) := by decide +kernel
theorem dX11_book_45 : decode cX11_book 45 = .ok (.iload_n 1, 1) := by decide +kernel
theorem dX11_book_46 : decode cX11_book 46 = .ok (.iload_n 2, 1) := by decide +kernel
theorem dX11_book_47 : decode cX11_book 47 = .ok (.invokevirtual 220, 3) := by decide +kernel
theorem dX11_book_50 : decode cX11_book 50 = .ok (.goto 5, 3) := by decide +kernel
theorem dX11_book_53 : decode cX11_book 53 = .ok (.bipush (-2), 2) := by decide +kernel
theorem dX11_book_55 : decode cX11_book 55 = .ok (.ireturn, 1) := by decide +kernel
theorem dX11_foretold_0 : decode cX11_foretold 0 = .ok (.iload_n 1, 1) := by decide +kernel
theorem dX11_foretold_1 : decode cX11_foretold 1 = .ok (.iconst 1, 1) := by decide +kernel
theorem dX11_foretold_2 : decode cX11_foretold 2 = .ok (.bipush 60, 2) := by decide +kernel
theorem dX11_foretold_4 : decode cX11_foretold 4 = .ok (.invokestatic 62, 3) := by decide +kernel
theorem dX11_foretold_7 : decode cX11_foretold 7 = .ok (.ifCond .eq 12, 3) := by decide +kernel
theorem dX11_foretold_10 : decode cX11_foretold 10 = .ok (.iload_n 2, 1) := by decide +kernel
theorem dX11_foretold_11 : decode cX11_foretold 11 = .ok (.iconst 0, 1) := by decide +kernel
theorem dX11_foretold_12 : decode cX11_foretold 12 = .ok (.iconst 2, 1) := by decide +kernel
theorem dX11_foretold_13 : decode cX11_foretold 13 = .ok (.invokestatic 62, 3) := by decide +kernel
theorem dX11_foretold_16 : decode cX11_foretold 16 = .ok (.ifCond .ne 5, 3) := by decide +kernel
theorem dX11_foretold_19 : decode cX11_foretold 19 = .ok (.iconst (-1), 1) := by decide +kernel
theorem dX11_foretold_20 : decode cX11_foretold 20 = .ok (.ireturn, 1) := by decide +kernel
theorem dX11_foretold_21 : decode cX11_foretold 21 = .ok (.aload_n 0, 1) := by decide +kernel
theorem dX11_foretold_22 : decode cX11_foretold 22 = .ok (.getfield 58, 3) := by decide +kernel
theorem dX11_foretold_25 : decode cX11_foretold 25 = .ok (.aload_n 0, 1) := by decide +kernel
theorem dX11_foretold_26 : decode cX11_foretold 26 = .ok (.getfield 20, 3) := by decide +kernel
theorem dX11_foretold_29 : decode cX11_foretold 29 = .ok (.getfield 66, 3) := by decide +kernel
theorem dX11_foretold_32 : decode cX11_foretold 32 = .ok (.invokevirtual 223, 3) := by decide +kernel
theorem dX11_foretold_35 : decode cX11_foretold 35 = .ok (.iconst 0, 1) := by decide +kernel
theorem dX11_foretold_36 : decode cX11_foretold 36 = .ok (.istore_n 3, 1) := by decide +kernel
theorem dX11_foretold_37 : decode cX11_foretold 37 = .ok (.iload_n 3, 1) := by decide +kernel
theorem dX11_foretold_38 : decode cX11_foretold 38 = .ok (.iload_n 1, 1) := by decide +kernel
theorem dX11_foretold_39 : decode cX11_foretold 39 = .ok (.if_icmp .ge 27, 3) := by decide +kernel
theorem dX11_foretold_42 : decode cX11_foretold 42 = .ok (.aload_n 0, 1) := by decide +kernel
theorem dX11_foretold_43 : decode cX11_foretold 43 = .ok (.getfield 58, 3) := by decide +kernel
theorem dX11_foretold_46 : decode cX11_foretold 46 = .ok (.invokevirtual 227, 3) := by decide +kernel
theorem dX11_foretold_49 : decode cX11_foretold 49 = .ok (.ifCond .eq 17, 3) := by decide +kernel
theorem dX11_foretold_52 : decode cX11_foretold 52 = .ok (.aload_n 0, 1) := by decide +kernel
theorem dX11_foretold_53 : decode cX11_foretold 53 = .ok (.getfield 58, 3) := by decide +kernel
theorem dX11_foretold_56 : decode cX11_foretold 56 = .ok (.invokevirtual 231, 3) := by decide +kernel
theorem dX11_foretold_59 : decode cX11_foretold 59 = .ok (.pop, 1) := by decide +kernel
theorem dX11_foretold_60 : decode cX11_foretold 60 = .ok (.iinc 3 1, 3) := by decide +kernel
theorem dX11_foretold_63 : decode cX11_foretold 63 = .ok (.goto (-26), 3) := by decide +kernel
theorem dX11_foretold_66 : decode cX11_foretold 66 = .ok (.iload_n 2, 1) := by decide +kernel
theorem dX11_foretold_67 : decode cX11_foretold 67 = .ok (.iconst 2, 1) := by decide +kernel
theorem dX11_foretold_68 : decode cX11_foretold 68 = .ok (.if_icmp .ne 13, 3) := by decide +kernel
theorem dX11_foretold_71 : decode cX11_foretold 71 = .ok (.aload_n 0, 1) := by decide +kernel
theorem dX11_foretold_72 : decode cX11_foretold 72 = .ok (.getfield 58, 3) := by decide +kernel
theorem dX11_foretold_75 : decode cX11_foretold 75 = .ok (.invokevirtual 234, 3) := by decide +kernel
theorem dX11_foretold_78 : decode cX11_foretold 78 = .ok (.goto 11, 3) := by decide +kernel
theorem dX11_foretold_81 : decode cX11_foretold 81 = .ok (.aload_n 0, 1) := by decide +kernel
theorem dX11_foretold_82 : decode cX11_foretold 82 = .ok (.getfield 58, 3) := by decide +kernel
theorem dX11_foretold_85 : decode cX11_foretold 85 = .ok (.iload_n 2, 1) := by decide +kernel
theorem dX11_foretold_86 : decode cX11_foretold 86 = .ok (.invokevirtual 214, 3) := by decide +kernel
theorem dX11_foretold_89 : decode cX11_foretold 89 = .ok (.ireturn, 1) := by decide +kernel
theorem dX11_want_0 : decode cX11_want 0 = .ok (.iload_n 1, 1) := by decide +kernel
theorem dX11_want_1 : decode cX11_want 1 = .ok (.iconst 0, 1) := by decide +kernel
theorem dX11_want_2 : decode cX11_want 2 = .ok (.bipush 119, 2) := by decide +kernel
theorem dX11_want_4 : decode cX11_want 4 = .ok (.invokestatic 62, 3) := by decide +kernel
theorem dX11_want_7 : decode cX11_want 7 = .ok (.ifCond .ne 5, 3) := by decide +kernel
theorem dX11_want_10 : decode cX11_want 10 = .ok (.iconst 0, 1) := by decide +kernel
theorem dX11_want_11 : decode cX11_want 11 = .ok (.ireturn, 1) := by decide +kernel
theorem dX11_want_12 : decode cX11_want 12 = .ok (.aload_n 0, 1) := by decide +kernel
theorem dX11_want_13 : decode cX11_want 13 = .ok (.getfield 20, 3) := by decide +kernel
theorem dX11_want_16 : decode cX11_want 16 = .ok (.iload_n 1, 1) := by decide +kernel
theorem dX11_want_17 : decode cX11_want 17 = .ok (.putfield 237, 3) := by decide +kernel
theorem dX11_want_20 : decode cX11_want 20 = .ok (.iconst 1, 1) := by decide +kernel
theorem dX11_want_21 : decode cX11_want 21 = .ok (.ireturn, 1) := by decide +kernel
theorem dX11_shunts_0 : decode cX11_shunts 0 = .ok (.aload_n 0, 1) := by decide +kernel
theorem dX11_shunts_1 : decode cX11_shunts 1 = .ok (.invokevirtual 240, 3) := by decide +kernel
theorem dX11_shunts_4 : decode cX11_shunts 4 = .ok (.aload_n 0, 1) := by decide +kernel
theorem dX11_shunts_5 : decode cX11_shunts 5 = .ok (.getfield 37, 3) := by decide +kernel
theorem dX11_shunts_8 : decode cX11_shunts 8 = .ok (.aload_n 0, 1) := by decide +kernel
theorem dX11_shunts_9 : decode cX11_shunts 9 = .ok (.invokevirtual 243, 3) := by decide +kernel
theorem dX11_shunts_12 : decode cX11_shunts 12 = .ok (.invokevirtual 246, 3) := by decide +kernel
theorem dX11_shunts_15 : decode cX11_shunts 15 = .ok (.istore_n 2, 1) := by decide +kernel
theorem dX11_shunts_16 : decode cX11_shunts 16 = .ok (.iload_n 2, 1) := by decide +kernel
theorem dX11_shunts_17 : decode cX11_shunts 17 = .ok (.iconst (-1), 1) := by decide +kernel
theorem dX11_shunts_18 : decode cX11_shunts 18 = .ok (.if_icmp .ne 6, 3) := by decide +kernel
theorem dX11_shunts_21 : decode cX11_shunts 21 = .ok (.bipush (-2), 2) := by decide +kernel
theorem dX11_shunts_23 : decode cX11_shunts 23 = .ok (.ireturn, 1) := by decide +kernel
theorem dX11_shunts_24 : decode cX11_shunts 24 = .ok (.aload_n 0, 1) := by decide +kernel
theorem dX11_shunts_25 : decode cX11_shunts 25 = .ok (.getfield 37, 3) := by decide +kernel
theorem dX11_shunts_28 : decode cX11_shunts 28 = .ok (.iload_n 2, 1) := by decide +kernel
theorem dX11_shunts_29 : decode cX11_shunts 29 = .ok (.invokevirtual 249, 3) := by decide +kernel
theorem dX11_shunts_32 : decode cX11_shunts 32 = .ok (.istore_n 3, 1) := by decide +kernel
theorem dX11_shunts_33 : decode cX11_shunts 33 = .ok (.iload_n 1, 1) := by decide +kernel
theorem dX11_shunts_34 : decode cX11_shunts 34 = .ok (.iconst (-1), 1) := by decide +kernel
theorem dX11_shunts_35 : decode cX11_shunts 35 = .ok (.if_icmp .ne 5, 3) := by decide +kernel
theorem dX11_shunts_38 : decode cX11_shunts 38 = .ok (.iload_n 3, 1) := by decide +kernel
theorem dX11_shunts_39 : decode cX11_shunts 39 = .ok (.ireturn, 1) := by decide +kernel
theorem dX11_shunts_40 : decode cX11_shunts 40 = .ok (.iload_n 1, 1) := by decide +kernel
theorem dX11_shunts_41 : decode cX11_shunts 41 = .ok (.iconst 0, 1) := by decide +kernel
theorem dX11_shunts_42 : decode cX11_shunts 42 = .ok (.iload_n 3, 1) := by decide +kernel
theorem dX11_shunts_43 : decode cX11_shunts 43 = .ok (.iconst 1, 1) := by decide +kernel
theorem dX11_shunts_44 : decode cX11_shunts 44 = .ok (.isub, 1) := by decide +kernel
theorem dX11_shunts_45 : decode cX11_shunts 45 = .ok (.invokestatic 62, 3) := by decide +kernel
theorem dX11_shunts_48 : decode cX11_shunts 48 = .ok (.ifCond .eq 19, 3) := by decide +kernel
theorem dX11_shunts_51 : decode cX11_shunts 51 = .ok (.aload_n 0, 1) := by decide +kernel
theorem dX11_shunts_52 : decode cX11_shunts 52 = .ok (.getfield 37, 3) := by decide +kernel
theorem dX11_shunts_55 : decode cX11_shunts 55 = .ok (.iload_n 2, 1) := by decide +kernel
theorem dX11_shunts_56 : decode cX11_shunts 56 = .ok (.iload_n 3, 1) := by decide +kernel
theorem dX11_shunts_57 : decode cX11_shunts 57 = .ok (.iconst 1, 1) := by decide +kernel
theorem dX11_shunts_58 : decode cX11_shunts 58 = .ok (.isub, 1) := by decide +kernel
theorem dX11_shunts_59 : decode cX11_shunts 59 = .ok (.iload_n 1, 1) := by decide +kernel
theorem dX11_shunts_60 : decode cX11_shunts 60 = .ok (.isub, 1) := by decide +kernel
theorem dX11_shunts_61 : decode cX11_shunts 61 = .ok (.invokevirtual 252, 3) := by decide +kernel
theorem dX11_shunts_64 : decode cX11_shunts 64 = .ok (.goto 5, 3) := by decide +kernel
theorem dX11_shunts_67 : decode cX11_shunts 67 = .ok (.bipush (-2), 2) := by decide +kernel
theorem dX11_shunts_69 : decode cX11_shunts 69 = .ok (.ireturn, 1) := by decide +kernel
theorem dX11_reach_0 : decode cX11_reach 0 = .ok (.aload_n 0, 1) := by decide +kernel
theorem dX11_reach_1 : decode cX11_reach 1 = .ok (.invokevirtual 240, 3) := by decide +kernel
theorem dX11_reach_4 : decode cX11_reach 4 = .ok (.aload_n 0, 1) := by decide +kernel
theorem dX11_reach_5 : decode cX11_reach 5 = .ok (.getfield 37, 3) := by decide +kernel
theorem dX11_reach_8 : decode cX11_reach 8 = .ok (.getfield 255, 3) := by decide +kernel
theorem dX11_reach_11 : decode cX11_reach 11 = .ok (.ireturn, 1) := by decide +kernel
theorem dX11_exploreFromNow_0 : decode cX11_exploreFromNow 0 = .ok (.aload_n 0, 1) := by decide +kernel
theorem dX11_exploreFromNow_1 : decode cX11_exploreFromNow 1 = .ok (.getfield 37, 3) := by decide +kernel
theorem dX11_exploreFromNow_4 : decode cX11_exploreFromNow 4 = .ok (.aload_n 0, 1) := by decide +kernel
theorem dX11_exploreFromNow_5 : decode cX11_exploreFromNow 5 = .ok (.getfield 20, 3) := by decide +kernel
theorem dX11_exploreFromNow_8 : decode cX11_exploreFromNow 8 = .ok (.getfield 66, 3) := by decide +kernel
theorem dX11_exploreFromNow_11 : decode cX11_exploreFromNow 11 = .ok (.invokestatic 258, 3) := by decide +kernel
theorem dX11_exploreFromNow_14 : decode cX11_exploreFromNow 14 = .ok (.aload_n 0, 1) := by decide +kernel
theorem dX11_exploreFromNow_15 : decode cX11_exploreFromNow 15 = .ok (.getfield 20, 3) := by decide +kernel
theorem dX11_exploreFromNow_18 : decode cX11_exploreFromNow 18 = .ok (.getfield 66, 3) := by decide +kernel
theorem dX11_exploreFromNow_21 : decode cX11_exploreFromNow 21 = .ok (.invokevirtual 69, 3) := by decide +kernel
theorem dX11_exploreFromNow_24 : decode cX11_exploreFromNow 24 = .ok (.aload_n 0, 1) := by decide +kernel
theorem dX11_exploreFromNow_25 : decode cX11_exploreFromNow 25 = .ok (.getfield 20, 3) := by decide +kernel
theorem dX11_exploreFromNow_28 : decode cX11_exploreFromNow 28 = .ok (.invokevirtual 262, 3) := by decide +kernel
theorem dX11_exploreFromNow_31 : decode cX11_exploreFromNow 31 = .ok (.invokevirtual 265, 3) := by decide +kernel
theorem dX11_exploreFromNow_34 : decode cX11_exploreFromNow 34 = .ok (.return_, 1) := by decide +kernel
theorem dX11_wantedCode_0 : decode cX11_wantedCode 0 = .ok (.aload_n 0, 1) := by decide +kernel
theorem dX11_wantedCode_1 : decode cX11_wantedCode 1 = .ok (.getfield 44, 3) := by decide +kernel
theorem dX11_wantedCode_4 : decode cX11_wantedCode 4 = .ok (.aload_n 0, 1) := by decide +kernel
theorem dX11_wantedCode_5 : decode cX11_wantedCode 5 = .ok (.getfield 20, 3) := by decide +kernel
theorem dX11_wantedCode_8 : decode cX11_wantedCode 8 = .ok (.getfield 237, 3) := by decide +kernel
theorem dX11_wantedCode_11 : decode cX11_wantedCode 11 = .ok (.aload_n 0, 1) := by decide +kernel
theorem dX11_wantedCode_12 : decode cX11_wantedCode 12 = .ok (.getfield 20, 3) := by decide +kernel
theorem dX11_wantedCode_15 : decode cX11_wantedCode 15 = .ok (.getfield 66, 3) := by decide +kernel
theorem dX11_wantedCode_18 : decode cX11_wantedCode 18 = .ok (.invokevirtual 269, 3) := by decide +kernel
theorem dX11_wantedCode_21 : decode cX11_wantedCode 21 = .ok (.invokevirtual 272, 3) := by decide +kernel
theorem dX11_wantedCode_24 : decode cX11_wantedCode 24 = .ok (.istore_n 1, 1) := by decide +kernel
theorem dX11_wantedCode_25 : decode cX11_wantedCode 25 = .ok (.iconst 0, 1) := by decide +kernel
theorem dX11_wantedCode_26 : decode cX11_wantedCode 26 = .ok (.istore_n 2, 1) := by decide +kernel
theorem dX11_wantedCode_27 : decode cX11_wantedCode 27 = .ok (.bipush 7, 2) := by decide +kernel
theorem dX11_wantedCode_29 : decode cX11_wantedCode 29 = .ok (.istore_n 3, 1) := by decide +kernel
theorem dX11_wantedCode_30 : decode cX11_wantedCode 30 = .ok (.iconst 0, 1) := by decide +kernel
theorem dX11_wantedCode_31 : decode cX11_wantedCode 31 = .ok (.istore 4, 2) := by decide +kernel
theorem dX11_wantedCode_33 : decode cX11_wantedCode 33 = .ok (.iload 4, 2) := by decide +kernel
theorem dX11_wantedCode_35 : decode cX11_wantedCode 35 = .ok (.iload_n 1, 1) := by decide +kernel
theorem dX11_wantedCode_36 : decode cX11_wantedCode 36 = .ok (.if_icmp .ge 37, 3) := by decide +kernel
theorem dX11_wantedCode_39 : decode cX11_wantedCode 39 = .ok (.iload_n 2, 1) := by decide +kernel
theorem dX11_wantedCode_40 : decode cX11_wantedCode 40 = .ok (.iload_n 3, 1) := by decide +kernel
theorem dX11_wantedCode_41 : decode cX11_wantedCode 41 = .ok (.iconst 3, 1) := by decide +kernel
theorem dX11_wantedCode_42 : decode cX11_wantedCode 42 = .ok (.aload_n 0, 1) := by decide +kernel
theorem dX11_wantedCode_43 : decode cX11_wantedCode 43 = .ok (.getfield 44, 3) := by decide +kernel
theorem dX11_wantedCode_46 : decode cX11_wantedCode 46 = .ok (.getfield 275, 3) := by decide +kernel
theorem dX11_wantedCode_49 : decode cX11_wantedCode 49 = .ok (.iload 4, 2) := by decide +kernel
theorem dX11_wantedCode_51 : decode cX11_wantedCode 51 = .ok (.iaload, 1) := by decide +kernel
theorem dX11_wantedCode_52 : decode cX11_wantedCode 52 = .ok (.imul, 1) := by decide +kernel
theorem dX11_wantedCode_53 : decode cX11_wantedCode 53 = .ok (.ishl, 1) := by decide +kernel
theorem dX11_wantedCode_54 : decode cX11_wantedCode 54 = .ok (.ior, 1) := by decide +kernel
theorem dX11_wantedCode_55 : decode cX11_wantedCode 55 = .ok (.istore_n 2, 1) := by decide +kernel
theorem dX11_wantedCode_56 : decode cX11_wantedCode 56 = .ok (.aload_n 0, 1) := by decide +kernel
theorem dX11_wantedCode_57 : decode cX11_wantedCode 57 = .ok (.getfield 44, 3) := by decide +kernel
theorem dX11_wantedCode_60 : decode cX11_wantedCode 60 = .ok (.getfield 275, 3) := by decide +kernel
theorem dX11_wantedCode_63 : decode cX11_wantedCode 63 = .ok (.iload 4, 2) := by decide +kernel
theorem dX11_wantedCode_65 : decode cX11_wantedCode 65 = .ok (.iaload, 1) := by decide +kernel
theorem dX11_wantedCode_66 : decode cX11_wantedCode 66 = .ok (.istore_n 3, 1) := by decide +kernel
theorem dX11_wantedCode_67 : decode cX11_wantedCode 67 = .ok (.iinc 4 1, 3) := by decide +kernel
theorem dX11_wantedCode_70 : decode cX11_wantedCode 70 = .ok (.goto (-37), 3) := by decide +kernel
theorem dX11_wantedCode_73 : decode cX11_wantedCode 73 = .ok (.iload_n 2, 1) := by decide +kernel
theorem dX11_wantedCode_74 : decode cX11_wantedCode 74 = .ok (.ireturn, 1) := by decide +kernel
theorem dX11_order_0 : decode cX11_order 0 = .ok (.iload_n 1, 1) := by decide +kernel
theorem dX11_order_1 : decode cX11_order 1 = .ok (.iconst 0, 1) := by decide +kernel
theorem dX11_order_2 : decode cX11_order 2 = .ok (.bipush 119, 2) := by decide +kernel
theorem dX11_order_4 : decode cX11_order 4 = .ok (.invokestatic 62, 3) := by decide +kernel
theorem dX11_order_7 : decode cX11_order 7 = .ok (.ifCond .ne 6, 3) := by decide +kernel
theorem dX11_order_10 : decode cX11_order 10 = .ok (.bipush (-2), 2) := by decide +kernel
theorem dX11_order_12 : decode cX11_order 12 = .ok (.ireturn, 1) := by decide +kernel
theorem dX11_order_13 : decode cX11_order 13 = .ok (.aload_n 0, 1) := by decide +kernel
theorem dX11_order_14 : decode cX11_order 14 = .ok (.getfield 44, 3) := by decide +kernel
theorem dX11_order_17 : decode cX11_order 17 = .ok (.iload_n 1, 1) := by decide +kernel
theorem dX11_order_18 : decode cX11_order 18 = .ok (.aload_n 0, 1) := by decide +kernel
theorem dX11_order_19 : decode cX11_order 19 = .ok (.getfield 20, 3) := by decide +kernel
theorem dX11_order_22 : decode cX11_order 22 = .ok (.getfield 66, 3) := by decide +kernel
theorem dX11_order_25 : decode cX11_order 25 = .ok (.invokevirtual 269, 3) := by decide +kernel
theorem dX11_order_28 : decode cX11_order 28 = .ok (.invokevirtual 272, 3) := by decide +kernel
theorem dX11_order_31 : decode cX11_order 31 = .ok (.istore_n 3, 1) := by decide +kernel
theorem dX11_order_32 : decode cX11_order 32 = .ok (.iload_n 2, 1) := by decide +kernel
theorem dX11_order_33 : decode cX11_order 33 = .ok (.iconst 0, 1) := by decide +kernel
theorem dX11_order_34 : decode cX11_order 34 = .ok (.iload_n 3, 1) := by decide +kernel
theorem dX11_order_35 : decode cX11_order 35 = .ok (.iconst 1, 1) := by decide +kernel
theorem dX11_order_36 : decode cX11_order 36 = .ok (.isub, 1) := by decide +kernel
theorem dX11_order_37 : decode cX11_order 37 = .ok (.invokestatic 62, 3) := by decide +kernel
theorem dX11_order_40 : decode cX11_order 40 = .ok (.ifCond .eq 15, 3) := by decide +kernel
theorem dX11_order_43 : decode cX11_order 43 = .ok (.aload_n 0, 1) := by decide +kernel
theorem dX11_order_44 : decode cX11_order 44 = .ok (.getfield 44, 3) := by decide +kernel
theorem dX11_order_47 : decode cX11_order 47 = .ok (.getfield 275, 3) := by decide +kernel
theorem dX11_order_50 : decode cX11_order 50 = .ok (.iload_n 2, 1) := by decide +kernel
theorem dX11_order_51 : decode cX11_order 51 = .ok (.iaload, 1) := by decide +kernel
theorem dX11_order_52 : decode cX11_order 52 = .ok (.goto 5, 3) := by decide +kernel
theorem dX11_order_55 : decode cX11_order 55 = .ok (.bipush (-2), 2) := by decide +kernel
theorem dX11_order_57 : decode cX11_order 57 = .ok (.ireturn, 1) := by decide +kernel
theorem dX11_rows_0 : decode cX11_rows 0 = .ok (.iload_n 1, 1) := by decide +kernel
theorem dX11_rows_1 : decode cX11_rows 1 = .ok (.invokestatic 123, 3) := by decide +kernel
theorem dX11_rows_4 : decode cX11_rows 4 = .ok (.ifCond .ne 7, 3) := by decide +kernel
theorem dX11_rows_7 : decode cX11_rows 7 = .ok (.ldc2_w 278, 3) := by decide +kernel
theorem dX11_rows_10 : decode cX11_rows 10 = .ok (.lreturn, 1) := by decide +kernel
theorem dX11_rows_11 : decode cX11_rows 11 = .ok (.aload_n 0, 1) := by decide +kernel
theorem dX11_rows_12 : decode cX11_rows 12 = .ok (.getfield 20, 3) := by decide +kernel
theorem dX11_rows_15 : decode cX11_rows 15 = .ok (.invokevirtual 262, 3) := by decide +kernel
theorem dX11_rows_18 : decode cX11_rows 18 = .ok (.istore_n 2, 1) := by decide +kernel
theorem dX11_rows_19 : decode cX11_rows 19 = .ok (.aload_n 0, 1) := by decide +kernel
theorem dX11_rows_20 : decode cX11_rows 20 = .ok (.getfield 20, 3) := by decide +kernel
theorem dX11_rows_23 : decode cX11_rows 23 = .ok (.getfield 66, 3) := by decide +kernel
theorem dX11_rows_26 : decode cX11_rows 26 = .ok (.iload_n 1, 1) := by decide +kernel
theorem dX11_rows_27 : decode cX11_rows 27 = .ok (.invokevirtual 280, 3) := by decide +kernel
theorem dX11_rows_30 : decode cX11_rows 30 = .ok (.istore_n 3, 1) := by decide +kernel
theorem dX11_rows_31 : decode cX11_rows 31 = .ok (.lconst 0, 1) := by decide +kernel
theorem dX11_rows_32 : decode cX11_rows 32 = .ok (.lstore 4, 2) := by decide +kernel
theorem dX11_rows_34 : decode cX11_rows 34 = .ok (.iconst 0, 1) := by decide +kernel
theorem dX11_rows_35 : decode cX11_rows 35 = .ok (.istore 6, 2) := by decide +kernel
theorem dX11_rows_37 : decode cX11_rows 37 = .ok (.iload 6, 2) := by decide +kernel
theorem dX11_rows_39 : decode cX11_rows 39 = .ok (.bipush 120, 2) := by decide +kernel
theorem dX11_rows_41 : decode cX11_rows 41 = .ok (.if_icmp .ge 29, 3) := by decide +kernel
theorem dX11_rows_44 : decode cX11_rows 44 = .ok (.aload_n 0, 1) := by decide +kernel
theorem dX11_rows_45 : decode cX11_rows 45 = .ok (.getfield 44, 3) := by decide +kernel
theorem dX11_rows_48 : decode cX11_rows 48 = .ok (.iload 6, 2) := by decide +kernel
theorem dX11_rows_50 : decode cX11_rows 50 = .ok (.iload_n 3, 1) := by decide +kernel
theorem dX11_rows_51 : decode cX11_rows 51 = .ok (.iload_n 2, 1) := by decide +kernel
theorem dX11_rows_52 : decode cX11_rows 52 = .ok (.invokevirtual 283, 3) := by decide +kernel
theorem dX11_rows_55 : decode cX11_rows 55 = .ok (.ifCond .eq 9, 3) := by decide +kernel
theorem dX11_rows_58 : decode cX11_rows 58 = .ok (.lload 4, 2) := by decide +kernel
theorem dX11_rows_60 : decode cX11_rows 60 = .ok (.lconst 1, 1) := by decide +kernel
theorem dX11_rows_61 : decode cX11_rows 61 = .ok (.ladd, 1) := by decide +kernel
theorem dX11_rows_62 : decode cX11_rows 62 = .ok (.lstore 4, 2) := by decide +kernel
theorem dX11_rows_64 : decode cX11_rows 64 = .ok (.iinc 6 1, 3) := by decide +kernel
theorem dX11_rows_67 : decode cX11_rows 67 = .ok (.goto (-30), 3) := by decide +kernel
theorem dX11_rows_70 : decode cX11_rows 70 = .ok (.lload 4, 2) := by decide +kernel
theorem dX11_rows_72 : decode cX11_rows 72 = .ok (.aload_n 0, 1) := by decide +kernel
theorem dX11_rows_73 : decode cX11_rows 73 = .ok (.getfield 20, 3) := by decide +kernel
theorem dX11_rows_76 : decode cX11_rows 76 = .ok (.getfield 66, 3) := by decide +kernel
theorem dX11_rows_79 : decode cX11_rows 79 = .ok (.iload_n 1, 1) := by decide +kernel
theorem dX11_rows_80 : decode cX11_rows 80 = .ok (.invokevirtual 191, 3) := by decide +kernel
theorem dX11_rows_83 : decode cX11_rows 83 = .ok (.invokestatic 286, 3) := by decide +kernel
theorem dX11_rows_86 : decode cX11_rows 86 = .ok (.i2l, 1) := by decide +kernel
theorem dX11_rows_87 : decode cX11_rows 87 = .ok (.lmul, 1) := by decide +kernel
theorem dX11_rows_88 : decode cX11_rows 88 = .ok (.ldc2_w 289, 3) := by decide +kernel
theorem dX11_rows_91 : decode cX11_rows 91 = .ok (.ldiv, 1) := by decide +kernel
theorem dX11_rows_92 : decode cX11_rows 92 = .ok (.lreturn, 1) := by decide +kernel
theorem dX11_lowest_0 : decode cX11_lowest 0 = .ok (.iload_n 1, 1) := by decide +kernel
theorem dX11_lowest_1 : decode cX11_lowest 1 = .ok (.invokestatic 123, 3) := by decide +kernel
theorem dX11_lowest_4 : decode cX11_lowest 4 = .ok (.ifCond .eq 24, 3) := by decide +kernel
theorem dX11_lowest_7 : decode cX11_lowest 7 = .ok (.iload_n 2, 1) := by decide +kernel
theorem dX11_lowest_8 : decode cX11_lowest 8 = .ok (.iconst 0, 1) := by decide +kernel
theorem dX11_lowest_9 : decode cX11_lowest 9 = .ok (.aload_n 0, 1) := by decide +kernel
theorem dX11_lowest_10 : decode cX11_lowest 10 = .ok (.getfield 20, 3) := by decide +kernel
theorem dX11_lowest_13 : decode cX11_lowest 13 = .ok (.getfield 66, 3) := by decide +kernel
theorem dX11_lowest_16 : decode cX11_lowest 16 = .ok (.iload_n 1, 1) := by decide +kernel
theorem dX11_lowest_17 : decode cX11_lowest 17 = .ok (.invokevirtual 191, 3) := by decide +kernel
theorem dX11_lowest_20 : decode cX11_lowest 20 = .ok (.iconst 1, 1) := by decide +kernel
theorem dX11_lowest_21 : decode cX11_lowest 21 = .ok (.isub, 1) := by decide +kernel
theorem dX11_lowest_22 : decode cX11_lowest 22 = .ok (.invokestatic 62, 3) := by decide +kernel
theorem dX11_lowest_25 : decode cX11_lowest 25 = .ok (.ifCond .ne 6, 3) := by decide +kernel
theorem dX11_lowest_28 : decode cX11_lowest 28 = .ok (.bipush (-2), 2) := by decide +kernel
theorem dX11_lowest_30 : decode cX11_lowest 30 = .ok (.ireturn, 1) := by decide +kernel
theorem dX11_lowest_31 : decode cX11_lowest 31 = .ok (.aload_n 0, 1) := by decide +kernel
theorem dX11_lowest_32 : decode cX11_lowest 32 = .ok (.getfield 20, 3) := by decide +kernel
theorem dX11_lowest_35 : decode cX11_lowest 35 = .ok (.invokevirtual 262, 3) := by decide +kernel
theorem dX11_lowest_38 : decode cX11_lowest 38 = .ok (.istore_n 3, 1) := by decide +kernel
theorem dX11_lowest_39 : decode cX11_lowest 39 = .ok (.aload_n 0, 1) := by decide +kernel
theorem dX11_lowest_40 : decode cX11_lowest 40 = .ok (.getfield 20, 3) := by decide +kernel
theorem dX11_lowest_43 : decode cX11_lowest 43 = .ok (.getfield 66, 3) := by decide +kernel
theorem dX11_lowest_46 : decode cX11_lowest 46 = .ok (.iload_n 1, 1) := by decide +kernel
theorem dX11_lowest_47 : decode cX11_lowest 47 = .ok (.invokevirtual 280, 3) := by decide +kernel
theorem dX11_lowest_50 : decode cX11_lowest 50 = .ok (.istore 4, 2) := by decide +kernel
theorem dX11_lowest_52 : decode cX11_lowest 52 = .ok (.iconst 0, 1) := by decide +kernel
theorem dX11_lowest_53 : decode cX11_lowest 53 = .ok (.istore 5, 2) := by decide +kernel
theorem dX11_lowest_55 : decode cX11_lowest 55 = .ok (.iload 5, 2) := by decide +kernel
theorem dX11_lowest_57 : decode cX11_lowest 57 = .ok (.bipush 120, 2) := by decide +kernel
theorem dX11_lowest_59 : decode cX11_lowest 59 = .ok (.if_icmp .ge 34, 3) := by decide +kernel
theorem dX11_lowest_62 : decode cX11_lowest 62 = .ok (.aload_n 0, 1) := by decide +kernel
theorem dX11_lowest_63 : decode cX11_lowest 63 = .ok (.getfield 44, 3) := by decide +kernel
theorem dX11_lowest_66 : decode cX11_lowest 66 = .ok (.iload 5, 2) := by decide +kernel
theorem dX11_lowest_68 : decode cX11_lowest 68 = .ok (.iload 4, 2) := by decide +kernel
theorem dX11_lowest_70 : decode cX11_lowest 70 = .ok (.iload_n 3, 1) := by decide +kernel
theorem dX11_lowest_71 : decode cX11_lowest 71 = .ok (.invokevirtual 283, 3) := by decide +kernel
theorem dX11_lowest_74 : decode cX11_lowest 74 = .ok (.ifCond .eq 13, 3) := by decide +kernel
theorem dX11_lowest_77 : decode cX11_lowest 77 = .ok (.aload_n 0, 1) := by decide +kernel
theorem dX11_lowest_78 : decode cX11_lowest 78 = .ok (.getfield 44, 3) := by decide +kernel
theorem dX11_lowest_81 : decode cX11_lowest 81 = .ok (.getfield 275, 3) := by decide +kernel
theorem dX11_lowest_84 : decode cX11_lowest 84 = .ok (.iload_n 2, 1) := by decide +kernel
theorem dX11_lowest_85 : decode cX11_lowest 85 = .ok (.iaload, 1) := by decide +kernel
theorem dX11_lowest_86 : decode cX11_lowest 86 = .ok (.ireturn, 1) := by decide +kernel
theorem dX11_lowest_87 : decode cX11_lowest 87 = .ok (.iinc 5 1, 3) := by decide +kernel
theorem dX11_lowest_90 : decode cX11_lowest 90 = .ok (.goto (-35), 3) := by decide +kernel
theorem dX11_lowest_93 : decode cX11_lowest 93 = .ok (.bipush (-2), 2) := by decide +kernel
theorem dX11_lowest_95 : decode cX11_lowest 95 = .ok (.ireturn, 1) := by decide +kernel
theorem dX11_crane_0 : decode cX11_crane 0 = .ok (.aload_n 0, 1) := by decide +kernel
theorem dX11_crane_1 : decode cX11_crane 1 = .ok (.invokevirtual 291, 3) := by decide +kernel
theorem dX11_crane_4 : decode cX11_crane 4 = .ok (.istore_n 2, 1) := by decide +kernel
theorem dX11_crane_5 : decode cX11_crane 5 = .ok (.iload_n 1, 1) := by decide +kernel
theorem dX11_crane_6 : decode cX11_crane 6 = .ok (.ifCond .eq 18, 3) := by decide +kernel
theorem dX11_crane_9 : decode cX11_crane 9 = .ok (.aload_n 0, 1) := by decide +kernel
theorem dX11_crane_10 : decode cX11_crane 10 = .ok (.getfield 44, 3) := by decide +kernel
theorem dX11_crane_13 : decode cX11_crane 13 = .ok (.iload_n 2, 1) := by decide +kernel
theorem dX11_crane_14 : decode cX11_crane 14 = .ok (.aload_n 0, 1) := by decide +kernel
theorem dX11_crane_15 : decode cX11_crane 15 = .ok (.getfield 20, 3) := by decide +kernel
theorem dX11_crane_18 : decode cX11_crane 18 = .ok (.invokevirtual 294, 3) := by decide +kernel
theorem dX11_crane_21 : decode cX11_crane 21 = .ok (.goto 4, 3) := by decide +kernel
theorem dX11_crane_24 : decode cX11_crane 24 = .ok (.iload_n 2, 1) := by decide +kernel
theorem dX11_crane_25 : decode cX11_crane 25 = .ok (.ireturn, 1) := by decide +kernel
theorem dX11_idle_0 : decode cX11_idle 0 = .ok (.aload_n 0, 1) := by decide +kernel
theorem dX11_idle_1 : decode cX11_idle 1 = .ok (.getfield 44, 3) := by decide +kernel
theorem dX11_idle_4 : decode cX11_idle 4 = .ok (.aload_n 0, 1) := by decide +kernel
theorem dX11_idle_5 : decode cX11_idle 5 = .ok (.invokevirtual 291, 3) := by decide +kernel
theorem dX11_idle_8 : decode cX11_idle 8 = .ok (.aload_n 0, 1) := by decide +kernel
theorem dX11_idle_9 : decode cX11_idle 9 = .ok (.getfield 20, 3) := by decide +kernel
theorem dX11_idle_12 : decode cX11_idle 12 = .ok (.invokevirtual 294, 3) := by decide +kernel
theorem dX11_idle_15 : decode cX11_idle 15 = .ok (.istore_n 1, 1) := by decide +kernel
theorem dX11_idle_16 : decode cX11_idle 16 = .ok (.iconst 0, 1) := by decide +kernel
theorem dX11_idle_17 : decode cX11_idle 17 = .ok (.istore_n 2, 1) := by decide +kernel
theorem dX11_idle_18 : decode cX11_idle 18 = .ok (.iconst 0, 1) := by decide +kernel
theorem dX11_idle_19 : decode cX11_idle 19 = .ok (.istore_n 3, 1) := by decide +kernel
theorem dX11_idle_20 : decode cX11_idle 20 = .ok (.iload_n 3, 1) := by decide +kernel
theorem dX11_idle_21 : decode cX11_idle 21 = .ok (.aload_n 0, 1) := by decide +kernel
theorem dX11_idle_22 : decode cX11_idle 22 = .ok (.getfield 20, 3) := by decide +kernel
theorem dX11_idle_25 : decode cX11_idle 25 = .ok (.getfield 66, 3) := by decide +kernel
theorem dX11_idle_28 : decode cX11_idle 28 = .ok (.invokevirtual 69, 3) := by decide +kernel
theorem dX11_idle_31 : decode cX11_idle 31 = .ok (.if_icmp .ge 21, 3) := by decide +kernel
theorem dX11_idle_34 : decode cX11_idle 34 = .ok (.iload_n 2, 1) := by decide +kernel
theorem dX11_idle_35 : decode cX11_idle 35 = .ok (.aload_n 0, 1) := by decide +kernel
theorem dX11_idle_36 : decode cX11_idle 36 = .ok (.getfield 20, 3) := by decide +kernel
theorem dX11_idle_39 : decode cX11_idle 39 = .ok (.getfield 97, 3) := by decide +kernel
theorem dX11_idle_42 : decode cX11_idle 42 = .ok (.iload_n 3, 1) := by decide +kernel
theorem dX11_idle_43 : decode cX11_idle 43 = .ok (.iaload, 1) := by decide +kernel
theorem dX11_idle_44 : decode cX11_idle 44 = .ok (.iadd, 1) := by decide +kernel
theorem dX11_idle_45 : decode cX11_idle 45 = .ok (.istore_n 2, 1) := by decide +kernel
theorem dX11_idle_46 : decode cX11_idle 46 = .ok (.iinc 3 1, 3) := by decide +kernel
theorem dX11_idle_49 : decode cX11_idle 49 = .ok (.goto (-29), 3) := by decide +kernel
theorem dX11_idle_52 : decode cX11_idle 52 = .ok (.iload_n 1, 1) := by decide +kernel
theorem dX11_idle_53 : decode cX11_idle 53 = .ok (.iload_n 2, 1) := by decide +kernel
theorem dX11_idle_54 : decode cX11_idle 54 = .ok (.isub, 1) := by decide +kernel
theorem dX11_idle_55 : decode cX11_idle 55 = .ok (.ireturn, 1) := by decide +kernel
theorem dX11_fastestOrder_0 : decode cX11_fastestOrder 0 = .ok (.iconst 0, 1) := by decide +kernel
theorem dX11_fastestOrder_1 : decode cX11_fastestOrder 1 = .ok (.istore_n 1, 1) := by decide +kernel
theorem dX11_fastestOrder_2 : decode cX11_fastestOrder 2 = .ok (.aload_n 0, 1) := by decide +kernel
theorem dX11_fastestOrder_3 : decode cX11_fastestOrder 3 = .ok (.getfield 44, 3) := by decide +kernel
theorem dX11_fastestOrder_6 : decode cX11_fastestOrder 6 = .ok (.iconst 0, 1) := by decide +kernel
theorem dX11_fastestOrder_7 : decode cX11_fastestOrder 7 = .ok (.aload_n 0, 1) := by decide +kernel
theorem dX11_fastestOrder_8 : decode cX11_fastestOrder 8 = .ok (.getfield 20, 3) := by decide +kernel
theorem dX11_fastestOrder_11 : decode cX11_fastestOrder 11 = .ok (.invokevirtual 294, 3) := by decide +kernel
theorem dX11_fastestOrder_14 : decode cX11_fastestOrder 14 = .ok (.istore_n 2, 1) := by decide +kernel
theorem dX11_fastestOrder_15 : decode cX11_fastestOrder 15 = .ok (.iconst 1, 1) := by decide +kernel
theorem dX11_fastestOrder_16 : decode cX11_fastestOrder 16 = .ok (.istore_n 3, 1) := by decide +kernel
theorem dX11_fastestOrder_17 : decode cX11_fastestOrder 17 = .ok (.iload_n 3, 1) := by decide +kernel
theorem dX11_fastestOrder_18 : decode cX11_fastestOrder 18 = .ok (.bipush 120, 2) := by decide +kernel
theorem dX11_fastestOrder_20 : decode cX11_fastestOrder 20 = .ok (.if_icmp .ge 34, 3) := by decide +kernel
theorem dX11_fastestOrder_23 : decode cX11_fastestOrder 23 = .ok (.aload_n 0, 1) := by decide +kernel
theorem dX11_fastestOrder_24 : decode cX11_fastestOrder 24 = .ok (.getfield 44, 3) := by decide +kernel
theorem dX11_fastestOrder_27 : decode cX11_fastestOrder 27 = .ok (.iload_n 3, 1) := by decide +kernel
theorem dX11_fastestOrder_28 : decode cX11_fastestOrder 28 = .ok (.aload_n 0, 1) := by decide +kernel
theorem dX11_fastestOrder_29 : decode cX11_fastestOrder 29 = .ok (.getfield 20, 3) := by decide +kernel
theorem dX11_fastestOrder_32 : decode cX11_fastestOrder 32 = .ok (.invokevirtual 294, 3) := by decide +kernel
theorem dX11_fastestOrder_35 : decode cX11_fastestOrder 35 = .ok (.istore 4, 2) := by decide +kernel
theorem dX11_fastestOrder_37 : decode cX11_fastestOrder 37 = .ok (.iload 4, 2) := by decide +kernel
theorem dX11_fastestOrder_39 : decode cX11_fastestOrder 39 = .ok (.iload_n 2, 1) := by decide +kernel
theorem dX11_fastestOrder_40 : decode cX11_fastestOrder 40 = .ok (.if_icmp .ge 8, 3) := by decide +kernel
theorem dX11_fastestOrder_43 : decode cX11_fastestOrder 43 = .ok (.iload 4, 2) := by decide +kernel
theorem dX11_fastestOrder_45 : decode cX11_fastestOrder 45 = .ok (.istore_n 2, 1) := by decide +kernel
theorem dX11_fastestOrder_46 : decode cX11_fastestOrder 46 = .ok (.iload_n 3, 1) := by decide +kernel
theorem dX11_fastestOrder_47 : decode cX11_fastestOrder 47 = .ok (.istore_n 1, 1) := by decide +kernel
theorem dX11_fastestOrder_48 : decode cX11_fastestOrder 48 = .ok (.iinc 3 1, 3) := by decide +kernel
theorem dX11_fastestOrder_51 : decode cX11_fastestOrder 51 = .ok (.goto (-34), 3) := by decide +kernel
theorem dX11_fastestOrder_54 : decode cX11_fastestOrder 54 = .ok (.iload_n 1, 1) := by decide +kernel
theorem dX11_fastestOrder_55 : decode cX11_fastestOrder 55 = .ok (.ireturn, 1) := by decide +kernel
theorem dX11_owe_0 : decode cX11_owe 0 = .ok (.iload_n 1, 1) := by decide +kernel
theorem dX11_owe_1 : decode cX11_owe 1 = .ok (.invokestatic 298, 3) := by decide +kernel
theorem dX11_owe_4 : decode cX11_owe 4 = .ok (.ifCond .eq 25, 3) := by decide +kernel
theorem dX11_owe_7 : decode cX11_owe 7 = .ok (.iload_n 2, 1) := by decide +kernel
theorem dX11_owe_8 : decode cX11_owe 8 = .ok (.invokestatic 298, 3) := by decide +kernel
theorem dX11_owe_11 : decode cX11_owe 11 = .ok (.ifCond .eq 18, 3) := by decide +kernel
theorem dX11_owe_14 : decode cX11_owe 14 = .ok (.iload_n 1, 1) := by decide +kernel
theorem dX11_owe_15 : decode cX11_owe 15 = .ok (.iload_n 2, 1) := by decide +kernel
theorem dX11_owe_16 : decode cX11_owe 16 = .ok (.if_icmp .eq 13, 3) := by decide +kernel
theorem dX11_owe_19 : decode cX11_owe 19 = .ok (.iload_n 3, 1) := by decide +kernel
theorem dX11_owe_20 : decode cX11_owe 20 = .ok (.iconst 1, 1) := by decide +kernel
theorem dX11_owe_21 : decode cX11_owe 21 = .ok (.bipush 99, 2) := by decide +kernel
theorem dX11_owe_23 : decode cX11_owe 23 = .ok (.invokestatic 62, 3) := by decide +kernel
theorem dX11_owe_26 : decode cX11_owe 26 = .ok (.ifCond .ne 5, 3) := by decide +kernel
theorem dX11_owe_29 : decode cX11_owe 29 = .ok (.iconst 0, 1) := by decide +kernel
theorem dX11_owe_30 : decode cX11_owe 30 = .ok (.ireturn, 1) := by decide +kernel
theorem dX11_owe_31 : decode cX11_owe 31 = .ok (.aload_n 0, 1) := by decide +kernel
theorem dX11_owe_32 : decode cX11_owe 32 = .ok (.getfield 20, 3) := by decide +kernel
theorem dX11_owe_35 : decode cX11_owe 35 = .ok (.getfield 301, 3) := by decide +kernel
theorem dX11_owe_38 : decode cX11_owe 38 = .ok (.iload_n 1, 1) := by decide +kernel
theorem dX11_owe_39 : decode cX11_owe 39 = .ok (.dup2, 1) := by decide +kernel
theorem dX11_owe_40 : decode cX11_owe 40 = .ok (.iaload, 1) := by decide +kernel
theorem dX11_owe_41 : decode cX11_owe 41 = .ok (.iload_n 3, 1) := by decide +kernel
theorem dX11_owe_42 : decode cX11_owe 42 = .ok (.isub, 1) := by decide +kernel
theorem dX11_owe_43 : decode cX11_owe 43 = .ok (.iastore, 1) := by decide +kernel
theorem dX11_owe_44 : decode cX11_owe 44 = .ok (.aload_n 0, 1) := by decide +kernel
theorem dX11_owe_45 : decode cX11_owe 45 = .ok (.getfield 20, 3) := by decide +kernel
theorem dX11_owe_48 : decode cX11_owe 48 = .ok (.getfield 301, 3) := by decide +kernel
theorem dX11_owe_51 : decode cX11_owe 51 = .ok (.iload_n 2, 1) := by decide +kernel
theorem dX11_owe_52 : decode cX11_owe 52 = .ok (.dup2, 1) := by decide +kernel
theorem dX11_owe_53 : decode cX11_owe 53 = .ok (.iaload, 1) := by decide +kernel
theorem dX11_owe_54 : decode cX11_owe 54 = .ok (.iload_n 3, 1) := by decide +kernel
theorem dX11_owe_55 : decode cX11_owe 55 = .ok (.iadd, 1) := by decide +kernel
theorem dX11_owe_56 : decode cX11_owe 56 = .ok (.iastore, 1) := by decide +kernel
theorem dX11_owe_57 : decode cX11_owe 57 = .ok (.iconst 1, 1) := by decide +kernel
theorem dX11_owe_58 : decode cX11_owe 58 = .ok (.ireturn, 1) := by decide +kernel
theorem dX11_isRailway_0 : decode cX11_isRailway 0 = .ok (.iload_n 0, 1) := by decide +kernel
theorem dX11_isRailway_1 : decode cX11_isRailway 1 = .ok (.iconst 0, 1) := by decide +kernel
theorem dX11_isRailway_2 : decode cX11_isRailway 2 = .ok (.iconst 5, 1) := by decide +kernel
theorem dX11_isRailway_3 : decode cX11_isRailway 3 = .ok (.invokestatic 62, 3) := by decide +kernel
theorem dX11_isRailway_6 : decode cX11_isRailway 6 = .ok (.ireturn, 1) := by decide +kernel
theorem dX11_balance_0 : decode cX11_balance 0 = .ok (.iload_n 1, 1) := by decide +kernel
theorem dX11_balance_1 : decode cX11_balance 1 = .ok (.invokestatic 298, 3) := by decide +kernel
theorem dX11_balance_4 : decode cX11_balance 4 = .ok (.ifCond .eq 15, 3) := by decide +kernel
theorem dX11_balance_7 : decode cX11_balance 7 = .ok (.aload_n 0, 1) := by decide +kernel
