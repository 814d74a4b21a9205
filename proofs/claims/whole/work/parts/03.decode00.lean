theorem dX0_init_0 : decode cX0_init 0 = .ok (.aload_n 0, 1) := by decide +kernel
theorem dX0_init_1 : decode cX0_init 1 = .ok (.invokespecial 3, 3) := by decide +kernel
theorem dX0_init_4 : decode cX0_init 4 = .ok (.aload_n 0, 1) := by decide +kernel
theorem dX0_init_5 : decode cX0_init 5 = .ok (.bipush 64, 2) := by decide +kernel
theorem dX0_init_7 : decode cX0_init 7 = .ok (.newarray .int, 2) := by decide +kernel
theorem dX0_init_9 : decode cX0_init 9 = .ok (.putfield 11, 3) := by decide +kernel
theorem dX0_init_12 : decode cX0_init 12 = .ok (.aload_n 0, 1) := by decide +kernel
theorem dX0_init_13 : decode cX0_init 13 = .ok (.bipush 64, 2) := by decide +kernel
theorem dX0_init_15 : decode cX0_init 15 = .ok (.newarray .int, 2) := by decide +kernel
theorem dX0_init_17 : decode cX0_init 17 = .ok (.putfield 15, 3) := by decide +kernel
theorem dX0_init_20 : decode cX0_init 20 = .ok (.return_, 1) := by decide +kernel
theorem dX0_mostGroups_0 : decode cX0_mostGroups 0 = .ok (.aload_n 0, 1) := by decide +kernel
theorem dX0_mostGroups_1 : decode cX0_mostGroups 1 = .ok (.aload_n 1, 1) := by decide +kernel
theorem dX0_mostGroups_2 : decode cX0_mostGroups 2 = .ok (.invokevirtual 18, 3) := by decide +kernel
theorem dX0_mostGroups_5 : decode cX0_mostGroups 5 = .ok (.aload_n 0, 1) := by decide +kernel
theorem dX0_mostGroups_6 : decode cX0_mostGroups 6 = .ok (.getfield 15, 3) := by decide +kernel
theorem dX0_mostGroups_9 : decode cX0_mostGroups 9 = .ok (.bipush 63, 2) := by decide +kernel
theorem dX0_mostGroups_11 : decode cX0_mostGroups 11 = .ok (.iaload, 1) := by decide +kernel
theorem dX0_mostGroups_12 : decode cX0_mostGroups 12 = .ok (.ireturn, 1) := by decide +kernel
theorem dX0_groupOf_0 : decode cX0_groupOf 0 = .ok (.aload_n 0, 1) := by decide +kernel
theorem dX0_groupOf_1 : decode cX0_groupOf 1 = .ok (.aload_n 2, 1) := by decide +kernel
theorem dX0_groupOf_2 : decode cX0_groupOf 2 = .ok (.invokevirtual 18, 3) := by decide +kernel
theorem dX0_groupOf_5 : decode cX0_groupOf 5 = .ok (.bipush 63, 2) := by decide +kernel
theorem dX0_groupOf_7 : decode cX0_groupOf 7 = .ok (.istore_n 3, 1) := by decide +kernel
theorem dX0_groupOf_8 : decode cX0_groupOf 8 = .ok (.iconst 0, 1) := by decide +kernel
theorem dX0_groupOf_9 : decode cX0_groupOf 9 = .ok (.istore 4, 2) := by decide +kernel
theorem dX0_groupOf_11 : decode cX0_groupOf 11 = .ok (.iload 4, 2) := by decide +kernel
theorem dX0_groupOf_13 : decode cX0_groupOf 13 = .ok (.bipush 6, 2) := by decide +kernel
theorem dX0_groupOf_15 : decode cX0_groupOf 15 = .ok (.if_icmp .ge 39, 3) := by decide +kernel
theorem dX0_groupOf_18 : decode cX0_groupOf 18 = .ok (.iload_n 3, 1) := by decide +kernel
theorem dX0_groupOf_19 : decode cX0_groupOf 19 = .ok (.ifCond .eq 35, 3) := by decide +kernel
theorem dX0_groupOf_22 : decode cX0_groupOf 22 = .ok (.aload_n 0, 1) := by decide +kernel
theorem dX0_groupOf_23 : decode cX0_groupOf 23 = .ok (.iload_n 3, 1) := by decide +kernel
theorem dX0_groupOf_24 : decode cX0_groupOf 24 = .ok (.invokevirtual 22, 3) := by decide +kernel
theorem dX0_groupOf_27 : decode cX0_groupOf 27 = .ok (.istore 5, 2) := by decide +kernel
theorem dX0_groupOf_29 : decode cX0_groupOf 29 = .ok (.iload 5, 2) := by decide +kernel
theorem dX0_groupOf_31 : decode cX0_groupOf 31 = .ok (.iload_n 1, 1) := by decide +kernel
theorem dX0_groupOf_32 : decode cX0_groupOf 32 = .ok (.ishr, 1) := by decide +kernel
theorem dX0_groupOf_33 : decode cX0_groupOf 33 = .ok (.iconst 1, 1) := by decide +kernel
theorem dX0_groupOf_34 : decode cX0_groupOf 34 = .ok (.iand, 1) := by decide +kernel
theorem dX0_groupOf_35 : decode cX0_groupOf 35 = .ok (.ifCond .eq 6, 3) := by decide +kernel
theorem dX0_groupOf_38 : decode cX0_groupOf 38 = .ok (.iload 5, 2) := by decide +kernel
theorem dX0_groupOf_40 : decode cX0_groupOf 40 = .ok (.ireturn, 1) := by decide +kernel
theorem dX0_groupOf_41 : decode cX0_groupOf 41 = .ok (.iload_n 3, 1) := by decide +kernel
theorem dX0_groupOf_42 : decode cX0_groupOf 42 = .ok (.iload 5, 2) := by decide +kernel
theorem dX0_groupOf_44 : decode cX0_groupOf 44 = .ok (.iconst (-1), 1) := by decide +kernel
theorem dX0_groupOf_45 : decode cX0_groupOf 45 = .ok (.ixor, 1) := by decide +kernel
theorem dX0_groupOf_46 : decode cX0_groupOf 46 = .ok (.iand, 1) := by decide +kernel
theorem dX0_groupOf_47 : decode cX0_groupOf 47 = .ok (.istore_n 3, 1) := by decide +kernel
theorem dX0_groupOf_48 : decode cX0_groupOf 48 = .ok (.iinc 4 1, 3) := by decide +kernel
theorem dX0_groupOf_51 : decode cX0_groupOf 51 = .ok (.goto (-40), 3) := by decide +kernel
theorem dX0_groupOf_54 : decode cX0_groupOf 54 = .ok (.iconst (-1), 1) := by decide +kernel
theorem dX0_groupOf_55 : decode cX0_groupOf 55 = .ok (.ireturn, 1) := by decide +kernel
theorem dX0_weighSets_0 : decode cX0_weighSets 0 = .ok (.iconst 1, 1) := by decide +kernel
theorem dX0_weighSets_1 : decode cX0_weighSets 1 = .ok (.istore_n 2, 1) := by decide +kernel
theorem dX0_weighSets_2 : decode cX0_weighSets 2 = .ok (.iload_n 2, 1) := by decide +kernel
theorem dX0_weighSets_3 : decode cX0_weighSets 3 = .ok (.bipush 64, 2) := by decide +kernel
theorem dX0_weighSets_5 : decode cX0_weighSets 5 = .ok (.if_icmp .ge 44, 3) := by decide +kernel
theorem dX0_weighSets_8 : decode cX0_weighSets 8 = .ok (.aload_n 0, 1) := by decide +kernel
theorem dX0_weighSets_9 : decode cX0_weighSets 9 = .ok (.getfield 11, 3) := by decide +kernel
theorem dX0_weighSets_12 : decode cX0_weighSets 12 = .ok (.iload_n 2, 1) := by decide +kernel
theorem dX0_weighSets_13 : decode cX0_weighSets 13 = .ok (.iload_n 2, 1) := by decide +kernel
theorem dX0_weighSets_14 : decode cX0_weighSets 14 = .ok (.aload_n 1, 1) := by decide +kernel
theorem dX0_weighSets_15 : decode cX0_weighSets 15 = .ok (.invokestatic 26, 3) := by decide +kernel
theorem dX0_weighSets_18 : decode cX0_weighSets 18 = .ok (.iastore, 1) := by decide +kernel
theorem dX0_weighSets_19 : decode cX0_weighSets 19 = .ok (.aload_n 0, 1) := by decide +kernel
theorem dX0_weighSets_20 : decode cX0_weighSets 20 = .ok (.getfield 15, 3) := by decide +kernel
theorem dX0_weighSets_23 : decode cX0_weighSets 23 = .ok (.iload_n 2, 1) := by decide +kernel
theorem dX0_weighSets_24 : decode cX0_weighSets 24 = .ok (.aload_n 0, 1) := by decide +kernel
theorem dX0_weighSets_25 : decode cX0_weighSets 25 = .ok (.getfield 11, 3) := by decide +kernel
theorem dX0_weighSets_28 : decode cX0_weighSets 28 = .ok (.iload_n 2, 1) := by decide +kernel
theorem dX0_weighSets_29 : decode cX0_weighSets 29 = .ok (.iaload, 1) := by decide +kernel
theorem dX0_weighSets_30 : decode cX0_weighSets 30 = .ok (.ifCond .ne 11, 3) := by decide +kernel
theorem dX0_weighSets_33 : decode cX0_weighSets 33 = .ok (.aload_n 0, 1) := by decide +kernel
theorem dX0_weighSets_34 : decode cX0_weighSets 34 = .ok (.iload_n 2, 1) := by decide +kernel
theorem dX0_weighSets_35 : decode cX0_weighSets 35 = .ok (.invokevirtual 30, 3) := by decide +kernel
theorem dX0_weighSets_38 : decode cX0_weighSets 38 = .ok (.goto 4, 3) := by decide +kernel
theorem dX0_weighSets_41 : decode cX0_weighSets 41 = .ok (.iconst (-1), 1) := by decide +kernel
theorem dX0_weighSets_42 : decode cX0_weighSets 42 = .ok (.iastore, 1) := by decide +kernel
theorem dX0_weighSets_43 : decode cX0_weighSets 43 = .ok (.iinc 2 1, 3) := by decide +kernel
theorem dX0_weighSets_46 : decode cX0_weighSets 46 = .ok (.goto (-44), 3) := by decide +kernel
theorem dX0_weighSets_49 : decode cX0_weighSets 49 = .ok (.return_, 1) := by decide +kernel
theorem dX0_sumOf_0 : decode cX0_sumOf 0 = .ok (.iconst 0, 1) := by decide +kernel
theorem dX0_sumOf_1 : decode cX0_sumOf 1 = .ok (.istore_n 2, 1) := by decide +kernel
theorem dX0_sumOf_2 : decode cX0_sumOf 2 = .ok (.iconst 0, 1) := by decide +kernel
theorem dX0_sumOf_3 : decode cX0_sumOf 3 = .ok (.istore_n 3, 1) := by decide +kernel
theorem dX0_sumOf_4 : decode cX0_sumOf 4 = .ok (.iload_n 3, 1) := by decide +kernel
theorem dX0_sumOf_5 : decode cX0_sumOf 5 = .ok (.bipush 6, 2) := by decide +kernel
theorem dX0_sumOf_7 : decode cX0_sumOf 7 = .ok (.if_icmp .ge 23, 3) := by decide +kernel
theorem dX0_sumOf_10 : decode cX0_sumOf 10 = .ok (.iload_n 0, 1) := by decide +kernel
theorem dX0_sumOf_11 : decode cX0_sumOf 11 = .ok (.iload_n 3, 1) := by decide +kernel
theorem dX0_sumOf_12 : decode cX0_sumOf 12 = .ok (.ishr, 1) := by decide +kernel
theorem dX0_sumOf_13 : decode cX0_sumOf 13 = .ok (.iconst 1, 1) := by decide +kernel
theorem dX0_sumOf_14 : decode cX0_sumOf 14 = .ok (.iand, 1) := by decide +kernel
theorem dX0_sumOf_15 : decode cX0_sumOf 15 = .ok (.ifCond .eq 9, 3) := by decide +kernel
theorem dX0_sumOf_18 : decode cX0_sumOf 18 = .ok (.iload_n 2, 1) := by decide +kernel
theorem dX0_sumOf_19 : decode cX0_sumOf 19 = .ok (.aload_n 1, 1) := by decide +kernel
theorem dX0_sumOf_20 : decode cX0_sumOf 20 = .ok (.iload_n 3, 1) := by decide +kernel
theorem dX0_sumOf_21 : decode cX0_sumOf 21 = .ok (.iaload, 1) := by decide +kernel
theorem dX0_sumOf_22 : decode cX0_sumOf 22 = .ok (.iadd, 1) := by decide +kernel
theorem dX0_sumOf_23 : decode cX0_sumOf 23 = .ok (.istore_n 2, 1) := by decide +kernel
theorem dX0_sumOf_24 : decode cX0_sumOf 24 = .ok (.iinc 3 1, 3) := by decide +kernel
theorem dX0_sumOf_27 : decode cX0_sumOf 27 = .ok (.goto (-23), 3) := by decide +kernel
theorem dX0_sumOf_30 : decode cX0_sumOf 30 = .ok (.iload_n 2, 1) := by decide +kernel
theorem dX0_sumOf_31 : decode cX0_sumOf 31 = .ok (.ireturn, 1) := by decide +kernel
theorem dX0_mostOf_0 : decode cX0_mostOf 0 = .ok (.iconst 1, 1) := by decide +kernel
theorem dX0_mostOf_1 : decode cX0_mostOf 1 = .ok (.istore_n 2, 1) := by decide +kernel
theorem dX0_mostOf_2 : decode cX0_mostOf 2 = .ok (.iload_n 1, 1) := by decide +kernel
theorem dX0_mostOf_3 : decode cX0_mostOf 3 = .ok (.iload_n 1, 1) := by decide +kernel
theorem dX0_mostOf_4 : decode cX0_mostOf 4 = .ok (.ineg, 1) := by decide +kernel
theorem dX0_mostOf_5 : decode cX0_mostOf 5 = .ok (.iand, 1) := by decide +kernel
theorem dX0_mostOf_6 : decode cX0_mostOf 6 = .ok (.istore_n 3, 1) := by decide +kernel
theorem dX0_mostOf_7 : decode cX0_mostOf 7 = .ok (.iconst 1, 1) := by decide +kernel
theorem dX0_mostOf_8 : decode cX0_mostOf 8 = .ok (.istore 4, 2) := by decide +kernel
theorem dX0_mostOf_10 : decode cX0_mostOf 10 = .ok (.iload 4, 2) := by decide +kernel
theorem dX0_mostOf_12 : decode cX0_mostOf 12 = .ok (.iload_n 1, 1) := by decide +kernel
theorem dX0_mostOf_13 : decode cX0_mostOf 13 = .ok (.if_icmp .ge 38, 3) := by decide +kernel
theorem dX0_mostOf_16 : decode cX0_mostOf 16 = .ok (.aload_n 0, 1) := by decide +kernel
theorem dX0_mostOf_17 : decode cX0_mostOf 17 = .ok (.iload_n 1, 1) := by decide +kernel
theorem dX0_mostOf_18 : decode cX0_mostOf 18 = .ok (.iload 4, 2) := by decide +kernel
theorem dX0_mostOf_20 : decode cX0_mostOf 20 = .ok (.iload_n 3, 1) := by decide +kernel
theorem dX0_mostOf_21 : decode cX0_mostOf 21 = .ok (.invokevirtual 33, 3) := by decide +kernel
theorem dX0_mostOf_24 : decode cX0_mostOf 24 = .ok (.ifCond .eq 21, 3) := by decide +kernel
theorem dX0_mostOf_27 : decode cX0_mostOf 27 = .ok (.iload_n 2, 1) := by decide +kernel
theorem dX0_mostOf_28 : decode cX0_mostOf 28 = .ok (.iconst 1, 1) := by decide +kernel
theorem dX0_mostOf_29 : decode cX0_mostOf 29 = .ok (.aload_n 0, 1) := by decide +kernel
theorem dX0_mostOf_30 : decode cX0_mostOf 30 = .ok (.getfield 15, 3) := by decide +kernel
theorem dX0_mostOf_33 : decode cX0_mostOf 33 = .ok (.iload_n 1, 1) := by decide +kernel
theorem dX0_mostOf_34 : decode cX0_mostOf 34 = .ok (.iload 4, 2) := by decide +kernel
theorem dX0_mostOf_36 : decode cX0_mostOf 36 = .ok (.iconst (-1), 1) := by decide +kernel
theorem dX0_mostOf_37 : decode cX0_mostOf 37 = .ok (.ixor, 1) := by decide +kernel
theorem dX0_mostOf_38 : decode cX0_mostOf 38 = .ok (.iand, 1) := by decide +kernel
theorem dX0_mostOf_39 : decode cX0_mostOf 39 = .ok (.iaload, 1) := by decide +kernel
theorem dX0_mostOf_40 : decode cX0_mostOf 40 = .ok (.iadd, 1) := by decide +kernel
theorem dX0_mostOf_41 : decode cX0_mostOf 41 = .ok (.invokestatic 37, 3) := by decide +kernel
theorem dX0_mostOf_44 : decode cX0_mostOf 44 = .ok (.istore_n 2, 1) := by decide +kernel
theorem dX0_mostOf_45 : decode cX0_mostOf 45 = .ok (.iinc 4 1, 3) := by decide +kernel
theorem dX0_mostOf_48 : decode cX0_mostOf 48 = .ok (.goto (-38), 3) := by decide +kernel
theorem dX0_mostOf_51 : decode cX0_mostOf 51 = .ok (.iload_n 2, 1) := by decide +kernel
theorem dX0_mostOf_52 : decode cX0_mostOf 52 = .ok (.ireturn, 1) := by decide +kernel
theorem dX0_isGroupOf_0 : decode cX0_isGroupOf 0 = .ok (.iload_n 2, 1) := by decide +kernel
theorem dX0_isGroupOf_1 : decode cX0_isGroupOf 1 = .ok (.iload_n 1, 1) := by decide +kernel
theorem dX0_isGroupOf_2 : decode cX0_isGroupOf 2 = .ok (.iconst (-1), 1) := by decide +kernel
theorem dX0_isGroupOf_3 : decode cX0_isGroupOf 3 = .ok (.ixor, 1) := by decide +kernel
theorem dX0_isGroupOf_4 : decode cX0_isGroupOf 4 = .ok (.iand, 1) := by decide +kernel
theorem dX0_isGroupOf_5 : decode cX0_isGroupOf 5 = .ok (.ifCond .ne 22, 3) := by decide +kernel
theorem dX0_isGroupOf_8 : decode cX0_isGroupOf 8 = .ok (.iload_n 2, 1) := by decide +kernel
theorem dX0_isGroupOf_9 : decode cX0_isGroupOf 9 = .ok (.iload_n 3, 1) := by decide +kernel
theorem dX0_isGroupOf_10 : decode cX0_isGroupOf 10 = .ok (.iand, 1) := by decide +kernel
theorem dX0_isGroupOf_11 : decode cX0_isGroupOf 11 = .ok (.ifCond .eq 16, 3) := by decide +kernel
theorem dX0_isGroupOf_14 : decode cX0_isGroupOf 14 = .ok (.aload_n 0, 1) := by decide +kernel
theorem dX0_isGroupOf_15 : decode cX0_isGroupOf 15 = .ok (.getfield 11, 3) := by decide +kernel
theorem dX0_isGroupOf_18 : decode cX0_isGroupOf 18 = .ok (.iload_n 2, 1) := by decide +kernel
theorem dX0_isGroupOf_19 : decode cX0_isGroupOf 19 = .ok (.iaload, 1) := by decide +kernel
theorem dX0_isGroupOf_20 : decode cX0_isGroupOf 20 = .ok (.ifCond .ne 7, 3) := by decide +kernel
theorem dX0_isGroupOf_23 : decode cX0_isGroupOf 23 = .ok (.iconst 1, 1) := by decide +kernel
theorem dX0_isGroupOf_24 : decode cX0_isGroupOf 24 = .ok (.goto 4, 3) := by decide +kernel
theorem dX0_isGroupOf_27 : decode cX0_isGroupOf 27 = .ok (.iconst 0, 1) := by decide +kernel
theorem dX0_isGroupOf_28 : decode cX0_isGroupOf 28 = .ok (.ireturn, 1) := by decide +kernel
theorem dX0_lowestGroup_0 : decode cX0_lowestGroup 0 = .ok (.iload_n 1, 1) := by decide +kernel
theorem dX0_lowestGroup_1 : decode cX0_lowestGroup 1 = .ok (.iload_n 1, 1) := by decide +kernel
theorem dX0_lowestGroup_2 : decode cX0_lowestGroup 2 = .ok (.ineg, 1) := by decide +kernel
theorem dX0_lowestGroup_3 : decode cX0_lowestGroup 3 = .ok (.iand, 1) := by decide +kernel
theorem dX0_lowestGroup_4 : decode cX0_lowestGroup 4 = .ok (.istore_n 2, 1) := by decide +kernel
theorem dX0_lowestGroup_5 : decode cX0_lowestGroup 5 = .ok (.iconst 1, 1) := by decide +kernel
theorem dX0_lowestGroup_6 : decode cX0_lowestGroup 6 = .ok (.istore_n 3, 1) := by decide +kernel
theorem dX0_lowestGroup_7 : decode cX0_lowestGroup 7 = .ok (.iload_n 3, 1) := by decide +kernel
theorem dX0_lowestGroup_8 : decode cX0_lowestGroup 8 = .ok (.iload_n 1, 1) := by decide +kernel
theorem dX0_lowestGroup_9 : decode cX0_lowestGroup 9 = .ok (.if_icmp .ge 42, 3) := by decide +kernel
theorem dX0_lowestGroup_12 : decode cX0_lowestGroup 12 = .ok (.aload_n 0, 1) := by decide +kernel
theorem dX0_lowestGroup_13 : decode cX0_lowestGroup 13 = .ok (.iload_n 1, 1) := by decide +kernel
theorem dX0_lowestGroup_14 : decode cX0_lowestGroup 14 = .ok (.iload_n 3, 1) := by decide +kernel
theorem dX0_lowestGroup_15 : decode cX0_lowestGroup 15 = .ok (.iload_n 2, 1) := by decide +kernel
theorem dX0_lowestGroup_16 : decode cX0_lowestGroup 16 = .ok (.invokevirtual 33, 3) := by decide +kernel
theorem dX0_lowestGroup_19 : decode cX0_lowestGroup 19 = .ok (.ifCond .eq 26, 3) := by decide +kernel
theorem dX0_lowestGroup_22 : decode cX0_lowestGroup 22 = .ok (.iconst 1, 1) := by decide +kernel
theorem dX0_lowestGroup_23 : decode cX0_lowestGroup 23 = .ok (.aload_n 0, 1) := by decide +kernel
theorem dX0_lowestGroup_24 : decode cX0_lowestGroup 24 = .ok (.getfield 15, 3) := by decide +kernel
theorem dX0_lowestGroup_27 : decode cX0_lowestGroup 27 = .ok (.iload_n 1, 1) := by decide +kernel
theorem dX0_lowestGroup_28 : decode cX0_lowestGroup 28 = .ok (.iload_n 3, 1) := by decide +kernel
theorem dX0_lowestGroup_29 : decode cX0_lowestGroup 29 = .ok (.iconst (-1), 1) := by decide +kernel
theorem dX0_lowestGroup_30 : decode cX0_lowestGroup 30 = .ok (.ixor, 1) := by decide +kernel
theorem dX0_lowestGroup_31 : decode cX0_lowestGroup 31 = .ok (.iand, 1) := by decide +kernel
theorem dX0_lowestGroup_32 : decode cX0_lowestGroup 32 = .ok (.iaload, 1) := by decide +kernel
theorem dX0_lowestGroup_33 : decode cX0_lowestGroup 33 = .ok (.iadd, 1) := by decide +kernel
theorem dX0_lowestGroup_34 : decode cX0_lowestGroup 34 = .ok (.aload_n 0, 1) := by decide +kernel
theorem dX0_lowestGroup_35 : decode cX0_lowestGroup 35 = .ok (.getfield 15, 3) := by decide +kernel
theorem dX0_lowestGroup_38 : decode cX0_lowestGroup 38 = .ok (.iload_n 1, 1) := by decide +kernel
theorem dX0_lowestGroup_39 : decode cX0_lowestGroup 39 = .ok (.iaload, 1) := by decide +kernel
theorem dX0_lowestGroup_40 : decode cX0_lowestGroup 40 = .ok (.if_icmp .ne 5, 3) := by decide +kernel
theorem dX0_lowestGroup_43 : decode cX0_lowestGroup 43 = .ok (.iload_n 3, 1) := by decide +kernel
theorem dX0_lowestGroup_44 : decode cX0_lowestGroup 44 = .ok (.ireturn, 1) := by decide +kernel
theorem dX0_lowestGroup_45 : decode cX0_lowestGroup 45 = .ok (.iinc 3 1, 3) := by decide +kernel
theorem dX0_lowestGroup_48 : decode cX0_lowestGroup 48 = .ok (.goto (-41), 3) := by decide +kernel
theorem dX0_lowestGroup_51 : decode cX0_lowestGroup 51 = .ok (.iload_n 1, 1) := by decide +kernel
theorem dX0_lowestGroup_52 : decode cX0_lowestGroup 52 = .ok (.ireturn, 1) := by decide +kernel
theorem dX1_init_0 : decode cX1_init 0 = .ok (.aload_n 0, 1) := by decide +kernel
theorem dX1_init_1 : decode cX1_init 1 = .ok (.invokespecial 3, 3) := by decide +kernel
theorem dX1_init_4 : decode cX1_init 4 = .ok (.aload_n 0, 1) := by decide +kernel
theorem dX1_init_5 : decode cX1_init 5 = .ok (.iconst 5, 1) := by decide +kernel
theorem dX1_init_6 : decode cX1_init 6 = .ok (.newarray .int, 2) := by decide +kernel
theorem dX1_init_8 : decode cX1_init 8 = .ok (.putfield 9, 3) := by decide +kernel
theorem dX1_init_11 : decode cX1_init 11 = .ok (.return_, 1) := by decide +kernel
theorem dX1_countRows_0 : decode cX1_countRows 0 = .ok (.iconst 1, 1) := by decide +kernel
theorem dX1_countRows_1 : decode cX1_countRows 1 = .ok (.istore_n 1, 1) := by decide +kernel
theorem dX1_countRows_2 : decode cX1_countRows 2 = .ok (.iconst 2, 1) := by decide +kernel
theorem dX1_countRows_3 : decode cX1_countRows 3 = .ok (.istore_n 2, 1) := by decide +kernel
theorem dX1_countRows_4 : decode cX1_countRows 4 = .ok (.iload_n 2, 1) := by decide +kernel
theorem dX1_countRows_5 : decode cX1_countRows 5 = .ok (.iload_n 0, 1) := by decide +kernel
theorem dX1_countRows_6 : decode cX1_countRows 6 = .ok (.if_icmp .gt 13, 3) := by decide +kernel
theorem dX1_countRows_9 : decode cX1_countRows 9 = .ok (.iload_n 1, 1) := by decide +kernel
theorem dX1_countRows_10 : decode cX1_countRows 10 = .ok (.iload_n 2, 1) := by decide +kernel
theorem dX1_countRows_11 : decode cX1_countRows 11 = .ok (.imul, 1) := by decide +kernel
theorem dX1_countRows_12 : decode cX1_countRows 12 = .ok (.istore_n 1, 1) := by decide +kernel
theorem dX1_countRows_13 : decode cX1_countRows 13 = .ok (.iinc 2 1, 3) := by decide +kernel
theorem dX1_countRows_16 : decode cX1_countRows 16 = .ok (.goto (-12), 3) := by decide +kernel
theorem dX1_countRows_19 : decode cX1_countRows 19 = .ok (.iload_n 1, 1) := by decide +kernel
theorem dX1_countRows_20 : decode cX1_countRows 20 = .ok (.ireturn, 1) := by decide +kernel
theorem dX1_fillRow_0 : decode cX1_fillRow 0 = .ok (.iload_n 1, 1) := by decide +kernel
theorem dX1_fillRow_1 : decode cX1_fillRow 1 = .ok (.istore_n 3, 1) := by decide +kernel
theorem dX1_fillRow_2 : decode cX1_fillRow 2 = .ok (.bipush 31, 2) := by decide +kernel
theorem dX1_fillRow_4 : decode cX1_fillRow 4 = .ok (.istore 4, 2) := by decide +kernel
theorem dX1_fillRow_6 : decode cX1_fillRow 6 = .ok (.iconst 0, 1) := by decide +kernel
theorem dX1_fillRow_7 : decode cX1_fillRow 7 = .ok (.istore 5, 2) := by decide +kernel
theorem dX1_fillRow_9 : decode cX1_fillRow 9 = .ok (.iconst 0, 1) := by decide +kernel
theorem dX1_fillRow_10 : decode cX1_fillRow 10 = .ok (.istore 6, 2) := by decide +kernel
theorem dX1_fillRow_12 : decode cX1_fillRow 12 = .ok (.iload 6, 2) := by decide +kernel
theorem dX1_fillRow_14 : decode cX1_fillRow 14 = .ok (.iconst 5, 1) := by decide +kernel
theorem dX1_fillRow_15 : decode cX1_fillRow 15 = .ok (.if_icmp .ge 65, 3) := by decide +kernel
theorem dX1_fillRow_18 : decode cX1_fillRow 18 = .ok (.iload 4, 2) := by decide +kernel
theorem dX1_fillRow_20 : decode cX1_fillRow 20 = .ok (.iload_n 3, 1) := by decide +kernel
theorem dX1_fillRow_21 : decode cX1_fillRow 21 = .ok (.getstatic 15, 3) := by decide +kernel
theorem dX1_fillRow_24 : decode cX1_fillRow 24 = .ok (.iload 6, 2) := by decide +kernel
theorem dX1_fillRow_26 : decode cX1_fillRow 26 = .ok (.iaload, 1) := by decide +kernel
theorem dX1_fillRow_27 : decode cX1_fillRow 27 = .ok (.idiv, 1) := by decide +kernel
theorem dX1_fillRow_28 : decode cX1_fillRow 28 = .ok (.invokestatic 18, 3) := by decide +kernel
theorem dX1_fillRow_31 : decode cX1_fillRow 31 = .ok (.istore 7, 2) := by decide +kernel
theorem dX1_fillRow_33 : decode cX1_fillRow 33 = .ok (.iload_n 3, 1) := by decide +kernel
theorem dX1_fillRow_34 : decode cX1_fillRow 34 = .ok (.getstatic 15, 3) := by decide +kernel
theorem dX1_fillRow_37 : decode cX1_fillRow 37 = .ok (.iload 6, 2) := by decide +kernel
theorem dX1_fillRow_39 : decode cX1_fillRow 39 = .ok (.iaload, 1) := by decide +kernel
theorem dX1_fillRow_40 : decode cX1_fillRow 40 = .ok (.irem, 1) := by decide +kernel
theorem dX1_fillRow_41 : decode cX1_fillRow 41 = .ok (.istore_n 3, 1) := by decide +kernel
theorem dX1_fillRow_42 : decode cX1_fillRow 42 = .ok (.iload 4, 2) := by decide +kernel
theorem dX1_fillRow_44 : decode cX1_fillRow 44 = .ok (.iconst 1, 1) := by decide +kernel
theorem dX1_fillRow_45 : decode cX1_fillRow 45 = .ok (.iload 7, 2) := by decide +kernel
theorem dX1_fillRow_47 : decode cX1_fillRow 47 = .ok (.ishl, 1) := by decide +kernel
theorem dX1_fillRow_48 : decode cX1_fillRow 48 = .ok (.iconst (-1), 1) := by decide +kernel
theorem dX1_fillRow_49 : decode cX1_fillRow 49 = .ok (.ixor, 1) := by decide +kernel
theorem dX1_fillRow_50 : decode cX1_fillRow 50 = .ok (.iand, 1) := by decide +kernel
theorem dX1_fillRow_51 : decode cX1_fillRow 51 = .ok (.istore 4, 2) := by decide +kernel
theorem dX1_fillRow_53 : decode cX1_fillRow 53 = .ok (.iload_n 2, 1) := by decide +kernel
theorem dX1_fillRow_54 : decode cX1_fillRow 54 = .ok (.iload 7, 2) := by decide +kernel
theorem dX1_fillRow_56 : decode cX1_fillRow 56 = .ok (.ishr, 1) := by decide +kernel
theorem dX1_fillRow_57 : decode cX1_fillRow 57 = .ok (.iconst 1, 1) := by decide +kernel
theorem dX1_fillRow_58 : decode cX1_fillRow 58 = .ok (.iand, 1) := by decide +kernel
theorem dX1_fillRow_59 : decode cX1_fillRow 59 = .ok (.ifCond .eq 15, 3) := by decide +kernel
theorem dX1_fillRow_62 : decode cX1_fillRow 62 = .ok (.aload_n 0, 1) := by decide +kernel
theorem dX1_fillRow_63 : decode cX1_fillRow 63 = .ok (.getfield 9, 3) := by decide +kernel
theorem dX1_fillRow_66 : decode cX1_fillRow 66 = .ok (.iload 5, 2) := by decide +kernel
theorem dX1_fillRow_68 : decode cX1_fillRow 68 = .ok (.iload 7, 2) := by decide +kernel
theorem dX1_fillRow_70 : decode cX1_fillRow 70 = .ok (.iastore, 1) := by decide +kernel
theorem dX1_fillRow_71 : decode cX1_fillRow 71 = .ok (.iinc 5 1, 3) := by decide +kernel
theorem dX1_fillRow_74 : decode cX1_fillRow 74 = .ok (.iinc 6 1, 3) := by decide +kernel
theorem dX1_fillRow_77 : decode cX1_fillRow 77 = .ok (.goto (-65), 3) := by decide +kernel
theorem dX1_fillRow_80 : decode cX1_fillRow 80 = .ok (.iload 5, 2) := by decide +kernel
theorem dX1_fillRow_82 : decode cX1_fillRow 82 = .ok (.ireturn, 1) := by decide +kernel
theorem dX1_carBehind_0 : decode cX1_carBehind 0 = .ok (.iconst 0, 1) := by decide +kernel
theorem dX1_carBehind_1 : decode cX1_carBehind 1 = .ok (.istore_n 2, 1) := by decide +kernel
theorem dX1_carBehind_2 : decode cX1_carBehind 2 = .ok (.iconst 0, 1) := by decide +kernel
theorem dX1_carBehind_3 : decode cX1_carBehind 3 = .ok (.istore_n 3, 1) := by decide +kernel
theorem dX1_carBehind_4 : decode cX1_carBehind 4 = .ok (.iload_n 3, 1) := by decide +kernel
theorem dX1_carBehind_5 : decode cX1_carBehind 5 = .ok (.iconst 5, 1) := by decide +kernel
theorem dX1_carBehind_6 : decode cX1_carBehind 6 = .ok (.if_icmp .ge 27, 3) := by decide +kernel
theorem dX1_carBehind_9 : decode cX1_carBehind 9 = .ok (.iload_n 0, 1) := by decide +kernel
theorem dX1_carBehind_10 : decode cX1_carBehind 10 = .ok (.iload_n 3, 1) := by decide +kernel
theorem dX1_carBehind_11 : decode cX1_carBehind 11 = .ok (.ishr, 1) := by decide +kernel
theorem dX1_carBehind_12 : decode cX1_carBehind 12 = .ok (.iconst 1, 1) := by decide +kernel
theorem dX1_carBehind_13 : decode cX1_carBehind 13 = .ok (.iand, 1) := by decide +kernel
theorem dX1_carBehind_14 : decode cX1_carBehind 14 = .ok (.ifCond .eq 13, 3) := by decide +kernel
theorem dX1_carBehind_17 : decode cX1_carBehind 17 = .ok (.iload_n 2, 1) := by decide +kernel
theorem dX1_carBehind_18 : decode cX1_carBehind 18 = .ok (.iload_n 1, 1) := by decide +kernel
theorem dX1_carBehind_19 : decode cX1_carBehind 19 = .ok (.if_icmp .ne 5, 3) := by decide +kernel
theorem dX1_carBehind_22 : decode cX1_carBehind 22 = .ok (.iload_n 3, 1) := by decide +kernel
theorem dX1_carBehind_23 : decode cX1_carBehind 23 = .ok (.ireturn, 1) := by decide +kernel
theorem dX1_carBehind_24 : decode cX1_carBehind 24 = .ok (.iinc 2 1, 3) := by decide +kernel
theorem dX1_carBehind_27 : decode cX1_carBehind 27 = .ok (.iinc 3 1, 3) := by decide +kernel
theorem dX1_carBehind_30 : decode cX1_carBehind 30 = .ok (.goto (-26), 3) := by decide +kernel
theorem dX1_carBehind_33 : decode cX1_carBehind 33 = .ok (.iconst 0, 1) := by decide +kernel
theorem dX1_carBehind_34 : decode cX1_carBehind 34 = .ok (.ireturn, 1) := by decide +kernel
theorem dX1_mayStand_0 : decode cX1_mayStand 0 = .ok (.aload_n 0, 1) := by decide +kernel
theorem dX1_mayStand_1 : decode cX1_mayStand 1 = .ok (.iload_n 1, 1) := by decide +kernel
theorem dX1_mayStand_2 : decode cX1_mayStand 2 = .ok (.iload_n 2, 1) := by decide +kernel
theorem dX1_mayStand_3 : decode cX1_mayStand 3 = .ok (.invokevirtual 22, 3) := by decide +kernel
theorem dX1_mayStand_6 : decode cX1_mayStand 6 = .ok (.istore 4, 2) := by decide +kernel
theorem dX1_mayStand_8 : decode cX1_mayStand 8 = .ok (.iconst 1, 1) := by decide +kernel
theorem dX1_mayStand_9 : decode cX1_mayStand 9 = .ok (.istore 5, 2) := by decide +kernel
theorem dX1_mayStand_11 : decode cX1_mayStand 11 = .ok (.iload 5, 2) := by decide +kernel
theorem dX1_mayStand_13 : decode cX1_mayStand 13 = .ok (.iload 4, 2) := by decide +kernel
theorem dX1_mayStand_15 : decode cX1_mayStand 15 = .ok (.if_icmp .ge 37, 3) := by decide +kernel
theorem dX1_mayStand_18 : decode cX1_mayStand 18 = .ok (.iload_n 3, 1) := by decide +kernel
theorem dX1_mayStand_19 : decode cX1_mayStand 19 = .ok (.iconst 5, 1) := by decide +kernel
theorem dX1_mayStand_20 : decode cX1_mayStand 20 = .ok (.aload_n 0, 1) := by decide +kernel
theorem dX1_mayStand_21 : decode cX1_mayStand 21 = .ok (.getfield 9, 3) := by decide +kernel
theorem dX1_mayStand_24 : decode cX1_mayStand 24 = .ok (.iload 5, 2) := by decide +kernel
theorem dX1_mayStand_26 : decode cX1_mayStand 26 = .ok (.iconst 1, 1) := by decide +kernel
theorem dX1_mayStand_27 : decode cX1_mayStand 27 = .ok (.isub, 1) := by decide +kernel
theorem dX1_mayStand_28 : decode cX1_mayStand 28 = .ok (.iaload, 1) := by decide +kernel
theorem dX1_mayStand_29 : decode cX1_mayStand 29 = .ok (.imul, 1) := by decide +kernel
theorem dX1_mayStand_30 : decode cX1_mayStand 30 = .ok (.aload_n 0, 1) := by decide +kernel
theorem dX1_mayStand_31 : decode cX1_mayStand 31 = .ok (.getfield 9, 3) := by decide +kernel
theorem dX1_mayStand_34 : decode cX1_mayStand 34 = .ok (.iload 5, 2) := by decide +kernel
theorem dX1_mayStand_36 : decode cX1_mayStand 36 = .ok (.iaload, 1) := by decide +kernel
theorem dX1_mayStand_37 : decode cX1_mayStand 37 = .ok (.iadd, 1) := by decide +kernel
theorem dX1_mayStand_38 : decode cX1_mayStand 38 = .ok (.ishr, 1) := by decide +kernel
theorem dX1_mayStand_39 : decode cX1_mayStand 39 = .ok (.iconst 1, 1) := by decide +kernel
theorem dX1_mayStand_40 : decode cX1_mayStand 40 = .ok (.iand, 1) := by decide +kernel
theorem dX1_mayStand_41 : decode cX1_mayStand 41 = .ok (.ifCond .ne 5, 3) := by decide +kernel
theorem dX1_mayStand_44 : decode cX1_mayStand 44 = .ok (.iconst 0, 1) := by decide +kernel
theorem dX1_mayStand_45 : decode cX1_mayStand 45 = .ok (.ireturn, 1) := by decide +kernel
theorem dX1_mayStand_46 : decode cX1_mayStand 46 = .ok (.iinc 5 1, 3) := by decide +kernel
theorem dX1_mayStand_49 : decode cX1_mayStand 49 = .ok (.goto (-38), 3) := by decide +kernel
theorem dX1_mayStand_52 : decode cX1_mayStand 52 = .ok (.iconst 1, 1) := by decide +kernel
theorem dX1_mayStand_53 : decode cX1_mayStand 53 = .ok (.ireturn, 1) := by decide +kernel
theorem dX1_timeOf_0 : decode cX1_timeOf 0 = .ok (.aload_n 0, 1) := by decide +kernel
theorem dX1_timeOf_1 : decode cX1_timeOf 1 = .ok (.iload_n 1, 1) := by decide +kernel
theorem dX1_timeOf_2 : decode cX1_timeOf 2 = .ok (.aload_n 2, 1) := by decide +kernel
theorem dX1_timeOf_3 : decode cX1_timeOf 3 = .ok (.getfield 25, 3) := by decide +kernel
theorem dX1_timeOf_6 : decode cX1_timeOf 6 = .ok (.invokevirtual 31, 3) := by decide +kernel
theorem dX1_timeOf_9 : decode cX1_timeOf 9 = .ok (.invokevirtual 22, 3) := by decide +kernel
theorem dX1_timeOf_12 : decode cX1_timeOf 12 = .ok (.istore_n 3, 1) := by decide +kernel
theorem dX1_timeOf_13 : decode cX1_timeOf 13 = .ok (.iconst 0, 1) := by decide +kernel
theorem dX1_timeOf_14 : decode cX1_timeOf 14 = .ok (.istore 4, 2) := by decide +kernel
theorem dX1_timeOf_16 : decode cX1_timeOf 16 = .ok (.iconst 0, 1) := by decide +kernel
theorem dX1_timeOf_17 : decode cX1_timeOf 17 = .ok (.istore 5, 2) := by decide +kernel
theorem dX1_timeOf_19 : decode cX1_timeOf 19 = .ok (.iconst 0, 1) := by decide +kernel
theorem dX1_timeOf_20 : decode cX1_timeOf 20 = .ok (.istore 6, 2) := by decide +kernel
theorem dX1_timeOf_22 : decode cX1_timeOf 22 = .ok (.iload 6, 2) := by decide +kernel
theorem dX1_timeOf_24 : decode cX1_timeOf 24 = .ok (.iload_n 3, 1) := by decide +kernel
theorem dX1_timeOf_25 : decode cX1_timeOf 25 = .ok (.if_icmp .ge 48, 3) := by decide +kernel
theorem dX1_timeOf_28 : decode cX1_timeOf 28 = .ok (.iload 4, 2) := by decide +kernel
theorem dX1_timeOf_30 : decode cX1_timeOf 30 = .ok (.aload_n 2, 1) := by decide +kernel
theorem dX1_timeOf_31 : decode cX1_timeOf 31 = .ok (.getfield 37, 3) := by decide +kernel
theorem dX1_timeOf_34 : decode cX1_timeOf 34 = .ok (.aload_n 0, 1) := by decide +kernel
theorem dX1_timeOf_35 : decode cX1_timeOf 35 = .ok (.getfield 9, 3) := by decide +kernel
theorem dX1_timeOf_38 : decode cX1_timeOf 38 = .ok (.iload 6, 2) := by decide +kernel
theorem dX1_timeOf_40 : decode cX1_timeOf 40 = .ok (.iaload, 1) := by decide +kernel
theorem dX1_timeOf_41 : decode cX1_timeOf 41 = .ok (.iaload, 1) := by decide +kernel
theorem dX1_timeOf_42 : decode cX1_timeOf 42 = .ok (.iadd, 1) := by decide +kernel
theorem dX1_timeOf_43 : decode cX1_timeOf 43 = .ok (.istore 4, 2) := by decide +kernel
theorem dX1_timeOf_45 : decode cX1_timeOf 45 = .ok (.iload 4, 2) := by decide +kernel
theorem dX1_timeOf_47 : decode cX1_timeOf 47 = .ok (.iload 5, 2) := by decide +kernel
theorem dX1_timeOf_49 : decode cX1_timeOf 49 = .ok (.invokestatic 40, 3) := by decide +kernel
theorem dX1_timeOf_52 : decode cX1_timeOf 52 = .ok (.aload_n 2, 1) := by decide +kernel
theorem dX1_timeOf_53 : decode cX1_timeOf 53 = .ok (.getfield 45, 3) := by decide +kernel
theorem dX1_timeOf_56 : decode cX1_timeOf 56 = .ok (.aload_n 0, 1) := by decide +kernel
theorem dX1_timeOf_57 : decode cX1_timeOf 57 = .ok (.getfield 9, 3) := by decide +kernel
theorem dX1_timeOf_60 : decode cX1_timeOf 60 = .ok (.iload 6, 2) := by decide +kernel
theorem dX1_timeOf_62 : decode cX1_timeOf 62 = .ok (.iaload, 1) := by decide +kernel
theorem dX1_timeOf_63 : decode cX1_timeOf 63 = .ok (.iaload, 1) := by decide +kernel
theorem dX1_timeOf_64 : decode cX1_timeOf 64 = .ok (.iadd, 1) := by decide +kernel
theorem dX1_timeOf_65 : decode cX1_timeOf 65 = .ok (.istore 5, 2) := by decide +kernel
theorem dX1_timeOf_67 : decode cX1_timeOf 67 = .ok (.iinc 6 1, 3) := by decide +kernel
theorem dX1_timeOf_70 : decode cX1_timeOf 70 = .ok (.goto (-48), 3) := by decide +kernel
theorem dX1_timeOf_73 : decode cX1_timeOf 73 = .ok (.iload 5, 2) := by decide +kernel
theorem dX1_timeOf_75 : decode cX1_timeOf 75 = .ok (.ireturn, 1) := by decide +kernel
theorem dX2_init_0 : decode cX2_init 0 = .ok (.aload_n 0, 1) := by decide +kernel
theorem dX2_init_1 : decode cX2_init 1 = .ok (.invokespecial 3, 3) := by decide +kernel
theorem dX2_init_4 : decode cX2_init 4 = .ok (.aload_n 0, 1) := by decide +kernel
theorem dX2_init_5 : decode cX2_init 5 = .ok (.sipush 300, 3) := by decide +kernel
theorem dX2_init_8 : decode cX2_init 8 = .ok (.newarray .byte, 2) := by decide +kernel
theorem dX2_init_10 : decode cX2_init 10 = .ok (.putfield 9, 3) := by decide +kernel
theorem dX2_init_13 : decode cX2_init 13 = .ok (.aload_n 0, 1) := by decide +kernel
theorem dX2_init_14 : decode cX2_init 14 = .ok (.sipush 301, 3) := by decide +kernel
theorem dX2_init_17 : decode cX2_init 17 = .ok (.newarray .int, 2) := by decide +kernel
theorem dX2_init_19 : decode cX2_init 19 = .ok (.putfield 15, 3) := by decide +kernel
theorem dX2_init_22 : decode cX2_init 22 = .ok (.aload_n 0, 1) := by decide +kernel
theorem dX2_init_23 : decode cX2_init 23 = .ok (.sipush 301, 3) := by decide +kernel
theorem dX2_init_26 : decode cX2_init 26 = .ok (.newarray .int, 2) := by decide +kernel
theorem dX2_init_28 : decode cX2_init 28 = .ok (.putfield 19, 3) := by decide +kernel
theorem dX2_init_31 : decode cX2_init 31 = .ok (.aload_n 0, 1) := by decide +kernel
theorem dX2_init_32 : decode cX2_init 32 = .ok (.sipush 300, 3) := by decide +kernel
theorem dX2_init_35 : decode cX2_init 35 = .ok (.newarray .int, 2) := by decide +kernel
theorem dX2_init_37 : decode cX2_init 37 = .ok (.putfield 22, 3) := by decide +kernel
theorem dX2_init_40 : decode cX2_init 40 = .ok (.aload_n 0, 1) := by decide +kernel
theorem dX2_init_41 : decode cX2_init 41 = .ok (.bipush 72, 2) := by decide +kernel
theorem dX2_init_43 : decode cX2_init 43 = .ok (.newarray .int, 2) := by decide +kernel
theorem dX2_init_45 : decode cX2_init 45 = .ok (.putfield 25, 3) := by decide +kernel
theorem dX2_init_48 : decode cX2_init 48 = .ok (.aload_n 0, 1) := by decide +kernel
theorem dX2_init_49 : decode cX2_init 49 = .ok (.iconst 4, 1) := by decide +kernel
theorem dX2_init_50 : decode cX2_init 50 = .ok (.newarray .int, 2) := by decide +kernel
theorem dX2_init_52 : decode cX2_init 52 = .ok (.putfield 28, 3) := by decide +kernel
theorem dX2_init_55 : decode cX2_init 55 = .ok (.aload_n 0, 1) := by decide +kernel
theorem dX2_init_56 : decode cX2_init 56 = .ok (.iconst (-1), 1) := by decide +kernel
theorem dX2_init_57 : decode cX2_init 57 = .ok (.putfield 31, 3) := by decide +kernel
theorem dX2_init_60 : decode cX2_init 60 = .ok (.aload_n 0, 1) := by decide +kernel
theorem dX2_init_61 : decode cX2_init 61 = .ok (.iconst (-1), 1) := by decide +kernel
theorem dX2_init_62 : decode cX2_init 62 = .ok (.putfield 35, 3) := by decide +kernel
theorem dX2_init_65 : decode cX2_init 65 = .ok (.return_, 1) := by decide +kernel
theorem dX2_takeFour_0 : decode cX2_takeFour 0 = .ok (.bipush 24, 2) := by decide +kernel
theorem dX2_takeFour_2 : decode cX2_takeFour 2 = .ok (.istore_n 2, 1) := by decide +kernel
theorem dX2_takeFour_3 : decode cX2_takeFour 3 = .ok (.iload_n 2, 1) := by decide +kernel
theorem dX2_takeFour_4 : decode cX2_takeFour 4 = .ok (.ifCond .lt 42, 3) := by decide +kernel
theorem dX2_takeFour_7 : decode cX2_takeFour 7 = .ok (.aload_n 0, 1) := by decide +kernel
theorem dX2_takeFour_8 : decode cX2_takeFour 8 = .ok (.getfield 38, 3) := by decide +kernel
theorem dX2_takeFour_11 : decode cX2_takeFour 11 = .ok (.sipush 300, 3) := by decide +kernel
theorem dX2_takeFour_14 : decode cX2_takeFour 14 = .ok (.if_icmp .ge 32, 3) := by decide +kernel
theorem dX2_takeFour_17 : decode cX2_takeFour 17 = .ok (.aload_n 0, 1) := by decide +kernel
theorem dX2_takeFour_18 : decode cX2_takeFour 18 = .ok (.getfield 9, 3) := by decide +kernel
theorem dX2_takeFour_21 : decode cX2_takeFour 21 = .ok (.aload_n 0, 1) := by decide +kernel
theorem dX2_takeFour_22 : decode cX2_takeFour 22 = .ok (.getfield 38, 3) := by decide +kernel
theorem dX2_takeFour_25 : decode cX2_takeFour 25 = .ok (.iload_n 1, 1) := by decide +kernel
theorem dX2_takeFour_26 : decode cX2_takeFour 26 = .ok (.iload_n 2, 1) := by decide +kernel
theorem dX2_takeFour_27 : decode cX2_takeFour 27 = .ok (.ishr, 1) := by decide +kernel
theorem dX2_takeFour_28 : decode cX2_takeFour 28 = .ok (.i2b, 1) := by decide +kernel
theorem dX2_takeFour_29 : decode cX2_takeFour 29 = .ok (.bastore, 1) := by decide +kernel
theorem dX2_takeFour_30 : decode cX2_takeFour 30 = .ok (.aload_n 0, 1) := by decide +kernel
theorem dX2_takeFour_31 : decode cX2_takeFour 31 = .ok (.dup, 1) := by decide +kernel
theorem dX2_takeFour_32 : decode cX2_takeFour 32 = .ok (.getfield 38, 3) := by decide +kernel
theorem dX2_takeFour_35 : decode cX2_takeFour 35 = .ok (.iconst 1, 1) := by decide +kernel
theorem dX2_takeFour_36 : decode cX2_takeFour 36 = .ok (.iadd, 1) := by decide +kernel
theorem dX2_takeFour_37 : decode cX2_takeFour 37 = .ok (.putfield 38, 3) := by decide +kernel
theorem dX2_takeFour_40 : decode cX2_takeFour 40 = .ok (.iinc 2 (-8), 3) := by decide +kernel
theorem dX2_takeFour_43 : decode cX2_takeFour 43 = .ok (.goto (-40), 3) := by decide +kernel
theorem dX2_takeFour_46 : decode cX2_takeFour 46 = .ok (.return_, 1) := by decide +kernel
theorem dX2_readTape_0 : decode cX2_readTape 0 = .ok (.aload_n 0, 1) := by decide +kernel
theorem dX2_readTape_1 : decode cX2_readTape 1 = .ok (.invokevirtual 41, 3) := by decide +kernel
theorem dX2_readTape_4 : decode cX2_readTape 4 = .ok (.aload_n 0, 1) := by decide +kernel
theorem dX2_readTape_5 : decode cX2_readTape 5 = .ok (.iconst 0, 1) := by decide +kernel
theorem dX2_readTape_6 : decode cX2_readTape 6 = .ok (.putfield 31, 3) := by decide +kernel
theorem dX2_readTape_9 : decode cX2_readTape 9 = .ok (.aload_n 0, 1) := by decide +kernel
theorem dX2_readTape_10 : decode cX2_readTape 10 = .ok (.iconst (-1), 1) := by decide +kernel
theorem dX2_readTape_11 : decode cX2_readTape 11 = .ok (.putfield 35, 3) := by decide +kernel
theorem dX2_readTape_14 : decode cX2_readTape 14 = .ok (.aload_n 0, 1) := by decide +kernel
theorem dX2_readTape_15 : decode cX2_readTape 15 = .ok (.iconst 0, 1) := by decide +kernel
theorem dX2_readTape_16 : decode cX2_readTape 16 = .ok (.putfield 44, 3) := by decide +kernel
theorem dX2_readTape_19 : decode cX2_readTape 19 = .ok (.aload_n 0, 1) := by decide +kernel
theorem dX2_readTape_20 : decode cX2_readTape 20 = .ok (.aload_n 0, 1) := by decide +kernel
theorem dX2_readTape_21 : decode cX2_readTape 21 = .ok (.getfield 15, 3) := by decide +kernel
theorem dX2_readTape_24 : decode cX2_readTape 24 = .ok (.iconst 0, 1) := by decide +kernel
theorem dX2_readTape_25 : decode cX2_readTape 25 = .ok (.iaload, 1) := by decide +kernel
theorem dX2_readTape_26 : decode cX2_readTape 26 = .ok (.putfield 47, 3) := by decide +kernel
theorem dX2_readTape_29 : decode cX2_readTape 29 = .ok (.aload_n 0, 1) := by decide +kernel
theorem dX2_readTape_30 : decode cX2_readTape 30 = .ok (.iconst 0, 1) := by decide +kernel
theorem dX2_readTape_31 : decode cX2_readTape 31 = .ok (.putfield 50, 3) := by decide +kernel
theorem dX2_readTape_34 : decode cX2_readTape 34 = .ok (.aload_n 0, 1) := by decide +kernel
theorem dX2_readTape_35 : decode cX2_readTape 35 = .ok (.iconst 0, 1) := by decide +kernel
theorem dX2_readTape_36 : decode cX2_readTape 36 = .ok (.putfield 53, 3) := by decide +kernel
theorem dX2_readTape_39 : decode cX2_readTape 39 = .ok (.aload_n 0, 1) := by decide +kernel
theorem dX2_readTape_40 : decode cX2_readTape 40 = .ok (.iconst 0, 1) := by decide +kernel
theorem dX2_readTape_41 : decode cX2_readTape 41 = .ok (.putfield 56, 3) := by decide +kernel
theorem dX2_readTape_44 : decode cX2_readTape 44 = .ok (.aload_n 0, 1) := by decide +kernel
theorem dX2_readTape_45 : decode cX2_readTape 45 = .ok (.getfield 28, 3) := by decide +kernel
theorem dX2_readTape_48 : decode cX2_readTape 48 = .ok (.iconst (-1), 1) := by decide +kernel
theorem dX2_readTape_49 : decode cX2_readTape 49 = .ok (.invokestatic 59, 3) := by decide +kernel
theorem dX2_readTape_52 : decode cX2_readTape 52 = .ok (.iconst 0, 1) := by decide +kernel
theorem dX2_readTape_53 : decode cX2_readTape 53 = .ok (.istore_n 1, 1) := by decide +kernel
theorem dX2_readTape_54 : decode cX2_readTape 54 = .ok (.iload_n 1, 1) := by decide +kernel
theorem dX2_readTape_55 : decode cX2_readTape 55 = .ok (.bipush 24, 2) := by decide +kernel
theorem dX2_readTape_57 : decode cX2_readTape 57 = .ok (.if_icmp .gt 29, 3) := by decide +kernel
theorem dX2_readTape_60 : decode cX2_readTape 60 = .ok (.aload_n 0, 1) := by decide +kernel
theorem dX2_readTape_61 : decode cX2_readTape 61 = .ok (.getfield 47, 3) := by decide +kernel
theorem dX2_readTape_64 : decode cX2_readTape 64 = .ok (.bipush 44, 2) := by decide +kernel
theorem dX2_readTape_66 : decode cX2_readTape 66 = .ok (.if_icmp .eq 20, 3) := by decide +kernel
theorem dX2_readTape_69 : decode cX2_readTape 69 = .ok (.aload_n 0, 1) := by decide +kernel
theorem dX2_readTape_70 : decode cX2_readTape 70 = .ok (.getfield 31, 3) := by decide +kernel
theorem dX2_readTape_73 : decode cX2_readTape 73 = .ok (.ifCond .ne 13, 3) := by decide +kernel
theorem dX2_readTape_76 : decode cX2_readTape 76 = .ok (.aload_n 0, 1) := by decide +kernel
theorem dX2_readTape_77 : decode cX2_readTape 77 = .ok (.invokevirtual 65, 3) := by decide +kernel
theorem dX2_readTape_80 : decode cX2_readTape 80 = .ok (.iinc 1 1, 3) := by decide +kernel
theorem dX2_readTape_83 : decode cX2_readTape 83 = .ok (.goto (-29), 3) := by decide +kernel
theorem dX2_readTape_86 : decode cX2_readTape 86 = .ok (.aload_n 0, 1) := by decide +kernel
theorem dX2_readTape_87 : decode cX2_readTape 87 = .ok (.getfield 31, 3) := by decide +kernel
theorem dX2_readTape_90 : decode cX2_readTape 90 = .ok (.ifCond .eq 5, 3) := by decide +kernel
theorem dX2_readTape_93 : decode cX2_readTape 93 = .ok (.aconst_null, 1) := by decide +kernel
theorem dX2_readTape_94 : decode cX2_readTape 94 = .ok (.areturn, 1) := by decide +kernel
theorem dX2_readTape_95 : decode cX2_readTape 95 = .ok (.new 68, 3) := by decide +kernel
theorem dX2_readTape_98 : decode cX2_readTape 98 = .ok (.dup, 1) := by decide +kernel
theorem dX2_readTape_99 : decode cX2_readTape 99 = .ok (.aload_n 0, 1) := by decide +kernel
theorem dX2_readTape_100 : decode cX2_readTape 100 = .ok (.getfield 25, 3) := by decide +kernel
theorem dX2_readTape_103 : decode cX2_readTape 103 = .ok (.iconst 3, 1) := by decide +kernel
theorem dX2_readTape_104 : decode cX2_readTape 104 = .ok (.aload_n 0, 1) := by decide +kernel
theorem dX2_readTape_105 : decode cX2_readTape 105 = .ok (.getfield 56, 3) := by decide +kernel
theorem dX2_readTape_108 : decode cX2_readTape 108 = .ok (.imul, 1) := by decide +kernel
theorem dX2_readTape_109 : decode cX2_readTape 109 = .ok (.invokestatic 70, 3) := by decide +kernel
theorem dX2_readTape_112 : decode cX2_readTape 112 = .ok (.aload_n 0, 1) := by decide +kernel
theorem dX2_readTape_113 : decode cX2_readTape 113 = .ok (.getfield 22, 3) := by decide +kernel
theorem dX2_readTape_116 : decode cX2_readTape 116 = .ok (.aload_n 0, 1) := by decide +kernel
theorem dX2_readTape_117 : decode cX2_readTape 117 = .ok (.getfield 53, 3) := by decide +kernel
theorem dX2_readTape_120 : decode cX2_readTape 120 = .ok (.invokestatic 70, 3) := by decide +kernel
theorem dX2_readTape_123 : decode cX2_readTape 123 = .ok (.aload_n 0, 1) := by decide +kernel
theorem dX2_readTape_124 : decode cX2_readTape 124 = .ok (.getfield 28, 3) := by decide +kernel
theorem dX2_readTape_127 : decode cX2_readTape 127 = .ok (.invokevirtual 74, 3) := by decide +kernel
theorem dX2_readTape_130 : decode cX2_readTape 130 = .ok (.checkcast 75, 3) := by decide +kernel
theorem dX2_readTape_133 : decode cX2_readTape 133 = .ok (.invokespecial 79, 3) := by decide +kernel
theorem dX2_readTape_136 : decode cX2_readTape 136 = .ok (.areturn, 1) := by decide +kernel
theorem dX2_splitTape_0 : decode cX2_splitTape 0 = .ok (.iconst 0, 1) := by decide +kernel
theorem dX2_splitTape_1 : decode cX2_splitTape 1 = .ok (.istore_n 1, 1) := by decide +kernel
theorem dX2_splitTape_2 : decode cX2_splitTape 2 = .ok (.iconst 0, 1) := by decide +kernel
theorem dX2_splitTape_3 : decode cX2_splitTape 3 = .ok (.istore_n 3, 1) := by decide +kernel
theorem dX2_splitTape_4 : decode cX2_splitTape 4 = .ok (.iload_n 3, 1) := by decide +kernel
theorem dX2_splitTape_5 : decode cX2_splitTape 5 = .ok (.aload_n 0, 1) := by decide +kernel
theorem dX2_splitTape_6 : decode cX2_splitTape 6 = .ok (.getfield 38, 3) := by decide +kernel
theorem dX2_splitTape_9 : decode cX2_splitTape 9 = .ok (.if_icmp .ge 179, 3) := by decide +kernel
theorem dX2_splitTape_12 : decode cX2_splitTape 12 = .ok (.iload_n 1, 1) := by decide +kernel
theorem dX2_splitTape_13 : decode cX2_splitTape 13 = .ok (.sipush 300, 3) := by decide +kernel
theorem dX2_splitTape_16 : decode cX2_splitTape 16 = .ok (.if_icmp .ge 172, 3) := by decide +kernel
theorem dX2_splitTape_19 : decode cX2_splitTape 19 = .ok (.iload_n 3, 1) := by decide +kernel
theorem dX2_splitTape_20 : decode cX2_splitTape 20 = .ok (.iconst 1, 1) := by decide +kernel
theorem dX2_splitTape_21 : decode cX2_splitTape 21 = .ok (.iadd, 1) := by decide +kernel
theorem dX2_splitTape_22 : decode cX2_splitTape 22 = .ok (.istore_n 2, 1) := by decide +kernel
theorem dX2_splitTape_23 : decode cX2_splitTape 23 = .ok (.aload_n 0, 1) := by decide +kernel
theorem dX2_splitTape_24 : decode cX2_splitTape 24 = .ok (.getfield 9, 3) := by decide +kernel
theorem dX2_splitTape_27 : decode cX2_splitTape 27 = .ok (.iload_n 3, 1) := by decide +kernel
theorem dX2_splitTape_28 : decode cX2_splitTape 28 = .ok (.baload, 1) := by decide +kernel
theorem dX2_splitTape_29 : decode cX2_splitTape 29 = .ok (.bipush 32, 2) := by decide +kernel
theorem dX2_splitTape_31 : decode cX2_splitTape 31 = .ok (.if_icmp .eq 146, 3) := by decide +kernel
theorem dX2_splitTape_34 : decode cX2_splitTape 34 = .ok (.aload_n 0, 1) := by decide +kernel
theorem dX2_splitTape_35 : decode cX2_splitTape 35 = .ok (.getfield 9, 3) := by decide +kernel
theorem dX2_splitTape_38 : decode cX2_splitTape 38 = .ok (.iload_n 3, 1) := by decide +kernel
theorem dX2_splitTape_39 : decode cX2_splitTape 39 = .ok (.baload, 1) := by decide +kernel
theorem dX2_splitTape_40 : decode cX2_splitTape 40 = .ok (.bipush 10, 2) := by decide +kernel
theorem dX2_splitTape_42 : decode cX2_splitTape 42 = .ok (.if_icmp .ne 6, 3) := by decide +kernel
theorem dX2_splitTape_45 : decode cX2_splitTape 45 = .ok (.goto 132, 3) := by decide +kernel
theorem dX2_splitTape_48 : decode cX2_splitTape 48 = .ok (.aload_n 0, 1) := by decide +kernel
theorem dX2_splitTape_49 : decode cX2_splitTape 49 = .ok (.getfield 9, 3) := by decide +kernel
theorem dX2_splitTape_52 : decode cX2_splitTape 52 = .ok (.iload_n 3, 1) := by decide +kernel
theorem dX2_splitTape_53 : decode cX2_splitTape 53 = .ok (.baload, 1) := by decide +kernel
theorem dX2_splitTape_54 : decode cX2_splitTape 54 = .ok (.invokestatic 82, 3) := by decide +kernel
theorem dX2_splitTape_57 : decode cX2_splitTape 57 = .ok (.ifCond .eq 24, 3) := by decide +kernel
theorem dX2_splitTape_60 : decode cX2_splitTape 60 = .ok (.aload_n 0, 1) := by decide +kernel
theorem dX2_splitTape_61 : decode cX2_splitTape 61 = .ok (.iload_n 3, 1) := by decide +kernel
theorem dX2_splitTape_62 : decode cX2_splitTape 62 = .ok (.invokevirtual 86, 3) := by decide +kernel
theorem dX2_splitTape_65 : decode cX2_splitTape 65 = .ok (.istore_n 2, 1) := by decide +kernel
theorem dX2_splitTape_66 : decode cX2_splitTape 66 = .ok (.aload_n 0, 1) := by decide +kernel
theorem dX2_splitTape_67 : decode cX2_splitTape 67 = .ok (.getfield 15, 3) := by decide +kernel
theorem dX2_splitTape_70 : decode cX2_splitTape 70 = .ok (.iload_n 1, 1) := by decide +kernel
theorem dX2_splitTape_71 : decode cX2_splitTape 71 = .ok (.aload_n 0, 1) := by decide +kernel
theorem dX2_splitTape_72 : decode cX2_splitTape 72 = .ok (.iload_n 3, 1) := by decide +kernel
theorem dX2_splitTape_73 : decode cX2_splitTape 73 = .ok (.iload_n 2, 1) := by decide +kernel
theorem dX2_splitTape_74 : decode cX2_splitTape 74 = .ok (.invokevirtual 90, 3) := by decide +kernel
theorem dX2_splitTape_77 : decode cX2_splitTape 77 = .ok (.iastore, 1) := by decide +kernel
theorem dX2_splitTape_78 : decode cX2_splitTape 78 = .ok (.goto 89, 3) := by decide +kernel
theorem dX2_splitTape_81 : decode cX2_splitTape 81 = .ok (.aload_n 0, 1) := by decide +kernel
theorem dX2_splitTape_82 : decode cX2_splitTape 82 = .ok (.getfield 9, 3) := by decide +kernel
theorem dX2_splitTape_85 : decode cX2_splitTape 85 = .ok (.iload_n 3, 1) := by decide +kernel
theorem dX2_splitTape_86 : decode cX2_splitTape 86 = .ok (.baload, 1) := by decide +kernel
theorem dX2_splitTape_87 : decode cX2_splitTape 87 = .ok (.invokestatic 94, 3) := by decide +kernel
theorem dX2_splitTape_90 : decode cX2_splitTape 90 = .ok (.ifCond .eq 27, 3) := by decide +kernel
theorem dX2_splitTape_93 : decode cX2_splitTape 93 = .ok (.aload_n 0, 1) := by decide +kernel
theorem dX2_splitTape_94 : decode cX2_splitTape 94 = .ok (.iload_n 3, 1) := by decide +kernel
theorem dX2_splitTape_95 : decode cX2_splitTape 95 = .ok (.invokevirtual 97, 3) := by decide +kernel
theorem dX2_splitTape_98 : decode cX2_splitTape 98 = .ok (.istore_n 2, 1) := by decide +kernel
theorem dX2_splitTape_99 : decode cX2_splitTape 99 = .ok (.aload_n 0, 1) := by decide +kernel
theorem dX2_splitTape_100 : decode cX2_splitTape 100 = .ok (.getfield 15, 3) := by decide +kernel
theorem dX2_splitTape_103 : decode cX2_splitTape 103 = .ok (.iload_n 1, 1) := by decide +kernel
theorem dX2_splitTape_104 : decode cX2_splitTape 104 = .ok (.bipush 100, 2) := by decide +kernel
theorem dX2_splitTape_106 : decode cX2_splitTape 106 = .ok (.aload_n 0, 1) := by decide +kernel
theorem dX2_splitTape_107 : decode cX2_splitTape 107 = .ok (.iload_n 3, 1) := by decide +kernel
theorem dX2_splitTape_108 : decode cX2_splitTape 108 = .ok (.iload_n 2, 1) := by decide +kernel
theorem dX2_splitTape_109 : decode cX2_splitTape 109 = .ok (.invokevirtual 100, 3) := by decide +kernel
theorem dX2_splitTape_112 : decode cX2_splitTape 112 = .ok (.iadd, 1) := by decide +kernel
theorem dX2_splitTape_113 : decode cX2_splitTape 113 = .ok (.iastore, 1) := by decide +kernel
theorem dX2_splitTape_114 : decode cX2_splitTape 114 = .ok (.goto 53, 3) := by decide +kernel
theorem dX2_splitTape_117 : decode cX2_splitTape 117 = .ok (.aload_n 0, 1) := by decide +kernel
theorem dX2_splitTape_118 : decode cX2_splitTape 118 = .ok (.iload_n 3, 1) := by decide +kernel
theorem dX2_splitTape_119 : decode cX2_splitTape 119 = .ok (.invokevirtual 103, 3) := by decide +kernel
theorem dX2_splitTape_122 : decode cX2_splitTape 122 = .ok (.ifCond .eq 34, 3) := by decide +kernel
theorem dX2_splitTape_125 : decode cX2_splitTape 125 = .ok (.iload_n 3, 1) := by decide +kernel
theorem dX2_splitTape_126 : decode cX2_splitTape 126 = .ok (.iconst 2, 1) := by decide +kernel
theorem dX2_splitTape_127 : decode cX2_splitTape 127 = .ok (.iadd, 1) := by decide +kernel
theorem dX2_splitTape_128 : decode cX2_splitTape 128 = .ok (.istore_n 2, 1) := by decide +kernel
theorem dX2_splitTape_129 : decode cX2_splitTape 129 = .ok (.aload_n 0, 1) := by decide +kernel
theorem dX2_splitTape_130 : decode cX2_splitTape 130 = .ok (.getfield 15, 3) := by decide +kernel
theorem dX2_splitTape_133 : decode cX2_splitTape 133 = .ok (.iload_n 1, 1) := by decide +kernel
theorem dX2_splitTape_134 : decode cX2_splitTape 134 = .ok (.aload_n 0, 1) := by decide +kernel
theorem dX2_splitTape_135 : decode cX2_splitTape 135 = .ok (.getfield 9, 3) := by decide +kernel
theorem dX2_splitTape_138 : decode cX2_splitTape 138 = .ok (.iload_n 3, 1) := by decide +kernel
theorem dX2_splitTape_139 : decode cX2_splitTape 139 = .ok (.baload, 1) := by decide +kernel
theorem dX2_splitTape_140 : decode cX2_splitTape 140 = .ok (.bipush 60, 2) := by decide +kernel
theorem dX2_splitTape_142 : decode cX2_splitTape 142 = .ok (.if_icmp .ne 8, 3) := by decide +kernel
theorem dX2_splitTape_145 : decode cX2_splitTape 145 = .ok (.bipush 41, 2) := by decide +kernel
theorem dX2_splitTape_147 : decode cX2_splitTape 147 = .ok (.goto 5, 3) := by decide +kernel
theorem dX2_splitTape_150 : decode cX2_splitTape 150 = .ok (.bipush 42, 2) := by decide +kernel
theorem dX2_splitTape_152 : decode cX2_splitTape 152 = .ok (.iastore, 1) := by decide +kernel
theorem dX2_splitTape_153 : decode cX2_splitTape 153 = .ok (.goto 14, 3) := by decide +kernel
theorem dX2_splitTape_156 : decode cX2_splitTape 156 = .ok (.aload_n 0, 1) := by decide +kernel
theorem dX2_splitTape_157 : decode cX2_splitTape 157 = .ok (.getfield 15, 3) := by decide +kernel
theorem dX2_splitTape_160 : decode cX2_splitTape 160 = .ok (.iload_n 1, 1) := by decide +kernel
theorem dX2_splitTape_161 : decode cX2_splitTape 161 = .ok (.aload_n 0, 1) := by decide +kernel
theorem dX2_splitTape_162 : decode cX2_splitTape 162 = .ok (.iload_n 3, 1) := by decide +kernel
theorem dX2_splitTape_163 : decode cX2_splitTape 163 = .ok (.invokevirtual 106, 3) := by decide +kernel
theorem dX2_splitTape_166 : decode cX2_splitTape 166 = .ok (.iastore, 1) := by decide +kernel
theorem dX2_splitTape_167 : decode cX2_splitTape 167 = .ok (.aload_n 0, 1) := by decide +kernel
theorem dX2_splitTape_168 : decode cX2_splitTape 168 = .ok (.getfield 19, 3) := by decide +kernel
theorem dX2_splitTape_171 : decode cX2_splitTape 171 = .ok (.iload_n 1, 1) := by decide +kernel
theorem dX2_splitTape_172 : decode cX2_splitTape 172 = .ok (.iload_n 3, 1) := by decide +kernel
theorem dX2_splitTape_173 : decode cX2_splitTape 173 = .ok (.iastore, 1) := by decide +kernel
theorem dX2_splitTape_174 : decode cX2_splitTape 174 = .ok (.iinc 1 1, 3) := by decide +kernel
theorem dX2_splitTape_177 : decode cX2_splitTape 177 = .ok (.iload_n 3, 1) := by decide +kernel
theorem dX2_splitTape_178 : decode cX2_splitTape 178 = .ok (.iconst 1, 1) := by decide +kernel
theorem dX2_splitTape_179 : decode cX2_splitTape 179 = .ok (.iadd, 1) := by decide +kernel
theorem dX2_splitTape_180 : decode cX2_splitTape 180 = .ok (.iload_n 2, 1) := by decide +kernel
theorem dX2_splitTape_181 : decode cX2_splitTape 181 = .ok (.invokestatic 109, 3) := by decide +kernel
theorem dX2_splitTape_184 : decode cX2_splitTape 184 = .ok (.istore_n 3, 1) := by decide +kernel
theorem dX2_splitTape_185 : decode cX2_splitTape 185 = .ok (.goto (-181), 3) := by decide +kernel
theorem dX2_splitTape_188 : decode cX2_splitTape 188 = .ok (.aload_n 0, 1) := by decide +kernel
theorem dX2_splitTape_189 : decode cX2_splitTape 189 = .ok (.getfield 15, 3) := by decide +kernel
theorem dX2_splitTape_192 : decode cX2_splitTape 192 = .ok (.iload_n 1, 1) := by decide +kernel
theorem dX2_splitTape_193 : decode cX2_splitTape 193 = .ok (.bipush 44, 2) := by decide +kernel
theorem dX2_splitTape_195 : decode cX2_splitTape 195 = .ok (.iastore, 1) := by decide +kernel
theorem dX2_splitTape_196 : decode cX2_splitTape 196 = .ok (.aload_n 0, 1) := by decide +kernel
theorem dX2_splitTape_197 : decode cX2_splitTape 197 = .ok (.getfield 19, 3) := by decide +kernel
theorem dX2_splitTape_200 : decode cX2_splitTape 200 = .ok (.iload_n 1, 1) := by decide +kernel
theorem dX2_splitTape_201 : decode cX2_splitTape 201 = .ok (.aload_n 0, 1) := by decide +kernel
theorem dX2_splitTape_202 : decode cX2_splitTape 202 = .ok (.getfield 38, 3) := by decide +kernel
theorem dX2_splitTape_205 : decode cX2_splitTape 205 = .ok (.iastore, 1) := by decide +kernel
theorem dX2_splitTape_206 : decode cX2_splitTape 206 = .ok (.return_, 1) := by decide +kernel
theorem dX2_isLetter_0 : decode cX2_isLetter 0 = .ok (.iload_n 0, 1) := by decide +kernel
theorem dX2_isLetter_1 : decode cX2_isLetter 1 = .ok (.bipush 97, 2) := by decide +kernel
theorem dX2_isLetter_3 : decode cX2_isLetter 3 = .ok (.bipush 122, 2) := by decide +kernel
theorem dX2_isLetter_5 : decode cX2_isLetter 5 = .ok (.invokestatic 114, 3) := by decide +kernel
theorem dX2_isLetter_8 : decode cX2_isLetter 8 = .ok (.ifCond .ne 14, 3) := by decide +kernel
theorem dX2_isLetter_11 : decode cX2_isLetter 11 = .ok (.iload_n 0, 1) := by decide +kernel
theorem dX2_isLetter_12 : decode cX2_isLetter 12 = .ok (.bipush 65, 2) := by decide +kernel
theorem dX2_isLetter_14 : decode cX2_isLetter 14 = .ok (.bipush 90, 2) := by decide +kernel
theorem dX2_isLetter_16 : decode cX2_isLetter 16 = .ok (.invokestatic 114, 3) := by decide +kernel
theorem dX2_isLetter_19 : decode cX2_isLetter 19 = .ok (.ifCond .eq 7, 3) := by decide +kernel
theorem dX2_isLetter_22 : decode cX2_isLetter 22 = .ok (.iconst 1, 1) := by decide +kernel
theorem dX2_isLetter_23 : decode cX2_isLetter 23 = .ok (.goto 4, 3) := by decide +kernel
theorem dX2_isLetter_26 : decode cX2_isLetter 26 = .ok (.iconst 0, 1) := by decide +kernel
theorem dX2_isLetter_27 : decode cX2_isLetter 27 = .ok (.ireturn, 1) := by decide +kernel
theorem dX2_isDigit_0 : decode cX2_isDigit 0 = .ok (.iload_n 0, 1) := by decide +kernel
theorem dX2_isDigit_1 : decode cX2_isDigit 1 = .ok (.bipush 48, 2) := by decide +kernel
theorem dX2_isDigit_3 : decode cX2_isDigit 3 = .ok (.bipush 57, 2) := by decide +kernel
theorem dX2_isDigit_5 : decode cX2_isDigit 5 = .ok (.invokestatic 114, 3) := by decide +kernel
theorem dX2_isDigit_8 : decode cX2_isDigit 8 = .ok (.ireturn, 1) := by decide +kernel
theorem dX2_behindWord_0 : decode cX2_behindWord 0 = .ok (.iload_n 1, 1) := by decide +kernel
theorem dX2_behindWord_1 : decode cX2_behindWord 1 = .ok (.istore_n 2, 1) := by decide +kernel
theorem dX2_behindWord_2 : decode cX2_behindWord 2 = .ok (.iload_n 2, 1) := by decide +kernel
theorem dX2_behindWord_3 : decode cX2_behindWord 3 = .ok (.aload_n 0, 1) := by decide +kernel
theorem dX2_behindWord_4 : decode cX2_behindWord 4 = .ok (.getfield 38, 3) := by decide +kernel
theorem dX2_behindWord_7 : decode cX2_behindWord 7 = .ok (.if_icmp .ge 21, 3) := by decide +kernel
theorem dX2_behindWord_10 : decode cX2_behindWord 10 = .ok (.aload_n 0, 1) := by decide +kernel
theorem dX2_behindWord_11 : decode cX2_behindWord 11 = .ok (.getfield 9, 3) := by decide +kernel
theorem dX2_behindWord_14 : decode cX2_behindWord 14 = .ok (.iload_n 2, 1) := by decide +kernel
theorem dX2_behindWord_15 : decode cX2_behindWord 15 = .ok (.baload, 1) := by decide +kernel
theorem dX2_behindWord_16 : decode cX2_behindWord 16 = .ok (.invokestatic 82, 3) := by decide +kernel
theorem dX2_behindWord_19 : decode cX2_behindWord 19 = .ok (.ifCond .eq 9, 3) := by decide +kernel
theorem dX2_behindWord_22 : decode cX2_behindWord 22 = .ok (.iinc 2 1, 3) := by decide +kernel
theorem dX2_behindWord_25 : decode cX2_behindWord 25 = .ok (.goto (-23), 3) := by decide +kernel
theorem dX2_behindWord_28 : decode cX2_behindWord 28 = .ok (.iload_n 2, 1) := by decide +kernel
theorem dX2_behindWord_29 : decode cX2_behindWord 29 = .ok (.ireturn, 1) := by decide +kernel
theorem dX2_wordAt_0 : decode cX2_wordAt 0 = .ok (.iconst 0, 1) := by decide +kernel
theorem dX2_wordAt_1 : decode cX2_wordAt 1 = .ok (.istore_n 3, 1) := by decide +kernel
theorem dX2_wordAt_2 : decode cX2_wordAt 2 = .ok (.iload_n 1, 1) := by decide +kernel
theorem dX2_wordAt_3 : decode cX2_wordAt 3 = .ok (.istore 4, 2) := by decide +kernel
theorem dX2_wordAt_5 : decode cX2_wordAt 5 = .ok (.iconst 1, 1) := by decide +kernel
theorem dX2_wordAt_6 : decode cX2_wordAt 6 = .ok (.istore 5, 2) := by decide +kernel
theorem dX2_wordAt_8 : decode cX2_wordAt 8 = .ok (.iconst 0, 1) := by decide +kernel
theorem dX2_wordAt_9 : decode cX2_wordAt 9 = .ok (.istore 6, 2) := by decide +kernel
theorem dX2_wordAt_11 : decode cX2_wordAt 11 = .ok (.iload 6, 2) := by decide +kernel
theorem dX2_wordAt_13 : decode cX2_wordAt 13 = .ok (.ldc 118, 2) := by decide +kernel
theorem dX2_wordAt_15 : decode cX2_wordAt 15 = .ok (.invokevirtual 120, 3) := by decide +kernel
theorem dX2_wordAt_18 : decode cX2_wordAt 18 = .ok (.if_icmp .ge 83, 3) := by decide +kernel
theorem dX2_wordAt_21 : decode cX2_wordAt 21 = .ok (.ldc 118, 2) := by decide +kernel
theorem dX2_wordAt_23 : decode cX2_wordAt 23 = .ok (.iload 6, 2) := by decide +kernel
theorem dX2_wordAt_25 : decode cX2_wordAt 25 = .ok (.invokevirtual 125, 3) := by decide +kernel
theorem dX2_wordAt_28 : decode cX2_wordAt 28 = .ok (.istore 7, 2) := by decide +kernel
theorem dX2_wordAt_30 : decode cX2_wordAt 30 = .ok (.iload 7, 2) := by decide +kernel
theorem dX2_wordAt_32 : decode cX2_wordAt 32 = .ok (.bipush 32, 2) := by decide +kernel
theorem dX2_wordAt_34 : decode cX2_wordAt 34 = .ok (.if_icmp .eq 39, 3) := by decide +kernel
theorem dX2_wordAt_37 : decode cX2_wordAt 37 = .ok (.iload 5, 2) := by decide +kernel
theorem dX2_wordAt_39 : decode cX2_wordAt 39 = .ok (.ifCond .eq 25, 3) := by decide +kernel
theorem dX2_wordAt_42 : decode cX2_wordAt 42 = .ok (.iload 4, 2) := by decide +kernel
theorem dX2_wordAt_44 : decode cX2_wordAt 44 = .ok (.iload_n 2, 1) := by decide +kernel
theorem dX2_wordAt_45 : decode cX2_wordAt 45 = .ok (.if_icmp .ge 19, 3) := by decide +kernel
theorem dX2_wordAt_48 : decode cX2_wordAt 48 = .ok (.aload_n 0, 1) := by decide +kernel
theorem dX2_wordAt_49 : decode cX2_wordAt 49 = .ok (.getfield 9, 3) := by decide +kernel
theorem dX2_wordAt_52 : decode cX2_wordAt 52 = .ok (.iload 4, 2) := by decide +kernel
theorem dX2_wordAt_54 : decode cX2_wordAt 54 = .ok (.baload, 1) := by decide +kernel
theorem dX2_wordAt_55 : decode cX2_wordAt 55 = .ok (.iload 7, 2) := by decide +kernel
theorem dX2_wordAt_57 : decode cX2_wordAt 57 = .ok (.if_icmp .ne 7, 3) := by decide +kernel
theorem dX2_wordAt_60 : decode cX2_wordAt 60 = .ok (.iconst 1, 1) := by decide +kernel
theorem dX2_wordAt_61 : decode cX2_wordAt 61 = .ok (.goto 4, 3) := by decide +kernel
theorem dX2_wordAt_64 : decode cX2_wordAt 64 = .ok (.iconst 0, 1) := by decide +kernel
theorem dX2_wordAt_65 : decode cX2_wordAt 65 = .ok (.istore 5, 2) := by decide +kernel
theorem dX2_wordAt_67 : decode cX2_wordAt 67 = .ok (.iinc 4 1, 3) := by decide +kernel
theorem dX2_wordAt_70 : decode cX2_wordAt 70 = .ok (.goto 25, 3) := by decide +kernel
theorem dX2_wordAt_73 : decode cX2_wordAt 73 = .ok (.iload 5, 2) := by decide +kernel
theorem dX2_wordAt_75 : decode cX2_wordAt 75 = .ok (.ifCond .eq 11, 3) := by decide +kernel
theorem dX2_wordAt_78 : decode cX2_wordAt 78 = .ok (.iload 4, 2) := by decide +kernel
theorem dX2_wordAt_80 : decode cX2_wordAt 80 = .ok (.iload_n 2, 1) := by decide +kernel
theorem dX2_wordAt_81 : decode cX2_wordAt 81 = .ok (.if_icmp .ne 5, 3) := by decide +kernel
theorem dX2_wordAt_84 : decode cX2_wordAt 84 = .ok (.iload_n 3, 1) := by decide +kernel
theorem dX2_wordAt_85 : decode cX2_wordAt 85 = .ok (.ireturn, 1) := by decide +kernel
theorem dX2_wordAt_86 : decode cX2_wordAt 86 = .ok (.iinc 3 1, 3) := by decide +kernel
theorem dX2_wordAt_89 : decode cX2_wordAt 89 = .ok (.iload_n 1, 1) := by decide +kernel
theorem dX2_wordAt_90 : decode cX2_wordAt 90 = .ok (.istore 4, 2) := by decide +kernel
theorem dX2_wordAt_92 : decode cX2_wordAt 92 = .ok (.iconst 1, 1) := by decide +kernel
theorem dX2_wordAt_93 : decode cX2_wordAt 93 = .ok (.istore 5, 2) := by decide +kernel
theorem dX2_wordAt_95 : decode cX2_wordAt 95 = .ok (.iinc 6 1, 3) := by decide +kernel
theorem dX2_wordAt_98 : decode cX2_wordAt 98 = .ok (.goto (-87), 3) := by decide +kernel
theorem dX2_wordAt_101 : decode cX2_wordAt 101 = .ok (.bipush 45, 2) := by decide +kernel
theorem dX2_wordAt_103 : decode cX2_wordAt 103 = .ok (.ireturn, 1) := by decide +kernel
theorem dX2_behindNumber_0 : decode cX2_behindNumber 0 = .ok (.iload_n 1, 1) := by decide +kernel
theorem dX2_behindNumber_1 : decode cX2_behindNumber 1 = .ok (.istore_n 2, 1) := by decide +kernel
theorem dX2_behindNumber_2 : decode cX2_behindNumber 2 = .ok (.iload_n 2, 1) := by decide +kernel
theorem dX2_behindNumber_3 : decode cX2_behindNumber 3 = .ok (.aload_n 0, 1) := by decide +kernel
theorem dX2_behindNumber_4 : decode cX2_behindNumber 4 = .ok (.getfield 38, 3) := by decide +kernel
theorem dX2_behindNumber_7 : decode cX2_behindNumber 7 = .ok (.if_icmp .ge 21, 3) := by decide +kernel
theorem dX2_behindNumber_10 : decode cX2_behindNumber 10 = .ok (.aload_n 0, 1) := by decide +kernel
theorem dX2_behindNumber_11 : decode cX2_behindNumber 11 = .ok (.getfield 9, 3) := by decide +kernel
theorem dX2_behindNumber_14 : decode cX2_behindNumber 14 = .ok (.iload_n 2, 1) := by decide +kernel
theorem dX2_behindNumber_15 : decode cX2_behindNumber 15 = .ok (.baload, 1) := by decide +kernel
theorem dX2_behindNumber_16 : decode cX2_behindNumber 16 = .ok (.invokestatic 94, 3) := by decide +kernel
theorem dX2_behindNumber_19 : decode cX2_behindNumber 19 = .ok (.ifCond .eq 9, 3) := by decide +kernel
theorem dX2_behindNumber_22 : decode cX2_behindNumber 22 = .ok (.iinc 2 1, 3) := by decide +kernel
theorem dX2_behindNumber_25 : decode cX2_behindNumber 25 = .ok (.goto (-23), 3) := by decide +kernel
theorem dX2_behindNumber_28 : decode cX2_behindNumber 28 = .ok (.iload_n 2, 1) := by decide +kernel
theorem dX2_behindNumber_29 : decode cX2_behindNumber 29 = .ok (.ireturn, 1) := by decide +kernel
theorem dX2_numberAt_0 : decode cX2_numberAt 0 = .ok (.iconst 0, 1) := by decide +kernel
theorem dX2_numberAt_1 : decode cX2_numberAt 1 = .ok (.istore_n 3, 1) := by decide +kernel
theorem dX2_numberAt_2 : decode cX2_numberAt 2 = .ok (.iload_n 1, 1) := by decide +kernel
theorem dX2_numberAt_3 : decode cX2_numberAt 3 = .ok (.istore 4, 2) := by decide +kernel
theorem dX2_numberAt_5 : decode cX2_numberAt 5 = .ok (.iload 4, 2) := by decide +kernel
theorem dX2_numberAt_7 : decode cX2_numberAt 7 = .ok (.iload_n 2, 1) := by decide +kernel
theorem dX2_numberAt_8 : decode cX2_numberAt 8 = .ok (.if_icmp .ge 31, 3) := by decide +kernel
theorem dX2_numberAt_11 : decode cX2_numberAt 11 = .ok (.sipush 10000, 3) := by decide +kernel
theorem dX2_numberAt_14 : decode cX2_numberAt 14 = .ok (.iload_n 3, 1) := by decide +kernel
theorem dX2_numberAt_15 : decode cX2_numberAt 15 = .ok (.bipush 10, 2) := by decide +kernel
theorem dX2_numberAt_17 : decode cX2_numberAt 17 = .ok (.imul, 1) := by decide +kernel
theorem dX2_numberAt_18 : decode cX2_numberAt 18 = .ok (.aload_n 0, 1) := by decide +kernel
theorem dX2_numberAt_19 : decode cX2_numberAt 19 = .ok (.getfield 9, 3) := by decide +kernel
theorem dX2_numberAt_22 : decode cX2_numberAt 22 = .ok (.iload 4, 2) := by decide +kernel
theorem dX2_numberAt_24 : decode cX2_numberAt 24 = .ok (.baload, 1) := by decide +kernel
theorem dX2_numberAt_25 : decode cX2_numberAt 25 = .ok (.iadd, 1) := by decide +kernel
theorem dX2_numberAt_26 : decode cX2_numberAt 26 = .ok (.bipush 48, 2) := by decide +kernel
theorem dX2_numberAt_28 : decode cX2_numberAt 28 = .ok (.isub, 1) := by decide +kernel
theorem dX2_numberAt_29 : decode cX2_numberAt 29 = .ok (.invokestatic 129, 3) := by decide +kernel
theorem dX2_numberAt_32 : decode cX2_numberAt 32 = .ok (.istore_n 3, 1) := by decide +kernel
theorem dX2_numberAt_33 : decode cX2_numberAt 33 = .ok (.iinc 4 1, 3) := by decide +kernel
theorem dX2_numberAt_36 : decode cX2_numberAt 36 = .ok (.goto (-31), 3) := by decide +kernel
theorem dX2_numberAt_39 : decode cX2_numberAt 39 = .ok (.iload_n 3, 1) := by decide +kernel
theorem dX2_numberAt_40 : decode cX2_numberAt 40 = .ok (.ireturn, 1) := by decide +kernel
theorem dX2_startsDouble_0 : decode cX2_startsDouble 0 = .ok (.aload_n 0, 1) := by decide +kernel
theorem dX2_startsDouble_1 : decode cX2_startsDouble 1 = .ok (.getfield 9, 3) := by decide +kernel
theorem dX2_startsDouble_4 : decode cX2_startsDouble 4 = .ok (.iload_n 1, 1) := by decide +kernel
theorem dX2_startsDouble_5 : decode cX2_startsDouble 5 = .ok (.baload, 1) := by decide +kernel
theorem dX2_startsDouble_6 : decode cX2_startsDouble 6 = .ok (.bipush 60, 2) := by decide +kernel
theorem dX2_startsDouble_8 : decode cX2_startsDouble 8 = .ok (.if_icmp .eq 14, 3) := by decide +kernel
theorem dX2_startsDouble_11 : decode cX2_startsDouble 11 = .ok (.aload_n 0, 1) := by decide +kernel
theorem dX2_startsDouble_12 : decode cX2_startsDouble 12 = .ok (.getfield 9, 3) := by decide +kernel
theorem dX2_startsDouble_15 : decode cX2_startsDouble 15 = .ok (.iload_n 1, 1) := by decide +kernel
theorem dX2_startsDouble_16 : decode cX2_startsDouble 16 = .ok (.baload, 1) := by decide +kernel
theorem dX2_startsDouble_17 : decode cX2_startsDouble 17 = .ok (.bipush 62, 2) := by decide +kernel
theorem dX2_startsDouble_19 : decode cX2_startsDouble 19 = .ok (.if_icmp .ne 30, 3) := by decide +kernel
theorem dX2_startsDouble_22 : decode cX2_startsDouble 22 = .ok (.iload_n 1, 1) := by decide +kernel
theorem dX2_startsDouble_23 : decode cX2_startsDouble 23 = .ok (.iconst 1, 1) := by decide +kernel
theorem dX2_startsDouble_24 : decode cX2_startsDouble 24 = .ok (.iadd, 1) := by decide +kernel
theorem dX2_startsDouble_25 : decode cX2_startsDouble 25 = .ok (.aload_n 0, 1) := by decide +kernel
theorem dX2_startsDouble_26 : decode cX2_startsDouble 26 = .ok (.getfield 38, 3) := by decide +kernel
theorem dX2_startsDouble_29 : decode cX2_startsDouble 29 = .ok (.if_icmp .ge 20, 3) := by decide +kernel
theorem dX2_startsDouble_32 : decode cX2_startsDouble 32 = .ok (.aload_n 0, 1) := by decide +kernel
theorem dX2_startsDouble_33 : decode cX2_startsDouble 33 = .ok (.getfield 9, 3) := by decide +kernel
theorem dX2_startsDouble_36 : decode cX2_startsDouble 36 = .ok (.iload_n 1, 1) := by decide +kernel
theorem dX2_startsDouble_37 : decode cX2_startsDouble 37 = .ok (.iconst 1, 1) := by decide +kernel
theorem dX2_startsDouble_38 : decode cX2_startsDouble 38 = .ok (.iadd, 1) := by decide +kernel
theorem dX2_startsDouble_39 : decode cX2_startsDouble 39 = .ok (.baload, 1) := by decide +kernel
theorem dX2_startsDouble_40 : decode cX2_startsDouble 40 = .ok (.bipush 61, 2) := by decide +kernel
theorem dX2_startsDouble_42 : decode cX2_startsDouble 42 = .ok (.if_icmp .ne 7, 3) := by decide +kernel
theorem dX2_startsDouble_45 : decode cX2_startsDouble 45 = .ok (.iconst 1, 1) := by decide +kernel
theorem dX2_startsDouble_46 : decode cX2_startsDouble 46 = .ok (.goto 4, 3) := by decide +kernel
theorem dX2_startsDouble_49 : decode cX2_startsDouble 49 = .ok (.iconst 0, 1) := by decide +kernel
theorem dX2_startsDouble_50 : decode cX2_startsDouble 50 = .ok (.ireturn, 1) := by decide +kernel
theorem dX2_signAt_0 : decode cX2_signAt 0 = .ok (.aload_n 0, 1) := by decide +kernel
theorem dX2_signAt_1 : decode cX2_signAt 1 = .ok (.getfield 9, 3) := by decide +kernel
theorem dX2_signAt_4 : decode cX2_signAt 4 = .ok (.iload_n 1, 1) := by decide +kernel
theorem dX2_signAt_5 : decode cX2_signAt 5 = .ok (.baload, 1) := by decide +kernel
theorem dX2_signAt_6 : decode cX2_signAt 6 = .ok (.ifCond .ge 7, 3) := by decide +kernel
theorem dX2_signAt_9 : decode cX2_signAt 9 = .ok (.iconst (-1), 1) := by decide +kernel
theorem dX2_signAt_10 : decode cX2_signAt 10 = .ok (.goto 15, 3) := by decide +kernel
theorem dX2_signAt_13 : decode cX2_signAt 13 = .ok (.ldc 132, 2) := by decide +kernel
theorem dX2_signAt_15 : decode cX2_signAt 15 = .ok (.aload_n 0, 1) := by decide +kernel
theorem dX2_signAt_16 : decode cX2_signAt 16 = .ok (.getfield 9, 3) := by decide +kernel
theorem dX2_signAt_19 : decode cX2_signAt 19 = .ok (.iload_n 1, 1) := by decide +kernel
theorem dX2_signAt_20 : decode cX2_signAt 20 = .ok (.baload, 1) := by decide +kernel
theorem dX2_signAt_21 : decode cX2_signAt 21 = .ok (.i2c, 1) := by decide +kernel
theorem dX2_signAt_22 : decode cX2_signAt 22 = .ok (.invokevirtual 134, 3) := by decide +kernel
theorem dX2_signAt_25 : decode cX2_signAt 25 = .ok (.istore_n 2, 1) := by decide +kernel
theorem dX2_signAt_26 : decode cX2_signAt 26 = .ok (.iload_n 2, 1) := by decide +kernel
theorem dX2_signAt_27 : decode cX2_signAt 27 = .ok (.ifCond .ge 8, 3) := by decide +kernel
theorem dX2_signAt_30 : decode cX2_signAt 30 = .ok (.bipush 45, 2) := by decide +kernel
theorem dX2_signAt_32 : decode cX2_signAt 32 = .ok (.goto 7, 3) := by decide +kernel
theorem dX2_signAt_35 : decode cX2_signAt 35 = .ok (.bipush 30, 2) := by decide +kernel
theorem dX2_signAt_37 : decode cX2_signAt 37 = .ok (.iload_n 2, 1) := by decide +kernel
theorem dX2_signAt_38 : decode cX2_signAt 38 = .ok (.iadd, 1) := by decide +kernel
theorem dX2_signAt_39 : decode cX2_signAt 39 = .ok (.ireturn, 1) := by decide +kernel
theorem dX2_fail_0 : decode cX2_fail 0 = .ok (.aload_n 0, 1) := by decide +kernel
theorem dX2_fail_1 : decode cX2_fail 1 = .ok (.getfield 31, 3) := by decide +kernel
theorem dX2_fail_4 : decode cX2_fail 4 = .ok (.ifCond .ne 21, 3) := by decide +kernel
theorem dX2_fail_7 : decode cX2_fail 7 = .ok (.aload_n 0, 1) := by decide +kernel
theorem dX2_fail_8 : decode cX2_fail 8 = .ok (.iload_n 1, 1) := by decide +kernel
theorem dX2_fail_9 : decode cX2_fail 9 = .ok (.putfield 31, 3) := by decide +kernel
theorem dX2_fail_12 : decode cX2_fail 12 = .ok (.aload_n 0, 1) := by decide +kernel
theorem dX2_fail_13 : decode cX2_fail 13 = .ok (.aload_n 0, 1) := by decide +kernel
theorem dX2_fail_14 : decode cX2_fail 14 = .ok (.getfield 19, 3) := by decide +kernel
theorem dX2_fail_17 : decode cX2_fail 17 = .ok (.aload_n 0, 1) := by decide +kernel
theorem dX2_fail_18 : decode cX2_fail 18 = .ok (.getfield 44, 3) := by decide +kernel
theorem dX2_fail_21 : decode cX2_fail 21 = .ok (.iaload, 1) := by decide +kernel
theorem dX2_fail_22 : decode cX2_fail 22 = .ok (.putfield 35, 3) := by decide +kernel
theorem dX2_fail_25 : decode cX2_fail 25 = .ok (.aload_n 0, 1) := by decide +kernel
theorem dX2_fail_26 : decode cX2_fail 26 = .ok (.bipush 45, 2) := by decide +kernel
theorem dX2_fail_28 : decode cX2_fail 28 = .ok (.putfield 47, 3) := by decide +kernel
theorem dX2_fail_31 : decode cX2_fail 31 = .ok (.return_, 1) := by decide +kernel
theorem dX2_nextToken_0 : decode cX2_nextToken 0 = .ok (.aload_n 0, 1) := by decide +kernel
theorem dX2_nextToken_1 : decode cX2_nextToken 1 = .ok (.getfield 31, 3) := by decide +kernel
theorem dX2_nextToken_4 : decode cX2_nextToken 4 = .ok (.ifCond .ne 49, 3) := by decide +kernel
theorem dX2_nextToken_7 : decode cX2_nextToken 7 = .ok (.aload_n 0, 1) := by decide +kernel
theorem dX2_nextToken_8 : decode cX2_nextToken 8 = .ok (.getfield 47, 3) := by decide +kernel
theorem dX2_nextToken_11 : decode cX2_nextToken 11 = .ok (.bipush 44, 2) := by decide +kernel
theorem dX2_nextToken_13 : decode cX2_nextToken 13 = .ok (.if_icmp .eq 40, 3) := by decide +kernel
theorem dX2_nextToken_16 : decode cX2_nextToken 16 = .ok (.aload_n 0, 1) := by decide +kernel
theorem dX2_nextToken_17 : decode cX2_nextToken 17 = .ok (.getfield 44, 3) := by decide +kernel
theorem dX2_nextToken_20 : decode cX2_nextToken 20 = .ok (.iconst 1, 1) := by decide +kernel
theorem dX2_nextToken_21 : decode cX2_nextToken 21 = .ok (.iadd, 1) := by decide +kernel
theorem dX2_nextToken_22 : decode cX2_nextToken 22 = .ok (.aload_n 0, 1) := by decide +kernel
theorem dX2_nextToken_23 : decode cX2_nextToken 23 = .ok (.getfield 15, 3) := by decide +kernel
theorem dX2_nextToken_26 : decode cX2_nextToken 26 = .ok (.arraylength, 1) := by decide +kernel
theorem dX2_nextToken_27 : decode cX2_nextToken 27 = .ok (.if_icmp .ge 26, 3) := by decide +kernel
theorem dX2_nextToken_30 : decode cX2_nextToken 30 = .ok (.aload_n 0, 1) := by decide +kernel
theorem dX2_nextToken_31 : decode cX2_nextToken 31 = .ok (.dup, 1) := by decide +kernel
theorem dX2_nextToken_32 : decode cX2_nextToken 32 = .ok (.getfield 44, 3) := by decide +kernel
theorem dX2_nextToken_35 : decode cX2_nextToken 35 = .ok (.iconst 1, 1) := by decide +kernel
theorem dX2_nextToken_36 : decode cX2_nextToken 36 = .ok (.iadd, 1) := by decide +kernel
theorem dX2_nextToken_37 : decode cX2_nextToken 37 = .ok (.putfield 44, 3) := by decide +kernel
theorem dX2_nextToken_40 : decode cX2_nextToken 40 = .ok (.aload_n 0, 1) := by decide +kernel
theorem dX2_nextToken_41 : decode cX2_nextToken 41 = .ok (.aload_n 0, 1) := by decide +kernel
theorem dX2_nextToken_42 : decode cX2_nextToken 42 = .ok (.getfield 15, 3) := by decide +kernel
theorem dX2_nextToken_45 : decode cX2_nextToken 45 = .ok (.aload_n 0, 1) := by decide +kernel
theorem dX2_nextToken_46 : decode cX2_nextToken 46 = .ok (.getfield 44, 3) := by decide +kernel
theorem dX2_nextToken_49 : decode cX2_nextToken 49 = .ok (.iaload, 1) := by decide +kernel
theorem dX2_nextToken_50 : decode cX2_nextToken 50 = .ok (.putfield 47, 3) := by decide +kernel
theorem dX2_nextToken_53 : decode cX2_nextToken 53 = .ok (.return_, 1) := by decide +kernel
theorem dX2_expect_0 : decode cX2_expect 0 = .ok (.aload_n 0, 1) := by decide +kernel
theorem dX2_expect_1 : decode cX2_expect 1 = .ok (.getfield 47, 3) := by decide +kernel
theorem dX2_expect_4 : decode cX2_expect 4 = .ok (.iload_n 1, 1) := by decide +kernel
theorem dX2_expect_5 : decode cX2_expect 5 = .ok (.if_icmp .ne 10, 3) := by decide +kernel
theorem dX2_expect_8 : decode cX2_expect 8 = .ok (.aload_n 0, 1) := by decide +kernel
theorem dX2_expect_9 : decode cX2_expect 9 = .ok (.invokevirtual 137, 3) := by decide +kernel
theorem dX2_expect_12 : decode cX2_expect 12 = .ok (.goto 8, 3) := by decide +kernel
theorem dX2_expect_15 : decode cX2_expect 15 = .ok (.aload_n 0, 1) := by decide +kernel
theorem dX2_expect_16 : decode cX2_expect 16 = .ok (.iconst 1, 1) := by decide +kernel
theorem dX2_expect_17 : decode cX2_expect 17 = .ok (.invokevirtual 140, 3) := by decide +kernel
theorem dX2_expect_20 : decode cX2_expect 20 = .ok (.return_, 1) := by decide +kernel
theorem dX2_expectNumber_0 : decode cX2_expectNumber 0 = .ok (.aload_n 0, 1) := by decide +kernel
theorem dX2_expectNumber_1 : decode cX2_expectNumber 1 = .ok (.getfield 47, 3) := by decide +kernel
theorem dX2_expectNumber_4 : decode cX2_expectNumber 4 = .ok (.bipush 100, 2) := by decide +kernel
theorem dX2_expectNumber_6 : decode cX2_expectNumber 6 = .ok (.isub, 1) := by decide +kernel
theorem dX2_expectNumber_7 : decode cX2_expectNumber 7 = .ok (.istore_n 3, 1) := by decide +kernel
theorem dX2_expectNumber_8 : decode cX2_expectNumber 8 = .ok (.iload_n 3, 1) := by decide +kernel
theorem dX2_expectNumber_9 : decode cX2_expectNumber 9 = .ok (.ifCond .ge 10, 3) := by decide +kernel
theorem dX2_expectNumber_12 : decode cX2_expectNumber 12 = .ok (.aload_n 0, 1) := by decide +kernel
theorem dX2_expectNumber_13 : decode cX2_expectNumber 13 = .ok (.iconst 1, 1) := by decide +kernel
theorem dX2_expectNumber_14 : decode cX2_expectNumber 14 = .ok (.invokevirtual 140, 3) := by decide +kernel
theorem dX2_expectNumber_17 : decode cX2_expectNumber 17 = .ok (.iconst 0, 1) := by decide +kernel
theorem dX2_expectNumber_18 : decode cX2_expectNumber 18 = .ok (.ireturn, 1) := by decide +kernel
theorem dX2_expectNumber_19 : decode cX2_expectNumber 19 = .ok (.iload_n 3, 1) := by decide +kernel
theorem dX2_expectNumber_20 : decode cX2_expectNumber 20 = .ok (.iload_n 1, 1) := by decide +kernel
theorem dX2_expectNumber_21 : decode cX2_expectNumber 21 = .ok (.iload_n 2, 1) := by decide +kernel
theorem dX2_expectNumber_22 : decode cX2_expectNumber 22 = .ok (.invokestatic 114, 3) := by decide +kernel
theorem dX2_expectNumber_25 : decode cX2_expectNumber 25 = .ok (.ifCond .ne 10, 3) := by decide +kernel
theorem dX2_expectNumber_28 : decode cX2_expectNumber 28 = .ok (.aload_n 0, 1) := by decide +kernel
theorem dX2_expectNumber_29 : decode cX2_expectNumber 29 = .ok (.iconst 2, 1) := by decide +kernel
theorem dX2_expectNumber_30 : decode cX2_expectNumber 30 = .ok (.invokevirtual 140, 3) := by decide +kernel
theorem dX2_expectNumber_33 : decode cX2_expectNumber 33 = .ok (.iconst 0, 1) := by decide +kernel
theorem dX2_expectNumber_34 : decode cX2_expectNumber 34 = .ok (.ireturn, 1) := by decide +kernel
theorem dX2_expectNumber_35 : decode cX2_expectNumber 35 = .ok (.aload_n 0, 1) := by decide +kernel
theorem dX2_expectNumber_36 : decode cX2_expectNumber 36 = .ok (.invokevirtual 137, 3) := by decide +kernel
theorem dX2_expectNumber_39 : decode cX2_expectNumber 39 = .ok (.iload_n 3, 1) := by decide +kernel
theorem dX2_expectNumber_40 : decode cX2_expectNumber 40 = .ok (.ireturn, 1) := by decide +kernel
theorem dX2_readClause_0 : decode cX2_readClause 0 = .ok (.aload_n 0, 1) := by decide +kernel
theorem dX2_readClause_1 : decode cX2_readClause 1 = .ok (.getfield 47, 3) := by decide +kernel
theorem dX2_readClause_4 : decode cX2_readClause 4 = .ok (.istore_n 1, 1) := by decide +kernel
theorem dX2_readClause_5 : decode cX2_readClause 5 = .ok (.iload_n 1, 1) := by decide +kernel
theorem dX2_readClause_6 : decode cX2_readClause 6 = .ok (.bipush 11, 2) := by decide +kernel
theorem dX2_readClause_8 : decode cX2_readClause 8 = .ok (.bipush 17, 2) := by decide +kernel
theorem dX2_readClause_10 : decode cX2_readClause 10 = .ok (.invokestatic 114, 3) := by decide +kernel
theorem dX2_readClause_13 : decode cX2_readClause 13 = .ok (.ifCond .ne 15, 3) := by decide +kernel
theorem dX2_readClause_16 : decode cX2_readClause 16 = .ok (.iload_n 1, 1) := by decide +kernel
theorem dX2_readClause_17 : decode cX2_readClause 17 = .ok (.ifCond .eq 11, 3) := by decide +kernel
theorem dX2_readClause_20 : decode cX2_readClause 20 = .ok (.aload_n 0, 1) := by decide +kernel
theorem dX2_readClause_21 : decode cX2_readClause 21 = .ok (.iconst 1, 1) := by decide +kernel
theorem dX2_readClause_22 : decode cX2_readClause 22 = .ok (.invokevirtual 140, 3) := by decide +kernel
theorem dX2_readClause_25 : decode cX2_readClause 25 = .ok (.goto 96, 3) := by decide +kernel
theorem dX2_readClause_28 : decode cX2_readClause 28 = .ok (.iload_n 1, 1) := by decide +kernel
theorem dX2_readClause_29 : decode cX2_readClause 29 = .ok (.bipush 11, 2) := by decide +kernel
theorem dX2_readClause_31 : decode cX2_readClause 31 = .ok (.if_icmp .ne 13, 3) := by decide +kernel
theorem dX2_readClause_34 : decode cX2_readClause 34 = .ok (.aload_n 0, 1) := by decide +kernel
theorem dX2_readClause_35 : decode cX2_readClause 35 = .ok (.getfield 28, 3) := by decide +kernel
theorem dX2_readClause_38 : decode cX2_readClause 38 = .ok (.iconst 0, 1) := by decide +kernel
theorem dX2_readClause_39 : decode cX2_readClause 39 = .ok (.iaload, 1) := by decide +kernel
theorem dX2_readClause_40 : decode cX2_readClause 40 = .ok (.iconst (-1), 1) := by decide +kernel
theorem dX2_readClause_41 : decode cX2_readClause 41 = .ok (.if_icmp .ne 19, 3) := by decide +kernel
theorem dX2_readClause_44 : decode cX2_readClause 44 = .ok (.iload_n 1, 1) := by decide +kernel
theorem dX2_readClause_45 : decode cX2_readClause 45 = .ok (.bipush 12, 2) := by decide +kernel
theorem dX2_readClause_47 : decode cX2_readClause 47 = .ok (.if_icmp .ne 21, 3) := by decide +kernel
theorem dX2_readClause_50 : decode cX2_readClause 50 = .ok (.aload_n 0, 1) := by decide +kernel
theorem dX2_readClause_51 : decode cX2_readClause 51 = .ok (.getfield 28, 3) := by decide +kernel
theorem dX2_readClause_54 : decode cX2_readClause 54 = .ok (.iconst 2, 1) := by decide +kernel
theorem dX2_readClause_55 : decode cX2_readClause 55 = .ok (.iaload, 1) := by decide +kernel
theorem dX2_readClause_56 : decode cX2_readClause 56 = .ok (.iconst (-1), 1) := by decide +kernel
theorem dX2_readClause_57 : decode cX2_readClause 57 = .ok (.if_icmp .eq 11, 3) := by decide +kernel
theorem dX2_readClause_60 : decode cX2_readClause 60 = .ok (.aload_n 0, 1) := by decide +kernel
theorem dX2_readClause_61 : decode cX2_readClause 61 = .ok (.iconst 4, 1) := by decide +kernel
theorem dX2_readClause_62 : decode cX2_readClause 62 = .ok (.invokevirtual 140, 3) := by decide +kernel
theorem dX2_readClause_65 : decode cX2_readClause 65 = .ok (.goto 56, 3) := by decide +kernel
theorem dX2_readClause_68 : decode cX2_readClause 68 = .ok (.aload_n 0, 1) := by decide +kernel
theorem dX2_readClause_69 : decode cX2_readClause 69 = .ok (.getfield 56, 3) := by decide +kernel
theorem dX2_readClause_72 : decode cX2_readClause 72 = .ok (.bipush 24, 2) := by decide +kernel
theorem dX2_readClause_74 : decode cX2_readClause 74 = .ok (.if_icmp .lt 12, 3) := by decide +kernel
theorem dX2_readClause_77 : decode cX2_readClause 77 = .ok (.aload_n 0, 1) := by decide +kernel
theorem dX2_readClause_78 : decode cX2_readClause 78 = .ok (.bipush 6, 2) := by decide +kernel
theorem dX2_readClause_80 : decode cX2_readClause 80 = .ok (.invokevirtual 140, 3) := by decide +kernel
theorem dX2_readClause_83 : decode cX2_readClause 83 = .ok (.goto 38, 3) := by decide +kernel
theorem dX2_readClause_86 : decode cX2_readClause 86 = .ok (.aload_n 0, 1) := by decide +kernel
theorem dX2_readClause_87 : decode cX2_readClause 87 = .ok (.invokevirtual 137, 3) := by decide +kernel
theorem dX2_readClause_90 : decode cX2_readClause 90 = .ok (.iload_n 1, 1) := by decide +kernel
theorem dX2_readClause_91 : decode cX2_readClause 91 = .ok (.bipush 11, 2) := by decide +kernel
theorem dX2_readClause_93 : decode cX2_readClause 93 = .ok (.if_icmp .eq 9, 3) := by decide +kernel
theorem dX2_readClause_96 : decode cX2_readClause 96 = .ok (.iload_n 1, 1) := by decide +kernel
theorem dX2_readClause_97 : decode cX2_readClause 97 = .ok (.bipush 12, 2) := by decide +kernel
theorem dX2_readClause_99 : decode cX2_readClause 99 = .ok (.if_icmp .ne 11, 3) := by decide +kernel
theorem dX2_readClause_102 : decode cX2_readClause 102 = .ok (.aload_n 0, 1) := by decide +kernel
theorem dX2_readClause_103 : decode cX2_readClause 103 = .ok (.iload_n 1, 1) := by decide +kernel
theorem dX2_readClause_104 : decode cX2_readClause 104 = .ok (.invokevirtual 144, 3) := by decide +kernel
theorem dX2_readClause_107 : decode cX2_readClause 107 = .ok (.goto 8, 3) := by decide +kernel
theorem dX2_readClause_110 : decode cX2_readClause 110 = .ok (.aload_n 0, 1) := by decide +kernel
theorem dX2_readClause_111 : decode cX2_readClause 111 = .ok (.iload_n 1, 1) := by decide +kernel
theorem dX2_readClause_112 : decode cX2_readClause 112 = .ok (.invokevirtual 147, 3) := by decide +kernel
theorem dX2_readClause_115 : decode cX2_readClause 115 = .ok (.aload_n 0, 1) := by decide +kernel
theorem dX2_readClause_116 : decode cX2_readClause 116 = .ok (.bipush 40, 2) := by decide +kernel
theorem dX2_readClause_118 : decode cX2_readClause 118 = .ok (.invokevirtual 150, 3) := by decide +kernel
theorem dX2_readClause_121 : decode cX2_readClause 121 = .ok (.return_, 1) := by decide +kernel
theorem dX2_readLaw_0 : decode cX2_readLaw 0 = .ok (.aload_n 0, 1) := by decide +kernel
theorem dX2_readLaw_1 : decode cX2_readLaw 1 = .ok (.iload_n 1, 1) := by decide +kernel
theorem dX2_readLaw_2 : decode cX2_readLaw 2 = .ok (.bipush 11, 2) := by decide +kernel
theorem dX2_readLaw_4 : decode cX2_readLaw 4 = .ok (.if_icmp .ne 7, 3) := by decide +kernel
theorem dX2_readLaw_7 : decode cX2_readLaw 7 = .ok (.iconst 1, 1) := by decide +kernel
theorem dX2_readLaw_8 : decode cX2_readLaw 8 = .ok (.goto 4, 3) := by decide +kernel
theorem dX2_readLaw_11 : decode cX2_readLaw 11 = .ok (.iconst 0, 1) := by decide +kernel
theorem dX2_readLaw_12 : decode cX2_readLaw 12 = .ok (.putfield 153, 3) := by decide +kernel
theorem dX2_readLaw_15 : decode cX2_readLaw 15 = .ok (.aload_n 0, 1) := by decide +kernel
theorem dX2_readLaw_16 : decode cX2_readLaw 16 = .ok (.getfield 153, 3) := by decide +kernel
theorem dX2_readLaw_19 : decode cX2_readLaw 19 = .ok (.ifCond .eq 7, 3) := by decide +kernel
theorem dX2_readLaw_22 : decode cX2_readLaw 22 = .ok (.iconst 0, 1) := by decide +kernel
theorem dX2_readLaw_23 : decode cX2_readLaw 23 = .ok (.goto 4, 3) := by decide +kernel
theorem dX2_readLaw_26 : decode cX2_readLaw 26 = .ok (.iconst 2, 1) := by decide +kernel
theorem dX2_readLaw_27 : decode cX2_readLaw 27 = .ok (.istore_n 2, 1) := by decide +kernel
theorem dX2_readLaw_28 : decode cX2_readLaw 28 = .ok (.aload_n 0, 1) := by decide +kernel
theorem dX2_readLaw_29 : decode cX2_readLaw 29 = .ok (.getfield 28, 3) := by decide +kernel
theorem dX2_readLaw_32 : decode cX2_readLaw 32 = .ok (.iload_n 2, 1) := by decide +kernel
theorem dX2_readLaw_33 : decode cX2_readLaw 33 = .ok (.aload_n 0, 1) := by decide +kernel
theorem dX2_readLaw_34 : decode cX2_readLaw 34 = .ok (.getfield 53, 3) := by decide +kernel
theorem dX2_readLaw_37 : decode cX2_readLaw 37 = .ok (.iastore, 1) := by decide +kernel
theorem dX2_readLaw_38 : decode cX2_readLaw 38 = .ok (.aload_n 0, 1) := by decide +kernel
theorem dX2_readLaw_39 : decode cX2_readLaw 39 = .ok (.invokevirtual 157, 3) := by decide +kernel
theorem dX2_readLaw_42 : decode cX2_readLaw 42 = .ok (.aload_n 0, 1) := by decide +kernel
theorem dX2_readLaw_43 : decode cX2_readLaw 43 = .ok (.getfield 28, 3) := by decide +kernel
theorem dX2_readLaw_46 : decode cX2_readLaw 46 = .ok (.iload_n 2, 1) := by decide +kernel
theorem dX2_readLaw_47 : decode cX2_readLaw 47 = .ok (.iconst 1, 1) := by decide +kernel
theorem dX2_readLaw_48 : decode cX2_readLaw 48 = .ok (.iadd, 1) := by decide +kernel
theorem dX2_readLaw_49 : decode cX2_readLaw 49 = .ok (.aload_n 0, 1) := by decide +kernel
theorem dX2_readLaw_50 : decode cX2_readLaw 50 = .ok (.getfield 53, 3) := by decide +kernel
theorem dX2_readLaw_53 : decode cX2_readLaw 53 = .ok (.iastore, 1) := by decide +kernel
theorem dX2_readLaw_54 : decode cX2_readLaw 54 = .ok (.aload_n 0, 1) := by decide +kernel
theorem dX2_readLaw_55 : decode cX2_readLaw 55 = .ok (.iload_n 1, 1) := by decide +kernel
theorem dX2_readLaw_56 : decode cX2_readLaw 56 = .ok (.iconst 0, 1) := by decide +kernel
theorem dX2_readLaw_57 : decode cX2_readLaw 57 = .ok (.iconst 0, 1) := by decide +kernel
theorem dX2_readLaw_58 : decode cX2_readLaw 58 = .ok (.invokevirtual 160, 3) := by decide +kernel
theorem dX2_readLaw_61 : decode cX2_readLaw 61 = .ok (.return_, 1) := by decide +kernel
theorem dX2_readDeed_0 : decode cX2_readDeed 0 = .ok (.iconst 0, 1) := by decide +kernel
theorem dX2_readDeed_1 : decode cX2_readDeed 1 = .ok (.istore_n 2, 1) := by decide +kernel
theorem dX2_readDeed_2 : decode cX2_readDeed 2 = .ok (.iconst 0, 1) := by decide +kernel
theorem dX2_readDeed_3 : decode cX2_readDeed 3 = .ok (.istore_n 3, 1) := by decide +kernel
theorem dX2_readDeed_4 : decode cX2_readDeed 4 = .ok (.iload_n 1, 1) := by decide +kernel
theorem dX2_readDeed_5 : decode cX2_readDeed 5 = .ok (.lookupswitch 155 #[(0, 144), (13, 51), (14, 74), (15, 97), (17, 120)], 51) := by decide +kernel
theorem dX2_readDeed_56 : decode cX2_readDeed 56 = .ok (.aload_n 0, 1) := by decide +kernel
theorem dX2_readDeed_57 : decode cX2_readDeed 57 = .ok (.iconst 0, 1) := by decide +kernel
theorem dX2_readDeed_58 : decode cX2_readDeed 58 = .ok (.iconst 3, 1) := by decide +kernel
theorem dX2_readDeed_59 : decode cX2_readDeed 59 = .ok (.invokevirtual 164, 3) := by decide +kernel
theorem dX2_readDeed_62 : decode cX2_readDeed 62 = .ok (.istore_n 2, 1) := by decide +kernel
theorem dX2_readDeed_63 : decode cX2_readDeed 63 = .ok (.aload_n 0, 1) := by decide +kernel
theorem dX2_readDeed_64 : decode cX2_readDeed 64 = .ok (.iconst 2, 1) := by decide +kernel
theorem dX2_readDeed_65 : decode cX2_readDeed 65 = .ok (.invokevirtual 150, 3) := by decide +kernel
theorem dX2_readDeed_68 : decode cX2_readDeed 68 = .ok (.aload_n 0, 1) := by decide +kernel
theorem dX2_readDeed_69 : decode cX2_readDeed 69 = .ok (.iconst 1, 1) := by decide +kernel
theorem dX2_readDeed_70 : decode cX2_readDeed 70 = .ok (.bipush 9, 2) := by decide +kernel
theorem dX2_readDeed_72 : decode cX2_readDeed 72 = .ok (.invokevirtual 164, 3) := by decide +kernel
theorem dX2_readDeed_75 : decode cX2_readDeed 75 = .ok (.istore_n 3, 1) := by decide +kernel
theorem dX2_readDeed_76 : decode cX2_readDeed 76 = .ok (.goto 84, 3) := by decide +kernel
theorem dX2_readDeed_79 : decode cX2_readDeed 79 = .ok (.aload_n 0, 1) := by decide +kernel
theorem dX2_readDeed_80 : decode cX2_readDeed 80 = .ok (.iconst 0, 1) := by decide +kernel
theorem dX2_readDeed_81 : decode cX2_readDeed 81 = .ok (.iconst 3, 1) := by decide +kernel
theorem dX2_readDeed_82 : decode cX2_readDeed 82 = .ok (.invokevirtual 164, 3) := by decide +kernel
theorem dX2_readDeed_85 : decode cX2_readDeed 85 = .ok (.istore_n 2, 1) := by decide +kernel
theorem dX2_readDeed_86 : decode cX2_readDeed 86 = .ok (.aload_n 0, 1) := by decide +kernel
theorem dX2_readDeed_87 : decode cX2_readDeed 87 = .ok (.bipush 18, 2) := by decide +kernel
theorem dX2_readDeed_89 : decode cX2_readDeed 89 = .ok (.invokevirtual 150, 3) := by decide +kernel
theorem dX2_readDeed_92 : decode cX2_readDeed 92 = .ok (.aload_n 0, 1) := by decide +kernel
theorem dX2_readDeed_93 : decode cX2_readDeed 93 = .ok (.iconst 0, 1) := by decide +kernel
theorem dX2_readDeed_94 : decode cX2_readDeed 94 = .ok (.iconst 3, 1) := by decide +kernel
theorem dX2_readDeed_95 : decode cX2_readDeed 95 = .ok (.invokevirtual 164, 3) := by decide +kernel
theorem dX2_readDeed_98 : decode cX2_readDeed 98 = .ok (.istore_n 3, 1) := by decide +kernel
theorem dX2_readDeed_99 : decode cX2_readDeed 99 = .ok (.goto 61, 3) := by decide +kernel
theorem dX2_readDeed_102 : decode cX2_readDeed 102 = .ok (.aload_n 0, 1) := by decide +kernel
theorem dX2_readDeed_103 : decode cX2_readDeed 103 = .ok (.iconst 0, 1) := by decide +kernel
theorem dX2_readDeed_104 : decode cX2_readDeed 104 = .ok (.iconst 2, 1) := by decide +kernel
theorem dX2_readDeed_105 : decode cX2_readDeed 105 = .ok (.invokevirtual 164, 3) := by decide +kernel
theorem dX2_readDeed_108 : decode cX2_readDeed 108 = .ok (.istore_n 2, 1) := by decide +kernel
theorem dX2_readDeed_109 : decode cX2_readDeed 109 = .ok (.aload_n 0, 1) := by decide +kernel
theorem dX2_readDeed_110 : decode cX2_readDeed 110 = .ok (.bipush 7, 2) := by decide +kernel
theorem dX2_readDeed_112 : decode cX2_readDeed 112 = .ok (.invokevirtual 150, 3) := by decide +kernel
theorem dX2_readDeed_115 : decode cX2_readDeed 115 = .ok (.aload_n 0, 1) := by decide +kernel
theorem dX2_readDeed_116 : decode cX2_readDeed 116 = .ok (.iconst 0, 1) := by decide +kernel
theorem dX2_readDeed_117 : decode cX2_readDeed 117 = .ok (.iconst 2, 1) := by decide +kernel
theorem dX2_readDeed_118 : decode cX2_readDeed 118 = .ok (.invokevirtual 164, 3) := by decide +kernel
theorem dX2_readDeed_121 : decode cX2_readDeed 121 = .ok (.istore_n 3, 1) := by decide +kernel
theorem dX2_readDeed_122 : decode cX2_readDeed 122 = .ok (.goto 38, 3) := by decide +kernel
theorem dX2_readDeed_125 : decode cX2_readDeed 125 = .ok (.aload_n 0, 1) := by decide +kernel
theorem dX2_readDeed_126 : decode cX2_readDeed 126 = .ok (.iconst 1, 1) := by decide +kernel
theorem dX2_readDeed_127 : decode cX2_readDeed 127 = .ok (.bipush 9, 2) := by decide +kernel
theorem dX2_readDeed_129 : decode cX2_readDeed 129 = .ok (.invokevirtual 164, 3) := by decide +kernel
theorem dX2_readDeed_132 : decode cX2_readDeed 132 = .ok (.istore_n 2, 1) := by decide +kernel
theorem dX2_readDeed_133 : decode cX2_readDeed 133 = .ok (.aload_n 0, 1) := by decide +kernel
theorem dX2_readDeed_134 : decode cX2_readDeed 134 = .ok (.bipush 19, 2) := by decide +kernel
theorem dX2_readDeed_136 : decode cX2_readDeed 136 = .ok (.invokevirtual 150, 3) := by decide +kernel
theorem dX2_readDeed_139 : decode cX2_readDeed 139 = .ok (.aload_n 0, 1) := by decide +kernel
theorem dX2_readDeed_140 : decode cX2_readDeed 140 = .ok (.iconst 0, 1) := by decide +kernel
theorem dX2_readDeed_141 : decode cX2_readDeed 141 = .ok (.iconst 1, 1) := by decide +kernel
theorem dX2_readDeed_142 : decode cX2_readDeed 142 = .ok (.invokevirtual 164, 3) := by decide +kernel
theorem dX2_readDeed_145 : decode cX2_readDeed 145 = .ok (.istore_n 3, 1) := by decide +kernel
theorem dX2_readDeed_146 : decode cX2_readDeed 146 = .ok (.goto 14, 3) := by decide +kernel
theorem dX2_readDeed_149 : decode cX2_readDeed 149 = .ok (.aload_n 0, 1) := by decide +kernel
theorem dX2_readDeed_150 : decode cX2_readDeed 150 = .ok (.iconst 1, 1) := by decide +kernel
theorem dX2_readDeed_151 : decode cX2_readDeed 151 = .ok (.bipush 60, 2) := by decide +kernel
theorem dX2_readDeed_153 : decode cX2_readDeed 153 = .ok (.invokevirtual 164, 3) := by decide +kernel
theorem dX2_readDeed_156 : decode cX2_readDeed 156 = .ok (.istore_n 2, 1) := by decide +kernel
theorem dX2_readDeed_157 : decode cX2_readDeed 157 = .ok (.goto 3, 3) := by decide +kernel
theorem dX2_readDeed_160 : decode cX2_readDeed 160 = .ok (.aload_n 0, 1) := by decide +kernel
theorem dX2_readDeed_161 : decode cX2_readDeed 161 = .ok (.iload_n 1, 1) := by decide +kernel
theorem dX2_readDeed_162 : decode cX2_readDeed 162 = .ok (.iload_n 2, 1) := by decide +kernel
theorem dX2_readDeed_163 : decode cX2_readDeed 163 = .ok (.iload_n 3, 1) := by decide +kernel
theorem dX2_readDeed_164 : decode cX2_readDeed 164 = .ok (.invokevirtual 160, 3) := by decide +kernel
theorem dX2_readDeed_167 : decode cX2_readDeed 167 = .ok (.return_, 1) := by decide +kernel
theorem dX2_addClause_0 : decode cX2_addClause 0 = .ok (.aload_n 0, 1) := by decide +kernel
theorem dX2_addClause_1 : decode cX2_addClause 1 = .ok (.getfield 56, 3) := by decide +kernel
theorem dX2_addClause_4 : decode cX2_addClause 4 = .ok (.bipush 24, 2) := by decide +kernel
theorem dX2_addClause_6 : decode cX2_addClause 6 = .ok (.if_icmp .ge 53, 3) := by decide +kernel
theorem dX2_addClause_9 : decode cX2_addClause 9 = .ok (.aload_n 0, 1) := by decide +kernel
theorem dX2_addClause_10 : decode cX2_addClause 10 = .ok (.getfield 25, 3) := by decide +kernel
theorem dX2_addClause_13 : decode cX2_addClause 13 = .ok (.iconst 3, 1) := by decide +kernel
theorem dX2_addClause_14 : decode cX2_addClause 14 = .ok (.aload_n 0, 1) := by decide +kernel
theorem dX2_addClause_15 : decode cX2_addClause 15 = .ok (.getfield 56, 3) := by decide +kernel
theorem dX2_addClause_18 : decode cX2_addClause 18 = .ok (.imul, 1) := by decide +kernel
theorem dX2_addClause_19 : decode cX2_addClause 19 = .ok (.iload_n 1, 1) := by decide +kernel
theorem dX2_addClause_20 : decode cX2_addClause 20 = .ok (.iastore, 1) := by decide +kernel
theorem dX2_addClause_21 : decode cX2_addClause 21 = .ok (.aload_n 0, 1) := by decide +kernel
theorem dX2_addClause_22 : decode cX2_addClause 22 = .ok (.getfield 25, 3) := by decide +kernel
theorem dX2_addClause_25 : decode cX2_addClause 25 = .ok (.iconst 3, 1) := by decide +kernel
theorem dX2_addClause_26 : decode cX2_addClause 26 = .ok (.aload_n 0, 1) := by decide +kernel
theorem dX2_addClause_27 : decode cX2_addClause 27 = .ok (.getfield 56, 3) := by decide +kernel
theorem dX2_addClause_30 : decode cX2_addClause 30 = .ok (.imul, 1) := by decide +kernel
theorem dX2_addClause_31 : decode cX2_addClause 31 = .ok (.iconst 1, 1) := by decide +kernel
theorem dX2_addClause_32 : decode cX2_addClause 32 = .ok (.iadd, 1) := by decide +kernel
theorem dX2_addClause_33 : decode cX2_addClause 33 = .ok (.iload_n 2, 1) := by decide +kernel
theorem dX2_addClause_34 : decode cX2_addClause 34 = .ok (.iastore, 1) := by decide +kernel
theorem dX2_addClause_35 : decode cX2_addClause 35 = .ok (.aload_n 0, 1) := by decide +kernel
theorem dX2_addClause_36 : decode cX2_addClause 36 = .ok (.getfield 25, 3) := by decide +kernel
theorem dX2_addClause_39 : decode cX2_addClause 39 = .ok (.iconst 3, 1) := by decide +kernel
theorem dX2_addClause_40 : decode cX2_addClause 40 = .ok (.aload_n 0, 1) := by decide +kernel
theorem dX2_addClause_41 : decode cX2_addClause 41 = .ok (.getfield 56, 3) := by decide +kernel
theorem dX2_addClause_44 : decode cX2_addClause 44 = .ok (.imul, 1) := by decide +kernel
theorem dX2_addClause_45 : decode cX2_addClause 45 = .ok (.iconst 2, 1) := by decide +kernel
theorem dX2_addClause_46 : decode cX2_addClause 46 = .ok (.iadd, 1) := by decide +kernel
theorem dX2_addClause_47 : decode cX2_addClause 47 = .ok (.iload_n 3, 1) := by decide +kernel
theorem dX2_addClause_48 : decode cX2_addClause 48 = .ok (.iastore, 1) := by decide +kernel
theorem dX2_addClause_49 : decode cX2_addClause 49 = .ok (.aload_n 0, 1) := by decide +kernel
theorem dX2_addClause_50 : decode cX2_addClause 50 = .ok (.dup, 1) := by decide +kernel
theorem dX2_addClause_51 : decode cX2_addClause 51 = .ok (.getfield 56, 3) := by decide +kernel
theorem dX2_addClause_54 : decode cX2_addClause 54 = .ok (.iconst 1, 1) := by decide +kernel
theorem dX2_addClause_55 : decode cX2_addClause 55 = .ok (.iadd, 1) := by decide +kernel
theorem dX2_addClause_56 : decode cX2_addClause 56 = .ok (.putfield 56, 3) := by decide +kernel
theorem dX2_addClause_59 : decode cX2_addClause 59 = .ok (.return_, 1) := by decide +kernel
theorem dX2_emit_0 : decode cX2_emit 0 = .ok (.aload_n 0, 1) := by decide +kernel
theorem dX2_emit_1 : decode cX2_emit 1 = .ok (.getfield 53, 3) := by decide +kernel
theorem dX2_emit_4 : decode cX2_emit 4 = .ok (.aload_n 0, 1) := by decide +kernel
theorem dX2_emit_5 : decode cX2_emit 5 = .ok (.getfield 22, 3) := by decide +kernel
theorem dX2_emit_8 : decode cX2_emit 8 = .ok (.arraylength, 1) := by decide +kernel
theorem dX2_emit_9 : decode cX2_emit 9 = .ok (.if_icmp .ge 23, 3) := by decide +kernel
theorem dX2_emit_12 : decode cX2_emit 12 = .ok (.aload_n 0, 1) := by decide +kernel
theorem dX2_emit_13 : decode cX2_emit 13 = .ok (.getfield 22, 3) := by decide +kernel
theorem dX2_emit_16 : decode cX2_emit 16 = .ok (.aload_n 0, 1) := by decide +kernel
theorem dX2_emit_17 : decode cX2_emit 17 = .ok (.getfield 53, 3) := by decide +kernel
theorem dX2_emit_20 : decode cX2_emit 20 = .ok (.iload_n 1, 1) := by decide +kernel
theorem dX2_emit_21 : decode cX2_emit 21 = .ok (.iastore, 1) := by decide +kernel
theorem dX2_emit_22 : decode cX2_emit 22 = .ok (.aload_n 0, 1) := by decide +kernel
theorem dX2_emit_23 : decode cX2_emit 23 = .ok (.dup, 1) := by decide +kernel
theorem dX2_emit_24 : decode cX2_emit 24 = .ok (.getfield 53, 3) := by decide +kernel
theorem dX2_emit_27 : decode cX2_emit 27 = .ok (.iconst 1, 1) := by decide +kernel
theorem dX2_emit_28 : decode cX2_emit 28 = .ok (.iadd, 1) := by decide +kernel
theorem dX2_emit_29 : decode cX2_emit 29 = .ok (.putfield 53, 3) := by decide +kernel
theorem dX2_emit_32 : decode cX2_emit 32 = .ok (.return_, 1) := by decide +kernel
theorem dX2_readSum_0 : decode cX2_readSum 0 = .ok (.aload_n 0, 1) := by decide +kernel
theorem dX2_readSum_1 : decode cX2_readSum 1 = .ok (.invokevirtual 167, 3) := by decide +kernel
theorem dX2_readSum_4 : decode cX2_readSum 4 = .ok (.iconst 0, 1) := by decide +kernel
theorem dX2_readSum_5 : decode cX2_readSum 5 = .ok (.istore_n 1, 1) := by decide +kernel
theorem dX2_readSum_6 : decode cX2_readSum 6 = .ok (.iload_n 1, 1) := by decide +kernel
theorem dX2_readSum_7 : decode cX2_readSum 7 = .ok (.sipush 300, 3) := by decide +kernel
theorem dX2_readSum_10 : decode cX2_readSum 10 = .ok (.if_icmp .ge 49, 3) := by decide +kernel
theorem dX2_readSum_13 : decode cX2_readSum 13 = .ok (.aload_n 0, 1) := by decide +kernel
theorem dX2_readSum_14 : decode cX2_readSum 14 = .ok (.getfield 47, 3) := by decide +kernel
theorem dX2_readSum_17 : decode cX2_readSum 17 = .ok (.bipush 34, 2) := by decide +kernel
theorem dX2_readSum_19 : decode cX2_readSum 19 = .ok (.if_icmp .eq 12, 3) := by decide +kernel
theorem dX2_readSum_22 : decode cX2_readSum 22 = .ok (.aload_n 0, 1) := by decide +kernel
theorem dX2_readSum_23 : decode cX2_readSum 23 = .ok (.getfield 47, 3) := by decide +kernel
theorem dX2_readSum_26 : decode cX2_readSum 26 = .ok (.bipush 35, 2) := by decide +kernel
theorem dX2_readSum_28 : decode cX2_readSum 28 = .ok (.if_icmp .ne 31, 3) := by decide +kernel
theorem dX2_readSum_31 : decode cX2_readSum 31 = .ok (.aload_n 0, 1) := by decide +kernel
theorem dX2_readSum_32 : decode cX2_readSum 32 = .ok (.getfield 47, 3) := by decide +kernel
theorem dX2_readSum_35 : decode cX2_readSum 35 = .ok (.istore_n 2, 1) := by decide +kernel
theorem dX2_readSum_36 : decode cX2_readSum 36 = .ok (.aload_n 0, 1) := by decide +kernel
theorem dX2_readSum_37 : decode cX2_readSum 37 = .ok (.invokevirtual 137, 3) := by decide +kernel
theorem dX2_readSum_40 : decode cX2_readSum 40 = .ok (.aload_n 0, 1) := by decide +kernel
theorem dX2_readSum_41 : decode cX2_readSum 41 = .ok (.invokevirtual 167, 3) := by decide +kernel
theorem dX2_readSum_44 : decode cX2_readSum 44 = .ok (.aload_n 0, 1) := by decide +kernel
theorem dX2_readSum_45 : decode cX2_readSum 45 = .ok (.sipush 20000, 3) := by decide +kernel
theorem dX2_readSum_48 : decode cX2_readSum 48 = .ok (.iload_n 2, 1) := by decide +kernel
theorem dX2_readSum_49 : decode cX2_readSum 49 = .ok (.iadd, 1) := by decide +kernel
theorem dX2_readSum_50 : decode cX2_readSum 50 = .ok (.invokevirtual 170, 3) := by decide +kernel
theorem dX2_readSum_53 : decode cX2_readSum 53 = .ok (.iinc 1 1, 3) := by decide +kernel
theorem dX2_readSum_56 : decode cX2_readSum 56 = .ok (.goto (-50), 3) := by decide +kernel
theorem dX2_readSum_59 : decode cX2_readSum 59 = .ok (.return_, 1) := by decide +kernel
theorem dX2_readProduct_0 : decode cX2_readProduct 0 = .ok (.aload_n 0, 1) := by decide +kernel
theorem dX2_readProduct_1 : decode cX2_readProduct 1 = .ok (.invokevirtual 173, 3) := by decide +kernel
theorem dX2_readProduct_4 : decode cX2_readProduct 4 = .ok (.iconst 0, 1) := by decide +kernel
theorem dX2_readProduct_5 : decode cX2_readProduct 5 = .ok (.istore_n 1, 1) := by decide +kernel
theorem dX2_readProduct_6 : decode cX2_readProduct 6 = .ok (.iload_n 1, 1) := by decide +kernel
theorem dX2_readProduct_7 : decode cX2_readProduct 7 = .ok (.sipush 300, 3) := by decide +kernel
theorem dX2_readProduct_10 : decode cX2_readProduct 10 = .ok (.if_icmp .ge 49, 3) := by decide +kernel
theorem dX2_readProduct_13 : decode cX2_readProduct 13 = .ok (.aload_n 0, 1) := by decide +kernel
theorem dX2_readProduct_14 : decode cX2_readProduct 14 = .ok (.getfield 47, 3) := by decide +kernel
theorem dX2_readProduct_17 : decode cX2_readProduct 17 = .ok (.bipush 36, 2) := by decide +kernel
theorem dX2_readProduct_19 : decode cX2_readProduct 19 = .ok (.if_icmp .eq 12, 3) := by decide +kernel
theorem dX2_readProduct_22 : decode cX2_readProduct 22 = .ok (.aload_n 0, 1) := by decide +kernel
theorem dX2_readProduct_23 : decode cX2_readProduct 23 = .ok (.getfield 47, 3) := by decide +kernel
theorem dX2_readProduct_26 : decode cX2_readProduct 26 = .ok (.bipush 37, 2) := by decide +kernel
theorem dX2_readProduct_28 : decode cX2_readProduct 28 = .ok (.if_icmp .ne 31, 3) := by decide +kernel
theorem dX2_readProduct_31 : decode cX2_readProduct 31 = .ok (.aload_n 0, 1) := by decide +kernel
theorem dX2_readProduct_32 : decode cX2_readProduct 32 = .ok (.getfield 47, 3) := by decide +kernel
theorem dX2_readProduct_35 : decode cX2_readProduct 35 = .ok (.istore_n 2, 1) := by decide +kernel
theorem dX2_readProduct_36 : decode cX2_readProduct 36 = .ok (.aload_n 0, 1) := by decide +kernel
theorem dX2_readProduct_37 : decode cX2_readProduct 37 = .ok (.invokevirtual 137, 3) := by decide +kernel
theorem dX2_readProduct_40 : decode cX2_readProduct 40 = .ok (.aload_n 0, 1) := by decide +kernel
theorem dX2_readProduct_41 : decode cX2_readProduct 41 = .ok (.invokevirtual 173, 3) := by decide +kernel
theorem dX2_readProduct_44 : decode cX2_readProduct 44 = .ok (.aload_n 0, 1) := by decide +kernel
theorem dX2_readProduct_45 : decode cX2_readProduct 45 = .ok (.sipush 20000, 3) := by decide +kernel
theorem dX2_readProduct_48 : decode cX2_readProduct 48 = .ok (.iload_n 2, 1) := by decide +kernel
theorem dX2_readProduct_49 : decode cX2_readProduct 49 = .ok (.iadd, 1) := by decide +kernel
theorem dX2_readProduct_50 : decode cX2_readProduct 50 = .ok (.invokevirtual 170, 3) := by decide +kernel
theorem dX2_readProduct_53 : decode cX2_readProduct 53 = .ok (.iinc 1 1, 3) := by decide +kernel
theorem dX2_readProduct_56 : decode cX2_readProduct 56 = .ok (.goto (-50), 3) := by decide +kernel
theorem dX2_readProduct_59 : decode cX2_readProduct 59 = .ok (.return_, 1) := by decide +kernel
theorem dX2_readOne_0 : decode cX2_readOne 0 = .ok (.aload_n 0, 1) := by decide +kernel
theorem dX2_readOne_1 : decode cX2_readOne 1 = .ok (.getfield 47, 3) := by decide +kernel
theorem dX2_readOne_4 : decode cX2_readOne 4 = .ok (.istore_n 1, 1) := by decide +kernel
theorem dX2_readOne_5 : decode cX2_readOne 5 = .ok (.iload_n 1, 1) := by decide +kernel
theorem dX2_readOne_6 : decode cX2_readOne 6 = .ok (.bipush 100, 2) := by decide +kernel
theorem dX2_readOne_8 : decode cX2_readOne 8 = .ok (.if_icmp .lt 18, 3) := by decide +kernel
theorem dX2_readOne_11 : decode cX2_readOne 11 = .ok (.aload_n 0, 1) := by decide +kernel
theorem dX2_readOne_12 : decode cX2_readOne 12 = .ok (.aload_n 0, 1) := by decide +kernel
theorem dX2_readOne_13 : decode cX2_readOne 13 = .ok (.iconst 0, 1) := by decide +kernel
theorem dX2_readOne_14 : decode cX2_readOne 14 = .ok (.sipush 9999, 3) := by decide +kernel
theorem dX2_readOne_17 : decode cX2_readOne 17 = .ok (.invokevirtual 164, 3) := by decide +kernel
theorem dX2_readOne_20 : decode cX2_readOne 20 = .ok (.invokevirtual 170, 3) := by decide +kernel
theorem dX2_readOne_23 : decode cX2_readOne 23 = .ok (.goto 132, 3) := by decide +kernel
theorem dX2_readOne_26 : decode cX2_readOne 26 = .ok (.iload_n 1, 1) := by decide +kernel
theorem dX2_readOne_27 : decode cX2_readOne 27 = .ok (.iconst 0, 1) := by decide +kernel
theorem dX2_readOne_28 : decode cX2_readOne 28 = .ok (.bipush 10, 2) := by decide +kernel
theorem dX2_readOne_30 : decode cX2_readOne 30 = .ok (.invokestatic 114, 3) := by decide +kernel
theorem dX2_readOne_33 : decode cX2_readOne 33 = .ok (.ifCond .eq 11, 3) := by decide +kernel
theorem dX2_readOne_36 : decode cX2_readOne 36 = .ok (.aload_n 0, 1) := by decide +kernel
theorem dX2_readOne_37 : decode cX2_readOne 37 = .ok (.iload_n 1, 1) := by decide +kernel
theorem dX2_readOne_38 : decode cX2_readOne 38 = .ok (.invokevirtual 176, 3) := by decide +kernel
theorem dX2_readOne_41 : decode cX2_readOne 41 = .ok (.goto 114, 3) := by decide +kernel
theorem dX2_readOne_44 : decode cX2_readOne 44 = .ok (.iload_n 1, 1) := by decide +kernel
theorem dX2_readOne_45 : decode cX2_readOne 45 = .ok (.bipush 38, 2) := by decide +kernel
theorem dX2_readOne_47 : decode cX2_readOne 47 = .ok (.if_icmp .eq 35, 3) := by decide +kernel
theorem dX2_readOne_50 : decode cX2_readOne 50 = .ok (.iload_n 1, 1) := by decide +kernel
theorem dX2_readOne_51 : decode cX2_readOne 51 = .ok (.bipush 35, 2) := by decide +kernel
theorem dX2_readOne_53 : decode cX2_readOne 53 = .ok (.if_icmp .eq 29, 3) := by decide +kernel
theorem dX2_readOne_56 : decode cX2_readOne 56 = .ok (.iload_n 1, 1) := by decide +kernel
theorem dX2_readOne_57 : decode cX2_readOne 57 = .ok (.bipush 20, 2) := by decide +kernel
theorem dX2_readOne_59 : decode cX2_readOne 59 = .ok (.if_icmp .eq 23, 3) := by decide +kernel
theorem dX2_readOne_62 : decode cX2_readOne 62 = .ok (.iload_n 1, 1) := by decide +kernel
theorem dX2_readOne_63 : decode cX2_readOne 63 = .ok (.bipush 21, 2) := by decide +kernel
theorem dX2_readOne_65 : decode cX2_readOne 65 = .ok (.if_icmp .eq 17, 3) := by decide +kernel
theorem dX2_readOne_68 : decode cX2_readOne 68 = .ok (.iload_n 1, 1) := by decide +kernel
theorem dX2_readOne_69 : decode cX2_readOne 69 = .ok (.bipush 22, 2) := by decide +kernel
theorem dX2_readOne_71 : decode cX2_readOne 71 = .ok (.if_icmp .eq 11, 3) := by decide +kernel
theorem dX2_readOne_74 : decode cX2_readOne 74 = .ok (.aload_n 0, 1) := by decide +kernel
theorem dX2_readOne_75 : decode cX2_readOne 75 = .ok (.iconst 1, 1) := by decide +kernel
theorem dX2_readOne_76 : decode cX2_readOne 76 = .ok (.invokevirtual 140, 3) := by decide +kernel
theorem dX2_readOne_79 : decode cX2_readOne 79 = .ok (.goto 76, 3) := by decide +kernel
theorem dX2_readOne_82 : decode cX2_readOne 82 = .ok (.aload_n 0, 1) := by decide +kernel
theorem dX2_readOne_83 : decode cX2_readOne 83 = .ok (.invokevirtual 179, 3) := by decide +kernel
theorem dX2_readOne_86 : decode cX2_readOne 86 = .ok (.ifCond .eq 69, 3) := by decide +kernel
theorem dX2_readOne_89 : decode cX2_readOne 89 = .ok (.iload_n 1, 1) := by decide +kernel
theorem dX2_readOne_90 : decode cX2_readOne 90 = .ok (.bipush 38, 2) := by decide +kernel
theorem dX2_readOne_92 : decode cX2_readOne 92 = .ok (.if_icmp .ne 16, 3) := by decide +kernel
theorem dX2_readOne_95 : decode cX2_readOne 95 = .ok (.aload_n 0, 1) := by decide +kernel
theorem dX2_readOne_96 : decode cX2_readOne 96 = .ok (.invokevirtual 157, 3) := by decide +kernel
theorem dX2_readOne_99 : decode cX2_readOne 99 = .ok (.aload_n 0, 1) := by decide +kernel
theorem dX2_readOne_100 : decode cX2_readOne 100 = .ok (.bipush 39, 2) := by decide +kernel
theorem dX2_readOne_102 : decode cX2_readOne 102 = .ok (.invokevirtual 150, 3) := by decide +kernel
theorem dX2_readOne_105 : decode cX2_readOne 105 = .ok (.goto 40, 3) := by decide +kernel
theorem dX2_readOne_108 : decode cX2_readOne 108 = .ok (.iload_n 1, 1) := by decide +kernel
theorem dX2_readOne_109 : decode cX2_readOne 109 = .ok (.bipush 22, 2) := by decide +kernel
theorem dX2_readOne_111 : decode cX2_readOne 111 = .ok (.if_icmp .ne 10, 3) := by decide +kernel
theorem dX2_readOne_114 : decode cX2_readOne 114 = .ok (.aload_n 0, 1) := by decide +kernel
theorem dX2_readOne_115 : decode cX2_readOne 115 = .ok (.invokevirtual 183, 3) := by decide +kernel
theorem dX2_readOne_118 : decode cX2_readOne 118 = .ok (.goto 27, 3) := by decide +kernel
theorem dX2_readOne_121 : decode cX2_readOne 121 = .ok (.aload_n 0, 1) := by decide +kernel
theorem dX2_readOne_122 : decode cX2_readOne 122 = .ok (.invokevirtual 173, 3) := by decide +kernel
theorem dX2_readOne_125 : decode cX2_readOne 125 = .ok (.aload_n 0, 1) := by decide +kernel
theorem dX2_readOne_126 : decode cX2_readOne 126 = .ok (.sipush 20000, 3) := by decide +kernel
theorem dX2_readOne_129 : decode cX2_readOne 129 = .ok (.iload_n 1, 1) := by decide +kernel
theorem dX2_readOne_130 : decode cX2_readOne 130 = .ok (.bipush 35, 2) := by decide +kernel
theorem dX2_readOne_132 : decode cX2_readOne 132 = .ok (.if_icmp .ne 8, 3) := by decide +kernel
theorem dX2_readOne_135 : decode cX2_readOne 135 = .ok (.bipush 43, 2) := by decide +kernel
theorem dX2_readOne_137 : decode cX2_readOne 137 = .ok (.goto 4, 3) := by decide +kernel
theorem dX2_readOne_140 : decode cX2_readOne 140 = .ok (.iload_n 1, 1) := by decide +kernel
theorem dX2_readOne_141 : decode cX2_readOne 141 = .ok (.iadd, 1) := by decide +kernel
theorem dX2_readOne_142 : decode cX2_readOne 142 = .ok (.invokevirtual 170, 3) := by decide +kernel
theorem dX2_readOne_145 : decode cX2_readOne 145 = .ok (.aload_n 0, 1) := by decide +kernel
theorem dX2_readOne_146 : decode cX2_readOne 146 = .ok (.dup, 1) := by decide +kernel
theorem dX2_readOne_147 : decode cX2_readOne 147 = .ok (.getfield 50, 3) := by decide +kernel
theorem dX2_readOne_150 : decode cX2_readOne 150 = .ok (.iconst 1, 1) := by decide +kernel
theorem dX2_readOne_151 : decode cX2_readOne 151 = .ok (.isub, 1) := by decide +kernel
theorem dX2_readOne_152 : decode cX2_readOne 152 = .ok (.putfield 50, 3) := by decide +kernel
theorem dX2_readOne_155 : decode cX2_readOne 155 = .ok (.return_, 1) := by decide +kernel
theorem dX2_opens_0 : decode cX2_opens 0 = .ok (.aload_n 0, 1) := by decide +kernel
theorem dX2_opens_1 : decode cX2_opens 1 = .ok (.getfield 50, 3) := by decide +kernel
theorem dX2_opens_4 : decode cX2_opens 4 = .ok (.bipush 8, 2) := by decide +kernel
theorem dX2_opens_6 : decode cX2_opens 6 = .ok (.if_icmp .lt 10, 3) := by decide +kernel
theorem dX2_opens_9 : decode cX2_opens 9 = .ok (.aload_n 0, 1) := by decide +kernel
theorem dX2_opens_10 : decode cX2_opens 10 = .ok (.iconst 3, 1) := by decide +kernel
theorem dX2_opens_11 : decode cX2_opens 11 = .ok (.invokevirtual 140, 3) := by decide +kernel
theorem dX2_opens_14 : decode cX2_opens 14 = .ok (.iconst 0, 1) := by decide +kernel
theorem dX2_opens_15 : decode cX2_opens 15 = .ok (.ireturn, 1) := by decide +kernel
theorem dX2_opens_16 : decode cX2_opens 16 = .ok (.aload_n 0, 1) := by decide +kernel
theorem dX2_opens_17 : decode cX2_opens 17 = .ok (.dup, 1) := by decide +kernel
theorem dX2_opens_18 : decode cX2_opens 18 = .ok (.getfield 50, 3) := by decide +kernel
theorem dX2_opens_21 : decode cX2_opens 21 = .ok (.iconst 1, 1) := by decide +kernel
theorem dX2_opens_22 : decode cX2_opens 22 = .ok (.iadd, 1) := by decide +kernel
theorem dX2_opens_23 : decode cX2_opens 23 = .ok (.putfield 50, 3) := by decide +kernel
theorem dX2_opens_26 : decode cX2_opens 26 = .ok (.aload_n 0, 1) := by decide +kernel
theorem dX2_opens_27 : decode cX2_opens 27 = .ok (.invokevirtual 137, 3) := by decide +kernel
theorem dX2_opens_30 : decode cX2_opens 30 = .ok (.iconst 1, 1) := by decide +kernel
theorem dX2_opens_31 : decode cX2_opens 31 = .ok (.ireturn, 1) := by decide +kernel
theorem dX2_readName_0 : decode cX2_readName 0 = .ok (.aload_n 0, 1) := by decide +kernel
theorem dX2_readName_1 : decode cX2_readName 1 = .ok (.getfield 153, 3) := by decide +kernel
theorem dX2_readName_4 : decode cX2_readName 4 = .ok (.ifCond .eq 14, 3) := by decide +kernel
theorem dX2_readName_7 : decode cX2_readName 7 = .ok (.iload_n 1, 1) := by decide +kernel
theorem dX2_readName_8 : decode cX2_readName 8 = .ok (.bipush 9, 2) := by decide +kernel
theorem dX2_readName_10 : decode cX2_readName 10 = .ok (.bipush 10, 2) := by decide +kernel
theorem dX2_readName_12 : decode cX2_readName 12 = .ok (.invokestatic 114, 3) := by decide +kernel
theorem dX2_readName_15 : decode cX2_readName 15 = .ok (.goto 11, 3) := by decide +kernel
theorem dX2_readName_18 : decode cX2_readName 18 = .ok (.iload_n 1, 1) := by decide +kernel
theorem dX2_readName_19 : decode cX2_readName 19 = .ok (.bipush 6, 2) := by decide +kernel
theorem dX2_readName_21 : decode cX2_readName 21 = .ok (.bipush 8, 2) := by decide +kernel
theorem dX2_readName_23 : decode cX2_readName 23 = .ok (.invokestatic 114, 3) := by decide +kernel
theorem dX2_readName_26 : decode cX2_readName 26 = .ok (.istore_n 2, 1) := by decide +kernel
theorem dX2_readName_27 : decode cX2_readName 27 = .ok (.iload_n 2, 1) := by decide +kernel
theorem dX2_readName_28 : decode cX2_readName 28 = .ok (.ifCond .eq 11, 3) := by decide +kernel
theorem dX2_readName_31 : decode cX2_readName 31 = .ok (.aload_n 0, 1) := by decide +kernel
theorem dX2_readName_32 : decode cX2_readName 32 = .ok (.iconst 5, 1) := by decide +kernel
theorem dX2_readName_33 : decode cX2_readName 33 = .ok (.invokevirtual 140, 3) := by decide +kernel
theorem dX2_readName_36 : decode cX2_readName 36 = .ok (.goto 16, 3) := by decide +kernel
theorem dX2_readName_39 : decode cX2_readName 39 = .ok (.aload_n 0, 1) := by decide +kernel
theorem dX2_readName_40 : decode cX2_readName 40 = .ok (.sipush 10000, 3) := by decide +kernel
theorem dX2_readName_43 : decode cX2_readName 43 = .ok (.iload_n 1, 1) := by decide +kernel
theorem dX2_readName_44 : decode cX2_readName 44 = .ok (.iadd, 1) := by decide +kernel
theorem dX2_readName_45 : decode cX2_readName 45 = .ok (.invokevirtual 170, 3) := by decide +kernel
theorem dX2_readName_48 : decode cX2_readName 48 = .ok (.aload_n 0, 1) := by decide +kernel
theorem dX2_readName_49 : decode cX2_readName 49 = .ok (.invokevirtual 137, 3) := by decide +kernel
theorem dX2_readName_52 : decode cX2_readName 52 = .ok (.return_, 1) := by decide +kernel
theorem dX2_readChoice_0 : decode cX2_readChoice 0 = .ok (.aload_n 0, 1) := by decide +kernel
theorem dX2_readChoice_1 : decode cX2_readChoice 1 = .ok (.invokevirtual 186, 3) := by decide +kernel
theorem dX2_readChoice_4 : decode cX2_readChoice 4 = .ok (.aload_n 0, 1) := by decide +kernel
theorem dX2_readChoice_5 : decode cX2_readChoice 5 = .ok (.bipush 23, 2) := by decide +kernel
theorem dX2_readChoice_7 : decode cX2_readChoice 7 = .ok (.invokevirtual 150, 3) := by decide +kernel
theorem dX2_readChoice_10 : decode cX2_readChoice 10 = .ok (.aload_n 0, 1) := by decide +kernel
theorem dX2_readChoice_11 : decode cX2_readChoice 11 = .ok (.invokevirtual 157, 3) := by decide +kernel
theorem dX2_readChoice_14 : decode cX2_readChoice 14 = .ok (.aload_n 0, 1) := by decide +kernel
theorem dX2_readChoice_15 : decode cX2_readChoice 15 = .ok (.bipush 24, 2) := by decide +kernel
theorem dX2_readChoice_17 : decode cX2_readChoice 17 = .ok (.invokevirtual 150, 3) := by decide +kernel
theorem dX2_readChoice_20 : decode cX2_readChoice 20 = .ok (.aload_n 0, 1) := by decide +kernel
theorem dX2_readChoice_21 : decode cX2_readChoice 21 = .ok (.invokevirtual 157, 3) := by decide +kernel
theorem dX2_readChoice_24 : decode cX2_readChoice 24 = .ok (.aload_n 0, 1) := by decide +kernel
theorem dX2_readChoice_25 : decode cX2_readChoice 25 = .ok (.bipush 25, 2) := by decide +kernel
theorem dX2_readChoice_27 : decode cX2_readChoice 27 = .ok (.invokevirtual 150, 3) := by decide +kernel
theorem dX2_readChoice_30 : decode cX2_readChoice 30 = .ok (.aload_n 0, 1) := by decide +kernel
theorem dX2_readChoice_31 : decode cX2_readChoice 31 = .ok (.sipush 20022, 3) := by decide +kernel
theorem dX2_readChoice_34 : decode cX2_readChoice 34 = .ok (.invokevirtual 170, 3) := by decide +kernel
theorem dX2_readChoice_37 : decode cX2_readChoice 37 = .ok (.return_, 1) := by decide +kernel
theorem dX2_readEither_0 : decode cX2_readEither 0 = .ok (.aload_n 0, 1) := by decide +kernel
theorem dX2_readEither_1 : decode cX2_readEither 1 = .ok (.invokevirtual 189, 3) := by decide +kernel
theorem dX2_readEither_4 : decode cX2_readEither 4 = .ok (.iconst 0, 1) := by decide +kernel
theorem dX2_readEither_5 : decode cX2_readEither 5 = .ok (.istore_n 1, 1) := by decide +kernel
theorem dX2_readEither_6 : decode cX2_readEither 6 = .ok (.iload_n 1, 1) := by decide +kernel
theorem dX2_readEither_7 : decode cX2_readEither 7 = .ok (.sipush 300, 3) := by decide +kernel
theorem dX2_readEither_10 : decode cX2_readEither 10 = .ok (.if_icmp .ge 33, 3) := by decide +kernel
theorem dX2_readEither_13 : decode cX2_readEither 13 = .ok (.aload_n 0, 1) := by decide +kernel
theorem dX2_readEither_14 : decode cX2_readEither 14 = .ok (.getfield 47, 3) := by decide +kernel
theorem dX2_readEither_17 : decode cX2_readEither 17 = .ok (.bipush 26, 2) := by decide +kernel
theorem dX2_readEither_19 : decode cX2_readEither 19 = .ok (.if_icmp .ne 24, 3) := by decide +kernel
theorem dX2_readEither_22 : decode cX2_readEither 22 = .ok (.aload_n 0, 1) := by decide +kernel
theorem dX2_readEither_23 : decode cX2_readEither 23 = .ok (.invokevirtual 137, 3) := by decide +kernel
theorem dX2_readEither_26 : decode cX2_readEither 26 = .ok (.aload_n 0, 1) := by decide +kernel
theorem dX2_readEither_27 : decode cX2_readEither 27 = .ok (.invokevirtual 189, 3) := by decide +kernel
theorem dX2_readEither_30 : decode cX2_readEither 30 = .ok (.aload_n 0, 1) := by decide +kernel
theorem dX2_readEither_31 : decode cX2_readEither 31 = .ok (.sipush 20026, 3) := by decide +kernel
theorem dX2_readEither_34 : decode cX2_readEither 34 = .ok (.invokevirtual 170, 3) := by decide +kernel
theorem dX2_readEither_37 : decode cX2_readEither 37 = .ok (.iinc 1 1, 3) := by decide +kernel
theorem dX2_readEither_40 : decode cX2_readEither 40 = .ok (.goto (-34), 3) := by decide +kernel
theorem dX2_readEither_43 : decode cX2_readEither 43 = .ok (.return_, 1) := by decide +kernel
theorem dX2_readBoth_0 : decode cX2_readBoth 0 = .ok (.aload_n 0, 1) := by decide +kernel
theorem dX2_readBoth_1 : decode cX2_readBoth 1 = .ok (.invokevirtual 192, 3) := by decide +kernel
theorem dX2_readBoth_4 : decode cX2_readBoth 4 = .ok (.iconst 0, 1) := by decide +kernel
theorem dX2_readBoth_5 : decode cX2_readBoth 5 = .ok (.istore_n 1, 1) := by decide +kernel
theorem dX2_readBoth_6 : decode cX2_readBoth 6 = .ok (.iload_n 1, 1) := by decide +kernel
theorem dX2_readBoth_7 : decode cX2_readBoth 7 = .ok (.sipush 300, 3) := by decide +kernel
theorem dX2_readBoth_10 : decode cX2_readBoth 10 = .ok (.if_icmp .ge 33, 3) := by decide +kernel
theorem dX2_readBoth_13 : decode cX2_readBoth 13 = .ok (.aload_n 0, 1) := by decide +kernel
theorem dX2_readBoth_14 : decode cX2_readBoth 14 = .ok (.getfield 47, 3) := by decide +kernel
theorem dX2_readBoth_17 : decode cX2_readBoth 17 = .ok (.bipush 27, 2) := by decide +kernel
theorem dX2_readBoth_19 : decode cX2_readBoth 19 = .ok (.if_icmp .ne 24, 3) := by decide +kernel
theorem dX2_readBoth_22 : decode cX2_readBoth 22 = .ok (.aload_n 0, 1) := by decide +kernel
theorem dX2_readBoth_23 : decode cX2_readBoth 23 = .ok (.invokevirtual 137, 3) := by decide +kernel
theorem dX2_readBoth_26 : decode cX2_readBoth 26 = .ok (.aload_n 0, 1) := by decide +kernel
theorem dX2_readBoth_27 : decode cX2_readBoth 27 = .ok (.invokevirtual 192, 3) := by decide +kernel
theorem dX2_readBoth_30 : decode cX2_readBoth 30 = .ok (.aload_n 0, 1) := by decide +kernel
theorem dX2_readBoth_31 : decode cX2_readBoth 31 = .ok (.sipush 20027, 3) := by decide +kernel
theorem dX2_readBoth_34 : decode cX2_readBoth 34 = .ok (.invokevirtual 170, 3) := by decide +kernel
theorem dX2_readBoth_37 : decode cX2_readBoth 37 = .ok (.iinc 1 1, 3) := by decide +kernel
theorem dX2_readBoth_40 : decode cX2_readBoth 40 = .ok (.goto (-34), 3) := by decide +kernel
theorem dX2_readBoth_43 : decode cX2_readBoth 43 = .ok (.return_, 1) := by decide +kernel
theorem dX2_readAsk_0 : decode cX2_readAsk 0 = .ok (.aload_n 0, 1) := by decide +kernel
theorem dX2_readAsk_1 : decode cX2_readAsk 1 = .ok (.getfield 47, 3) := by decide +kernel
theorem dX2_readAsk_4 : decode cX2_readAsk 4 = .ok (.bipush 28, 2) := by decide +kernel
theorem dX2_readAsk_6 : decode cX2_readAsk 6 = .ok (.if_icmp .ne 32, 3) := by decide +kernel
theorem dX2_readAsk_9 : decode cX2_readAsk 9 = .ok (.aload_n 0, 1) := by decide +kernel
theorem dX2_readAsk_10 : decode cX2_readAsk 10 = .ok (.invokevirtual 179, 3) := by decide +kernel
theorem dX2_readAsk_13 : decode cX2_readAsk 13 = .ok (.ifCond .eq 24, 3) := by decide +kernel
theorem dX2_readAsk_16 : decode cX2_readAsk 16 = .ok (.aload_n 0, 1) := by decide +kernel
theorem dX2_readAsk_17 : decode cX2_readAsk 17 = .ok (.invokevirtual 192, 3) := by decide +kernel
theorem dX2_readAsk_20 : decode cX2_readAsk 20 = .ok (.aload_n 0, 1) := by decide +kernel
theorem dX2_readAsk_21 : decode cX2_readAsk 21 = .ok (.sipush 20028, 3) := by decide +kernel
theorem dX2_readAsk_24 : decode cX2_readAsk 24 = .ok (.invokevirtual 170, 3) := by decide +kernel
theorem dX2_readAsk_27 : decode cX2_readAsk 27 = .ok (.aload_n 0, 1) := by decide +kernel
theorem dX2_readAsk_28 : decode cX2_readAsk 28 = .ok (.dup, 1) := by decide +kernel
theorem dX2_readAsk_29 : decode cX2_readAsk 29 = .ok (.getfield 50, 3) := by decide +kernel
theorem dX2_readAsk_32 : decode cX2_readAsk 32 = .ok (.iconst 1, 1) := by decide +kernel
theorem dX2_readAsk_33 : decode cX2_readAsk 33 = .ok (.isub, 1) := by decide +kernel
theorem dX2_readAsk_34 : decode cX2_readAsk 34 = .ok (.putfield 50, 3) := by decide +kernel
theorem dX2_readAsk_37 : decode cX2_readAsk 37 = .ok (.return_, 1) := by decide +kernel
theorem dX2_readAsk_38 : decode cX2_readAsk 38 = .ok (.aload_n 0, 1) := by decide +kernel
theorem dX2_readAsk_39 : decode cX2_readAsk 39 = .ok (.invokevirtual 157, 3) := by decide +kernel
theorem dX2_readAsk_42 : decode cX2_readAsk 42 = .ok (.aload_n 0, 1) := by decide +kernel
theorem dX2_readAsk_43 : decode cX2_readAsk 43 = .ok (.getfield 47, 3) := by decide +kernel
theorem dX2_readAsk_46 : decode cX2_readAsk 46 = .ok (.istore_n 1, 1) := by decide +kernel
theorem dX2_readAsk_47 : decode cX2_readAsk 47 = .ok (.iload_n 1, 1) := by decide +kernel
theorem dX2_readAsk_48 : decode cX2_readAsk 48 = .ok (.bipush 30, 2) := by decide +kernel
theorem dX2_readAsk_50 : decode cX2_readAsk 50 = .ok (.bipush 33, 2) := by decide +kernel
theorem dX2_readAsk_52 : decode cX2_readAsk 52 = .ok (.invokestatic 114, 3) := by decide +kernel
theorem dX2_readAsk_55 : decode cX2_readAsk 55 = .ok (.ifCond .ne 15, 3) := by decide +kernel
theorem dX2_readAsk_58 : decode cX2_readAsk 58 = .ok (.iload_n 1, 1) := by decide +kernel
theorem dX2_readAsk_59 : decode cX2_readAsk 59 = .ok (.bipush 41, 2) := by decide +kernel
theorem dX2_readAsk_61 : decode cX2_readAsk 61 = .ok (.if_icmp .eq 9, 3) := by decide +kernel
theorem dX2_readAsk_64 : decode cX2_readAsk 64 = .ok (.iload_n 1, 1) := by decide +kernel
theorem dX2_readAsk_65 : decode cX2_readAsk 65 = .ok (.bipush 42, 2) := by decide +kernel
theorem dX2_readAsk_67 : decode cX2_readAsk 67 = .ok (.if_icmp .ne 23, 3) := by decide +kernel
theorem dX2_readAsk_70 : decode cX2_readAsk 70 = .ok (.aload_n 0, 1) := by decide +kernel
theorem dX2_readAsk_71 : decode cX2_readAsk 71 = .ok (.invokevirtual 137, 3) := by decide +kernel
theorem dX2_readAsk_74 : decode cX2_readAsk 74 = .ok (.aload_n 0, 1) := by decide +kernel
theorem dX2_readAsk_75 : decode cX2_readAsk 75 = .ok (.invokevirtual 157, 3) := by decide +kernel
theorem dX2_readAsk_78 : decode cX2_readAsk 78 = .ok (.aload_n 0, 1) := by decide +kernel
theorem dX2_readAsk_79 : decode cX2_readAsk 79 = .ok (.sipush 20000, 3) := by decide +kernel
theorem dX2_readAsk_82 : decode cX2_readAsk 82 = .ok (.iload_n 1, 1) := by decide +kernel
theorem dX2_readAsk_83 : decode cX2_readAsk 83 = .ok (.iadd, 1) := by decide +kernel
theorem dX2_readAsk_84 : decode cX2_readAsk 84 = .ok (.invokevirtual 170, 3) := by decide +kernel
theorem dX2_readAsk_87 : decode cX2_readAsk 87 = .ok (.goto 8, 3) := by decide +kernel
theorem dX2_readAsk_90 : decode cX2_readAsk 90 = .ok (.aload_n 0, 1) := by decide +kernel
theorem dX2_readAsk_91 : decode cX2_readAsk 91 = .ok (.iconst 1, 1) := by decide +kernel
theorem dX2_readAsk_92 : decode cX2_readAsk 92 = .ok (.invokevirtual 140, 3) := by decide +kernel
theorem dX2_readAsk_95 : decode cX2_readAsk 95 = .ok (.return_, 1) := by decide +kernel
theorem dX3_init_0 : decode cX3_init 0 = .ok (.aload_n 0, 1) := by decide +kernel
theorem dX3_init_1 : decode cX3_init 1 = .ok (.invokespecial 3, 3) := by decide +kernel
theorem dX3_init_4 : decode cX3_init 4 = .ok (.aload_n 0, 1) := by decide +kernel
theorem dX3_init_5 : decode cX3_init 5 = .ok (.bipush 14, 2) := by decide +kernel
theorem dX3_init_7 : decode cX3_init 7 = .ok (.newarray .int, 2) := by decide +kernel
theorem dX3_init_9 : decode cX3_init 9 = .ok (.putfield 9, 3) := by decide +kernel
theorem dX3_init_12 : decode cX3_init 12 = .ok (.aload_n 0, 1) := by decide +kernel
theorem dX3_init_13 : decode cX3_init 13 = .ok (.sipush 300, 3) := by decide +kernel
theorem dX3_init_16 : decode cX3_init 16 = .ok (.newarray .int, 2) := by decide +kernel
theorem dX3_init_18 : decode cX3_init 18 = .ok (.putfield 15, 3) := by decide +kernel
theorem dX3_init_21 : decode cX3_init 21 = .ok (.return_, 1) := by decide +kernel
theorem dX3_weigh_0 : decode cX3_weigh 0 = .ok (.aload_n 0, 1) := by decide +kernel
theorem dX3_weigh_1 : decode cX3_weigh 1 = .ok (.iconst 0, 1) := by decide +kernel
theorem dX3_weigh_2 : decode cX3_weigh 2 = .ok (.putfield 18, 3) := by decide +kernel
theorem dX3_weigh_5 : decode cX3_weigh 5 = .ok (.aload_n 1, 1) := by decide +kernel
theorem dX3_weigh_6 : decode cX3_weigh 6 = .ok (.iload_n 2, 1) := by decide +kernel
theorem dX3_weigh_7 : decode cX3_weigh 7 = .ok (.invokevirtual 22, 3) := by decide +kernel
theorem dX3_weigh_10 : decode cX3_weigh 10 = .ok (.aload_n 1, 1) := by decide +kernel
theorem dX3_weigh_11 : decode cX3_weigh 11 = .ok (.getfield 28, 3) := by decide +kernel
theorem dX3_weigh_14 : decode cX3_weigh 14 = .ok (.arraylength, 1) := by decide +kernel
theorem dX3_weigh_15 : decode cX3_weigh 15 = .ok (.invokestatic 31, 3) := by decide +kernel
theorem dX3_weigh_18 : decode cX3_weigh 18 = .ok (.istore_n 3, 1) := by decide +kernel
theorem dX3_weigh_19 : decode cX3_weigh 19 = .ok (.iconst 0, 1) := by decide +kernel
theorem dX3_weigh_20 : decode cX3_weigh 20 = .ok (.aload_n 1, 1) := by decide +kernel
theorem dX3_weigh_21 : decode cX3_weigh 21 = .ok (.iload_n 2, 1) := by decide +kernel
theorem dX3_weigh_22 : decode cX3_weigh 22 = .ok (.invokevirtual 37, 3) := by decide +kernel
theorem dX3_weigh_25 : decode cX3_weigh 25 = .ok (.invokestatic 40, 3) := by decide +kernel
theorem dX3_weigh_28 : decode cX3_weigh 28 = .ok (.istore 4, 2) := by decide +kernel
theorem dX3_weigh_30 : decode cX3_weigh 30 = .ok (.iload 4, 2) := by decide +kernel
theorem dX3_weigh_32 : decode cX3_weigh 32 = .ok (.iload_n 3, 1) := by decide +kernel
theorem dX3_weigh_33 : decode cX3_weigh 33 = .ok (.if_icmp .ge 72, 3) := by decide +kernel
theorem dX3_weigh_36 : decode cX3_weigh 36 = .ok (.aload_n 1, 1) := by decide +kernel
theorem dX3_weigh_37 : decode cX3_weigh 37 = .ok (.getfield 28, 3) := by decide +kernel
theorem dX3_weigh_40 : decode cX3_weigh 40 = .ok (.iload 4, 2) := by decide +kernel
theorem dX3_weigh_42 : decode cX3_weigh 42 = .ok (.iaload, 1) := by decide +kernel
theorem dX3_weigh_43 : decode cX3_weigh 43 = .ok (.istore 5, 2) := by decide +kernel
theorem dX3_weigh_45 : decode cX3_weigh 45 = .ok (.iload 5, 2) := by decide +kernel
theorem dX3_weigh_47 : decode cX3_weigh 47 = .ok (.sipush 10000, 3) := by decide +kernel
theorem dX3_weigh_50 : decode cX3_weigh 50 = .ok (.if_icmp .ge 13, 3) := by decide +kernel
theorem dX3_weigh_53 : decode cX3_weigh 53 = .ok (.aload_n 0, 1) := by decide +kernel
theorem dX3_weigh_54 : decode cX3_weigh 54 = .ok (.iload 5, 2) := by decide +kernel
theorem dX3_weigh_56 : decode cX3_weigh 56 = .ok (.i2l, 1) := by decide +kernel
theorem dX3_weigh_57 : decode cX3_weigh 57 = .ok (.invokevirtual 43, 3) := by decide +kernel
theorem dX3_weigh_60 : decode cX3_weigh 60 = .ok (.goto 39, 3) := by decide +kernel
theorem dX3_weigh_63 : decode cX3_weigh 63 = .ok (.iload 5, 2) := by decide +kernel
theorem dX3_weigh_65 : decode cX3_weigh 65 = .ok (.sipush 20000, 3) := by decide +kernel
theorem dX3_weigh_68 : decode cX3_weigh 68 = .ok (.if_icmp .ge 21, 3) := by decide +kernel
theorem dX3_weigh_71 : decode cX3_weigh 71 = .ok (.aload_n 0, 1) := by decide +kernel
theorem dX3_weigh_72 : decode cX3_weigh 72 = .ok (.aload_n 0, 1) := by decide +kernel
theorem dX3_weigh_73 : decode cX3_weigh 73 = .ok (.iload 5, 2) := by decide +kernel
theorem dX3_weigh_75 : decode cX3_weigh 75 = .ok (.sipush 10000, 3) := by decide +kernel
theorem dX3_weigh_78 : decode cX3_weigh 78 = .ok (.isub, 1) := by decide +kernel
theorem dX3_weigh_79 : decode cX3_weigh 79 = .ok (.invokevirtual 47, 3) := by decide +kernel
theorem dX3_weigh_82 : decode cX3_weigh 82 = .ok (.i2l, 1) := by decide +kernel
theorem dX3_weigh_83 : decode cX3_weigh 83 = .ok (.invokevirtual 43, 3) := by decide +kernel
theorem dX3_weigh_86 : decode cX3_weigh 86 = .ok (.goto 13, 3) := by decide +kernel
theorem dX3_weigh_89 : decode cX3_weigh 89 = .ok (.aload_n 0, 1) := by decide +kernel
theorem dX3_weigh_90 : decode cX3_weigh 90 = .ok (.iload 5, 2) := by decide +kernel
theorem dX3_weigh_92 : decode cX3_weigh 92 = .ok (.sipush 20000, 3) := by decide +kernel
theorem dX3_weigh_95 : decode cX3_weigh 95 = .ok (.isub, 1) := by decide +kernel
theorem dX3_weigh_96 : decode cX3_weigh 96 = .ok (.invokevirtual 50, 3) := by decide +kernel
theorem dX3_weigh_99 : decode cX3_weigh 99 = .ok (.iinc 4 1, 3) := by decide +kernel
theorem dX3_weigh_102 : decode cX3_weigh 102 = .ok (.goto (-72), 3) := by decide +kernel
theorem dX3_weigh_105 : decode cX3_weigh 105 = .ok (.bipush (-99), 2) := by decide +kernel
theorem dX3_weigh_107 : decode cX3_weigh 107 = .ok (.bipush 99, 2) := by decide +kernel
theorem dX3_weigh_109 : decode cX3_weigh 109 = .ok (.aload_n 0, 1) := by decide +kernel
theorem dX3_weigh_110 : decode cX3_weigh 110 = .ok (.invokevirtual 54, 3) := by decide +kernel
theorem dX3_weigh_113 : decode cX3_weigh 113 = .ok (.invokestatic 31, 3) := by decide +kernel
theorem dX3_weigh_116 : decode cX3_weigh 116 = .ok (.invokestatic 40, 3) := by decide +kernel
theorem dX3_weigh_119 : decode cX3_weigh 119 = .ok (.ireturn, 1) := by decide +kernel
theorem dX3_push_0 : decode cX3_push 0 = .ok (.aload_n 0, 1) := by decide +kernel
theorem dX3_push_1 : decode cX3_push 1 = .ok (.getfield 18, 3) := by decide +kernel
theorem dX3_push_4 : decode cX3_push 4 = .ok (.aload_n 0, 1) := by decide +kernel
theorem dX3_push_5 : decode cX3_push 5 = .ok (.getfield 15, 3) := by decide +kernel
theorem dX3_push_8 : decode cX3_push 8 = .ok (.arraylength, 1) := by decide +kernel
theorem dX3_push_9 : decode cX3_push 9 = .ok (.if_icmp .ge 54, 3) := by decide +kernel
theorem dX3_push_12 : decode cX3_push 12 = .ok (.lload_n 1, 1) := by decide +kernel
theorem dX3_push_13 : decode cX3_push 13 = .ok (.ldc2_w 58, 3) := by decide +kernel
theorem dX3_push_16 : decode cX3_push 16 = .ok (.lcmp, 1) := by decide +kernel
theorem dX3_push_17 : decode cX3_push 17 = .ok (.ifCond .le 9, 3) := by decide +kernel
theorem dX3_push_20 : decode cX3_push 20 = .ok (.ldc2_w 58, 3) := by decide +kernel
theorem dX3_push_23 : decode cX3_push 23 = .ok (.goto 4, 3) := by decide +kernel
theorem dX3_push_26 : decode cX3_push 26 = .ok (.lload_n 1, 1) := by decide +kernel
theorem dX3_push_27 : decode cX3_push 27 = .ok (.lstore_n 3, 1) := by decide +kernel
theorem dX3_push_28 : decode cX3_push 28 = .ok (.aload_n 0, 1) := by decide +kernel
theorem dX3_push_29 : decode cX3_push 29 = .ok (.getfield 15, 3) := by decide +kernel
theorem dX3_push_32 : decode cX3_push 32 = .ok (.aload_n 0, 1) := by decide +kernel
theorem dX3_push_33 : decode cX3_push 33 = .ok (.getfield 18, 3) := by decide +kernel
theorem dX3_push_36 : decode cX3_push 36 = .ok (.lload_n 3, 1) := by decide +kernel
theorem dX3_push_37 : decode cX3_push 37 = .ok (.ldc2_w 60, 3) := by decide +kernel
theorem dX3_push_40 : decode cX3_push 40 = .ok (.lcmp, 1) := by decide +kernel
theorem dX3_push_41 : decode cX3_push 41 = .ok (.ifCond .ge 9, 3) := by decide +kernel
theorem dX3_push_44 : decode cX3_push 44 = .ok (.ldc2_w 60, 3) := by decide +kernel
theorem dX3_push_47 : decode cX3_push 47 = .ok (.goto 4, 3) := by decide +kernel
theorem dX3_push_50 : decode cX3_push 50 = .ok (.lload_n 3, 1) := by decide +kernel
theorem dX3_push_51 : decode cX3_push 51 = .ok (.l2i, 1) := by decide +kernel
theorem dX3_push_52 : decode cX3_push 52 = .ok (.iastore, 1) := by decide +kernel
theorem dX3_push_53 : decode cX3_push 53 = .ok (.aload_n 0, 1) := by decide +kernel
theorem dX3_push_54 : decode cX3_push 54 = .ok (.dup, 1) := by decide +kernel
theorem dX3_push_55 : decode cX3_push 55 = .ok (.getfield 18, 3) := by decide +kernel
theorem dX3_push_58 : decode cX3_push 58 = .ok (.iconst 1, 1) := by decide +kernel
theorem dX3_push_59 : decode cX3_push 59 = .ok (.iadd, 1) := by decide +kernel
theorem dX3_push_60 : decode cX3_push 60 = .ok (.putfield 18, 3) := by decide +kernel
theorem dX3_push_63 : decode cX3_push 63 = .ok (.return_, 1) := by decide +kernel
theorem dX3_pop_0 : decode cX3_pop 0 = .ok (.aload_n 0, 1) := by decide +kernel
theorem dX3_pop_1 : decode cX3_pop 1 = .ok (.getfield 18, 3) := by decide +kernel
theorem dX3_pop_4 : decode cX3_pop 4 = .ok (.ifCond .ne 5, 3) := by decide +kernel
theorem dX3_pop_7 : decode cX3_pop 7 = .ok (.iconst 0, 1) := by decide +kernel
theorem dX3_pop_8 : decode cX3_pop 8 = .ok (.ireturn, 1) := by decide +kernel
theorem dX3_pop_9 : decode cX3_pop 9 = .ok (.aload_n 0, 1) := by decide +kernel
theorem dX3_pop_10 : decode cX3_pop 10 = .ok (.dup, 1) := by decide +kernel
theorem dX3_pop_11 : decode cX3_pop 11 = .ok (.getfield 18, 3) := by decide +kernel
theorem dX3_pop_14 : decode cX3_pop 14 = .ok (.iconst 1, 1) := by decide +kernel
theorem dX3_pop_15 : decode cX3_pop 15 = .ok (.isub, 1) := by decide +kernel
theorem dX3_pop_16 : decode cX3_pop 16 = .ok (.putfield 18, 3) := by decide +kernel
theorem dX3_pop_19 : decode cX3_pop 19 = .ok (.aload_n 0, 1) := by decide +kernel
theorem dX3_pop_20 : decode cX3_pop 20 = .ok (.getfield 15, 3) := by decide +kernel
theorem dX3_pop_23 : decode cX3_pop 23 = .ok (.aload_n 0, 1) := by decide +kernel
theorem dX3_pop_24 : decode cX3_pop 24 = .ok (.getfield 18, 3) := by decide +kernel
theorem dX3_pop_27 : decode cX3_pop 27 = .ok (.iaload, 1) := by decide +kernel
theorem dX3_pop_28 : decode cX3_pop 28 = .ok (.ireturn, 1) := by decide +kernel
theorem dX3_valueOf_0 : decode cX3_valueOf 0 = .ok (.iload_n 1, 1) := by decide +kernel
theorem dX3_valueOf_1 : decode cX3_valueOf 1 = .ok (.ifCond .lt 21, 3) := by decide +kernel
theorem dX3_valueOf_4 : decode cX3_valueOf 4 = .ok (.iload_n 1, 1) := by decide +kernel
theorem dX3_valueOf_5 : decode cX3_valueOf 5 = .ok (.aload_n 0, 1) := by decide +kernel
theorem dX3_valueOf_6 : decode cX3_valueOf 6 = .ok (.getfield 9, 3) := by decide +kernel
theorem dX3_valueOf_9 : decode cX3_valueOf 9 = .ok (.arraylength, 1) := by decide +kernel
theorem dX3_valueOf_10 : decode cX3_valueOf 10 = .ok (.if_icmp .ge 12, 3) := by decide +kernel
theorem dX3_valueOf_13 : decode cX3_valueOf 13 = .ok (.aload_n 0, 1) := by decide +kernel
theorem dX3_valueOf_14 : decode cX3_valueOf 14 = .ok (.getfield 9, 3) := by decide +kernel
theorem dX3_valueOf_17 : decode cX3_valueOf 17 = .ok (.iload_n 1, 1) := by decide +kernel
theorem dX3_valueOf_18 : decode cX3_valueOf 18 = .ok (.iaload, 1) := by decide +kernel
theorem dX3_valueOf_19 : decode cX3_valueOf 19 = .ok (.goto 4, 3) := by decide +kernel
theorem dX3_valueOf_22 : decode cX3_valueOf 22 = .ok (.iconst 0, 1) := by decide +kernel
theorem dX3_valueOf_23 : decode cX3_valueOf 23 = .ok (.ireturn, 1) := by decide +kernel
theorem dX3_operate_0 : decode cX3_operate 0 = .ok (.aload_n 0, 1) := by decide +kernel
theorem dX3_operate_1 : decode cX3_operate 1 = .ok (.invokevirtual 54, 3) := by decide +kernel
theorem dX3_operate_4 : decode cX3_operate 4 = .ok (.istore_n 2, 1) := by decide +kernel
theorem dX3_operate_5 : decode cX3_operate 5 = .ok (.iload_n 1, 1) := by decide +kernel
theorem dX3_operate_6 : decode cX3_operate 6 = .ok (.bipush 43, 2) := by decide +kernel
theorem dX3_operate_8 : decode cX3_operate 8 = .ok (.if_icmp .ne 13, 3) := by decide +kernel
theorem dX3_operate_11 : decode cX3_operate 11 = .ok (.aload_n 0, 1) := by decide +kernel
theorem dX3_operate_12 : decode cX3_operate 12 = .ok (.iload_n 2, 1) := by decide +kernel
theorem dX3_operate_13 : decode cX3_operate 13 = .ok (.ineg, 1) := by decide +kernel
theorem dX3_operate_14 : decode cX3_operate 14 = .ok (.i2l, 1) := by decide +kernel
theorem dX3_operate_15 : decode cX3_operate 15 = .ok (.invokevirtual 43, 3) := by decide +kernel
theorem dX3_operate_18 : decode cX3_operate 18 = .ok (.goto 118, 3) := by decide +kernel
theorem dX3_operate_21 : decode cX3_operate 21 = .ok (.iload_n 1, 1) := by decide +kernel
theorem dX3_operate_22 : decode cX3_operate 22 = .ok (.bipush 20, 2) := by decide +kernel
theorem dX3_operate_24 : decode cX3_operate 24 = .ok (.if_icmp .ne 14, 3) := by decide +kernel
theorem dX3_operate_27 : decode cX3_operate 27 = .ok (.aload_n 0, 1) := by decide +kernel
theorem dX3_operate_28 : decode cX3_operate 28 = .ok (.iload_n 2, 1) := by decide +kernel
theorem dX3_operate_29 : decode cX3_operate 29 = .ok (.iconst 1, 1) := by decide +kernel
theorem dX3_operate_30 : decode cX3_operate 30 = .ok (.iand, 1) := by decide +kernel
theorem dX3_operate_31 : decode cX3_operate 31 = .ok (.i2l, 1) := by decide +kernel
theorem dX3_operate_32 : decode cX3_operate 32 = .ok (.invokevirtual 43, 3) := by decide +kernel
theorem dX3_operate_35 : decode cX3_operate 35 = .ok (.goto 101, 3) := by decide +kernel
theorem dX3_operate_38 : decode cX3_operate 38 = .ok (.iload_n 1, 1) := by decide +kernel
theorem dX3_operate_39 : decode cX3_operate 39 = .ok (.bipush 21, 2) := by decide +kernel
theorem dX3_operate_41 : decode cX3_operate 41 = .ok (.if_icmp .ne 33, 3) := by decide +kernel
theorem dX3_operate_44 : decode cX3_operate 44 = .ok (.aload_n 0, 1) := by decide +kernel
theorem dX3_operate_45 : decode cX3_operate 45 = .ok (.iload_n 2, 1) := by decide +kernel
theorem dX3_operate_46 : decode cX3_operate 46 = .ok (.ifCond .lt 21, 3) := by decide +kernel
theorem dX3_operate_49 : decode cX3_operate 49 = .ok (.iload_n 2, 1) := by decide +kernel
theorem dX3_operate_50 : decode cX3_operate 50 = .ok (.iconst 3, 1) := by decide +kernel
theorem dX3_operate_51 : decode cX3_operate 51 = .ok (.if_icmp .ge 16, 3) := by decide +kernel
theorem dX3_operate_54 : decode cX3_operate 54 = .ok (.aload_n 0, 1) := by decide +kernel
theorem dX3_operate_55 : decode cX3_operate 55 = .ok (.getfield 9, 3) := by decide +kernel
theorem dX3_operate_58 : decode cX3_operate 58 = .ok (.bipush 11, 2) := by decide +kernel
theorem dX3_operate_60 : decode cX3_operate 60 = .ok (.iload_n 2, 1) := by decide +kernel
theorem dX3_operate_61 : decode cX3_operate 61 = .ok (.iadd, 1) := by decide +kernel
theorem dX3_operate_62 : decode cX3_operate 62 = .ok (.iaload, 1) := by decide +kernel
theorem dX3_operate_63 : decode cX3_operate 63 = .ok (.i2l, 1) := by decide +kernel
theorem dX3_operate_64 : decode cX3_operate 64 = .ok (.goto 4, 3) := by decide +kernel
theorem dX3_operate_67 : decode cX3_operate 67 = .ok (.lconst 0, 1) := by decide +kernel
theorem dX3_operate_68 : decode cX3_operate 68 = .ok (.invokevirtual 43, 3) := by decide +kernel
theorem dX3_operate_71 : decode cX3_operate 71 = .ok (.goto 65, 3) := by decide +kernel
theorem dX3_operate_74 : decode cX3_operate 74 = .ok (.iload_n 1, 1) := by decide +kernel
theorem dX3_operate_75 : decode cX3_operate 75 = .ok (.bipush 28, 2) := by decide +kernel
theorem dX3_operate_77 : decode cX3_operate 77 = .ok (.if_icmp .ne 14, 3) := by decide +kernel
theorem dX3_operate_80 : decode cX3_operate 80 = .ok (.aload_n 0, 1) := by decide +kernel
theorem dX3_operate_81 : decode cX3_operate 81 = .ok (.iconst 1, 1) := by decide +kernel
theorem dX3_operate_82 : decode cX3_operate 82 = .ok (.iload_n 2, 1) := by decide +kernel
theorem dX3_operate_83 : decode cX3_operate 83 = .ok (.isub, 1) := by decide +kernel
theorem dX3_operate_84 : decode cX3_operate 84 = .ok (.i2l, 1) := by decide +kernel
theorem dX3_operate_85 : decode cX3_operate 85 = .ok (.invokevirtual 43, 3) := by decide +kernel
theorem dX3_operate_88 : decode cX3_operate 88 = .ok (.goto 48, 3) := by decide +kernel
theorem dX3_operate_91 : decode cX3_operate 91 = .ok (.iload_n 1, 1) := by decide +kernel
theorem dX3_operate_92 : decode cX3_operate 92 = .ok (.bipush 22, 2) := by decide +kernel
theorem dX3_operate_94 : decode cX3_operate 94 = .ok (.if_icmp .ne 29, 3) := by decide +kernel
theorem dX3_operate_97 : decode cX3_operate 97 = .ok (.aload_n 0, 1) := by decide +kernel
theorem dX3_operate_98 : decode cX3_operate 98 = .ok (.invokevirtual 54, 3) := by decide +kernel
theorem dX3_operate_101 : decode cX3_operate 101 = .ok (.istore_n 3, 1) := by decide +kernel
