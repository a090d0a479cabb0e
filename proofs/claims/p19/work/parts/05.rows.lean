/-! decode rows, by wip/tools/names.py -/
theorem dC_init_0 : decode bC_init 0 = .ok (.aload_n 0, 1) := by decide +kernel
theorem dC_init_1 : decode bC_init 1 = .ok (.invokespecial 3, 3) := by decide +kernel
theorem dC_init_4 : decode bC_init 4 = .ok (.aload_n 0, 1) := by decide +kernel
theorem dC_init_5 : decode bC_init 5 = .ok (.new 9, 3) := by decide +kernel
theorem dC_init_8 : decode bC_init 8 = .ok (.dup, 1) := by decide +kernel
theorem dC_init_9 : decode bC_init 9 = .ok (.invokespecial 11, 3) := by decide +kernel
theorem dC_init_12 : decode bC_init 12 = .ok (.putfield 12, 3) := by decide +kernel
theorem dC_init_15 : decode bC_init 15 = .ok (.aload_n 0, 1) := by decide +kernel
theorem dC_init_16 : decode bC_init 16 = .ok (.new 16, 3) := by decide +kernel
theorem dC_init_19 : decode bC_init 19 = .ok (.dup, 1) := by decide +kernel
theorem dC_init_20 : decode bC_init 20 = .ok (.invokespecial 18, 3) := by decide +kernel
theorem dC_init_23 : decode bC_init 23 = .ok (.putfield 19, 3) := by decide +kernel
theorem dC_init_26 : decode bC_init 26 = .ok (.aload_n 0, 1) := by decide +kernel
theorem dC_init_27 : decode bC_init 27 = .ok (.new 23, 3) := by decide +kernel
theorem dC_init_30 : decode bC_init 30 = .ok (.dup, 1) := by decide +kernel
theorem dC_init_31 : decode bC_init 31 = .ok (.iconst 1, 1) := by decide +kernel
theorem dC_init_32 : decode bC_init 32 = .ok (.invokespecial 25, 3) := by decide +kernel
theorem dC_init_35 : decode bC_init 35 = .ok (.putfield 28, 3) := by decide +kernel
theorem dC_init_38 : decode bC_init 38 = .ok (.aload_n 0, 1) := by decide +kernel
theorem dC_init_39 : decode bC_init 39 = .ok (.new 32, 3) := by decide +kernel
theorem dC_init_42 : decode bC_init 42 = .ok (.dup, 1) := by decide +kernel
theorem dC_init_43 : decode bC_init 43 = .ok (.aload_n 0, 1) := by decide +kernel
theorem dC_init_44 : decode bC_init 44 = .ok (.getfield 12, 3) := by decide +kernel
theorem dC_init_47 : decode bC_init 47 = .ok (.invokespecial 34, 3) := by decide +kernel
theorem dC_init_50 : decode bC_init 50 = .ok (.putfield 37, 3) := by decide +kernel
theorem dC_init_53 : decode bC_init 53 = .ok (.aload_n 0, 1) := by decide +kernel
theorem dC_init_54 : decode bC_init 54 = .ok (.new 32, 3) := by decide +kernel
theorem dC_init_57 : decode bC_init 57 = .ok (.dup, 1) := by decide +kernel
theorem dC_init_58 : decode bC_init 58 = .ok (.aload_n 0, 1) := by decide +kernel
theorem dC_init_59 : decode bC_init 59 = .ok (.getfield 12, 3) := by decide +kernel
theorem dC_init_62 : decode bC_init 62 = .ok (.invokespecial 34, 3) := by decide +kernel
theorem dC_init_65 : decode bC_init 65 = .ok (.putfield 41, 3) := by decide +kernel
theorem dC_init_68 : decode bC_init 68 = .ok (.aload_n 0, 1) := by decide +kernel
theorem dC_init_69 : decode bC_init 69 = .ok (.iconst 0, 1) := by decide +kernel
theorem dC_init_70 : decode bC_init 70 = .ok (.putfield 44, 3) := by decide +kernel
theorem dC_init_73 : decode bC_init 73 = .ok (.return_, 1) := by decide +kernel
theorem dC_bin_0 : decode bC_bin 0 = .ok (.aload_n 0, 1) := by decide +kernel
theorem dC_bin_1 : decode bC_bin 1 = .ok (.getfield 12, 3) := by decide +kernel
theorem dC_bin_4 : decode bC_bin 4 = .ok (.getfield 48, 3) := by decide +kernel
theorem dC_bin_7 : decode bC_bin 7 = .ok (.bipush 6, 2) := by decide +kernel
theorem dC_bin_9 : decode bC_bin 9 = .ok (.if_icmp .ge 24, 3) := by decide +kernel
theorem dC_bin_12 : decode bC_bin 12 = .ok (.lload_n 1, 1) := by decide +kernel
theorem dC_bin_13 : decode bC_bin 13 = .ok (.ldc2_w 52, 3) := by decide +kernel
theorem dC_bin_16 : decode bC_bin 16 = .ok (.invokestatic 54, 3) := by decide +kernel
theorem dC_bin_19 : decode bC_bin 19 = .ok (.ifCond .eq 14, 3) := by decide +kernel
theorem dC_bin_22 : decode bC_bin 22 = .ok (.iload_n 3, 1) := by decide +kernel
theorem dC_bin_23 : decode bC_bin 23 = .ok (.i2l, 1) := by decide +kernel
theorem dC_bin_24 : decode bC_bin 24 = .ok (.ldc2_w 52, 3) := by decide +kernel
theorem dC_bin_27 : decode bC_bin 27 = .ok (.invokestatic 54, 3) := by decide +kernel
theorem dC_bin_30 : decode bC_bin 30 = .ok (.ifCond .ne 5, 3) := by decide +kernel
theorem dC_bin_33 : decode bC_bin 33 = .ok (.iconst (-1), 1) := by decide +kernel
theorem dC_bin_34 : decode bC_bin 34 = .ok (.ireturn, 1) := by decide +kernel
theorem dC_bin_35 : decode bC_bin 35 = .ok (.aload_n 0, 1) := by decide +kernel
theorem dC_bin_36 : decode bC_bin 36 = .ok (.getfield 12, 3) := by decide +kernel
theorem dC_bin_39 : decode bC_bin 39 = .ok (.lload_n 1, 1) := by decide +kernel
theorem dC_bin_40 : decode bC_bin 40 = .ok (.iload_n 3, 1) := by decide +kernel
theorem dC_bin_41 : decode bC_bin 41 = .ok (.invokevirtual 58, 3) := by decide +kernel
theorem dC_bin_44 : decode bC_bin 44 = .ok (.ireturn, 1) := by decide +kernel
theorem dC_isWithin_0 : decode bC_isWithin 0 = .ok (.lload_n 0, 1) := by decide +kernel
theorem dC_isWithin_1 : decode bC_isWithin 1 = .ok (.lconst 0, 1) := by decide +kernel
theorem dC_isWithin_2 : decode bC_isWithin 2 = .ok (.lcmp, 1) := by decide +kernel
theorem dC_isWithin_3 : decode bC_isWithin 3 = .ok (.ifCond .lt 13, 3) := by decide +kernel
theorem dC_isWithin_6 : decode bC_isWithin 6 = .ok (.lload_n 0, 1) := by decide +kernel
theorem dC_isWithin_7 : decode bC_isWithin 7 = .ok (.lload_n 2, 1) := by decide +kernel
theorem dC_isWithin_8 : decode bC_isWithin 8 = .ok (.lcmp, 1) := by decide +kernel
theorem dC_isWithin_9 : decode bC_isWithin 9 = .ok (.ifCond .gt 7, 3) := by decide +kernel
theorem dC_isWithin_12 : decode bC_isWithin 12 = .ok (.iconst 1, 1) := by decide +kernel
theorem dC_isWithin_13 : decode bC_isWithin 13 = .ok (.goto 4, 3) := by decide +kernel
theorem dC_isWithin_16 : decode bC_isWithin 16 = .ok (.iconst 0, 1) := by decide +kernel
theorem dC_isWithin_17 : decode bC_isWithin 17 = .ok (.ireturn, 1) := by decide +kernel
theorem dC_way_0 : decode bC_way 0 = .ok (.iload_n 1, 1) := by decide +kernel
theorem dC_way_1 : decode bC_way 1 = .ok (.i2l, 1) := by decide +kernel
theorem dC_way_2 : decode bC_way 2 = .ok (.aload_n 0, 1) := by decide +kernel
theorem dC_way_3 : decode bC_way 3 = .ok (.getfield 12, 3) := by decide +kernel
theorem dC_way_6 : decode bC_way 6 = .ok (.getfield 48, 3) := by decide +kernel
theorem dC_way_9 : decode bC_way 9 = .ok (.i2l, 1) := by decide +kernel
theorem dC_way_10 : decode bC_way 10 = .ok (.invokestatic 54, 3) := by decide +kernel
theorem dC_way_13 : decode bC_way 13 = .ok (.ifCond .eq 46, 3) := by decide +kernel
theorem dC_way_16 : decode bC_way 16 = .ok (.iload_n 2, 1) := by decide +kernel
theorem dC_way_17 : decode bC_way 17 = .ok (.i2l, 1) := by decide +kernel
theorem dC_way_18 : decode bC_way 18 = .ok (.aload_n 0, 1) := by decide +kernel
theorem dC_way_19 : decode bC_way 19 = .ok (.getfield 12, 3) := by decide +kernel
theorem dC_way_22 : decode bC_way 22 = .ok (.getfield 48, 3) := by decide +kernel
theorem dC_way_25 : decode bC_way 25 = .ok (.i2l, 1) := by decide +kernel
theorem dC_way_26 : decode bC_way 26 = .ok (.invokestatic 54, 3) := by decide +kernel
theorem dC_way_29 : decode bC_way 29 = .ok (.ifCond .eq 30, 3) := by decide +kernel
theorem dC_way_32 : decode bC_way 32 = .ok (.iload_n 1, 1) := by decide +kernel
theorem dC_way_33 : decode bC_way 33 = .ok (.iload_n 2, 1) := by decide +kernel
theorem dC_way_34 : decode bC_way 34 = .ok (.if_icmp .eq 25, 3) := by decide +kernel
theorem dC_way_37 : decode bC_way 37 = .ok (.iload_n 3, 1) := by decide +kernel
theorem dC_way_38 : decode bC_way 38 = .ok (.i2l, 1) := by decide +kernel
theorem dC_way_39 : decode bC_way 39 = .ok (.ldc2_w 52, 3) := by decide +kernel
theorem dC_way_42 : decode bC_way 42 = .ok (.invokestatic 54, 3) := by decide +kernel
theorem dC_way_45 : decode bC_way 45 = .ok (.ifCond .eq 14, 3) := by decide +kernel
theorem dC_way_48 : decode bC_way 48 = .ok (.lload 4, 2) := by decide +kernel
theorem dC_way_50 : decode bC_way 50 = .ok (.ldc2_w 62, 3) := by decide +kernel
theorem dC_way_53 : decode bC_way 53 = .ok (.invokestatic 54, 3) := by decide +kernel
theorem dC_way_56 : decode bC_way 56 = .ok (.ifCond .ne 5, 3) := by decide +kernel
theorem dC_way_59 : decode bC_way 59 = .ok (.iconst 0, 1) := by decide +kernel
theorem dC_way_60 : decode bC_way 60 = .ok (.ireturn, 1) := by decide +kernel
theorem dC_way_61 : decode bC_way 61 = .ok (.aload_n 0, 1) := by decide +kernel
theorem dC_way_62 : decode bC_way 62 = .ok (.getfield 12, 3) := by decide +kernel
theorem dC_way_65 : decode bC_way 65 = .ok (.getfield 64, 3) := by decide +kernel
theorem dC_way_68 : decode bC_way 68 = .ok (.iload_n 1, 1) := by decide +kernel
theorem dC_way_69 : decode bC_way 69 = .ok (.aaload, 1) := by decide +kernel
theorem dC_way_70 : decode bC_way 70 = .ok (.iload_n 2, 1) := by decide +kernel
theorem dC_way_71 : decode bC_way 71 = .ok (.iload_n 3, 1) := by decide +kernel
theorem dC_way_72 : decode bC_way 72 = .ok (.iastore, 1) := by decide +kernel
theorem dC_way_73 : decode bC_way 73 = .ok (.aload_n 0, 1) := by decide +kernel
theorem dC_way_74 : decode bC_way 74 = .ok (.getfield 12, 3) := by decide +kernel
theorem dC_way_77 : decode bC_way 77 = .ok (.getfield 68, 3) := by decide +kernel
theorem dC_way_80 : decode bC_way 80 = .ok (.iload_n 1, 1) := by decide +kernel
theorem dC_way_81 : decode bC_way 81 = .ok (.aaload, 1) := by decide +kernel
theorem dC_way_82 : decode bC_way 82 = .ok (.iload_n 2, 1) := by decide +kernel
theorem dC_way_83 : decode bC_way 83 = .ok (.lload 4, 2) := by decide +kernel
theorem dC_way_85 : decode bC_way 85 = .ok (.lastore, 1) := by decide +kernel
theorem dC_way_86 : decode bC_way 86 = .ok (.iconst 1, 1) := by decide +kernel
theorem dC_way_87 : decode bC_way 87 = .ok (.ireturn, 1) := by decide +kernel
theorem dC_vehicle_0 : decode bC_vehicle 0 = .ok (.lload_n 1, 1) := by decide +kernel
theorem dC_vehicle_1 : decode bC_vehicle 1 = .ok (.ldc2_w 72, 3) := by decide +kernel
theorem dC_vehicle_4 : decode bC_vehicle 4 = .ok (.invokestatic 54, 3) := by decide +kernel
theorem dC_vehicle_7 : decode bC_vehicle 7 = .ok (.ifCond .eq 26, 3) := by decide +kernel
theorem dC_vehicle_10 : decode bC_vehicle 10 = .ok (.iload_n 3, 1) := by decide +kernel
theorem dC_vehicle_11 : decode bC_vehicle 11 = .ok (.i2l, 1) := by decide +kernel
theorem dC_vehicle_12 : decode bC_vehicle 12 = .ok (.ldc2_w 74, 3) := by decide +kernel
theorem dC_vehicle_15 : decode bC_vehicle 15 = .ok (.invokestatic 54, 3) := by decide +kernel
theorem dC_vehicle_18 : decode bC_vehicle 18 = .ok (.ifCond .eq 15, 3) := by decide +kernel
theorem dC_vehicle_21 : decode bC_vehicle 21 = .ok (.iload 4, 2) := by decide +kernel
theorem dC_vehicle_23 : decode bC_vehicle 23 = .ok (.i2l, 1) := by decide +kernel
theorem dC_vehicle_24 : decode bC_vehicle 24 = .ok (.ldc2_w 76, 3) := by decide +kernel
theorem dC_vehicle_27 : decode bC_vehicle 27 = .ok (.invokestatic 54, 3) := by decide +kernel
theorem dC_vehicle_30 : decode bC_vehicle 30 = .ok (.ifCond .ne 5, 3) := by decide +kernel
theorem dC_vehicle_33 : decode bC_vehicle 33 = .ok (.iconst 0, 1) := by decide +kernel
theorem dC_vehicle_34 : decode bC_vehicle 34 = .ok (.ireturn, 1) := by decide +kernel
theorem dC_vehicle_35 : decode bC_vehicle 35 = .ok (.aload_n 0, 1) := by decide +kernel
theorem dC_vehicle_36 : decode bC_vehicle 36 = .ok (.getfield 12, 3) := by decide +kernel
theorem dC_vehicle_39 : decode bC_vehicle 39 = .ok (.lload_n 1, 1) := by decide +kernel
theorem dC_vehicle_40 : decode bC_vehicle 40 = .ok (.putfield 78, 3) := by decide +kernel
theorem dC_vehicle_43 : decode bC_vehicle 43 = .ok (.aload_n 0, 1) := by decide +kernel
theorem dC_vehicle_44 : decode bC_vehicle 44 = .ok (.getfield 12, 3) := by decide +kernel
theorem dC_vehicle_47 : decode bC_vehicle 47 = .ok (.iload_n 3, 1) := by decide +kernel
theorem dC_vehicle_48 : decode bC_vehicle 48 = .ok (.putfield 82, 3) := by decide +kernel
theorem dC_vehicle_51 : decode bC_vehicle 51 = .ok (.aload_n 0, 1) := by decide +kernel
theorem dC_vehicle_52 : decode bC_vehicle 52 = .ok (.getfield 12, 3) := by decide +kernel
theorem dC_vehicle_55 : decode bC_vehicle 55 = .ok (.iload 4, 2) := by decide +kernel
theorem dC_vehicle_57 : decode bC_vehicle 57 = .ok (.putfield 85, 3) := by decide +kernel
theorem dC_vehicle_60 : decode bC_vehicle 60 = .ok (.iconst 1, 1) := by decide +kernel
theorem dC_vehicle_61 : decode bC_vehicle 61 = .ok (.ireturn, 1) := by decide +kernel
theorem dC_branch_0 : decode bC_branch 0 = .ok (.iload_n 1, 1) := by decide +kernel
theorem dC_branch_1 : decode bC_branch 1 = .ok (.aload_n 0, 1) := by decide +kernel
theorem dC_branch_2 : decode bC_branch 2 = .ok (.getfield 12, 3) := by decide +kernel
theorem dC_branch_5 : decode bC_branch 5 = .ok (.getfield 48, 3) := by decide +kernel
theorem dC_branch_8 : decode bC_branch 8 = .ok (.invokestatic 88, 3) := by decide +kernel
theorem dC_branch_11 : decode bC_branch 11 = .ok (.ifCond .eq 22, 3) := by decide +kernel
theorem dC_branch_14 : decode bC_branch 14 = .ok (.iload_n 2, 1) := by decide +kernel
theorem dC_branch_15 : decode bC_branch 15 = .ok (.aload_n 0, 1) := by decide +kernel
theorem dC_branch_16 : decode bC_branch 16 = .ok (.getfield 12, 3) := by decide +kernel
theorem dC_branch_19 : decode bC_branch 19 = .ok (.getfield 48, 3) := by decide +kernel
theorem dC_branch_22 : decode bC_branch 22 = .ok (.invokestatic 88, 3) := by decide +kernel
theorem dC_branch_25 : decode bC_branch 25 = .ok (.ifCond .eq 8, 3) := by decide +kernel
theorem dC_branch_28 : decode bC_branch 28 = .ok (.iload_n 1, 1) := by decide +kernel
theorem dC_branch_29 : decode bC_branch 29 = .ok (.iload_n 2, 1) := by decide +kernel
theorem dC_branch_30 : decode bC_branch 30 = .ok (.if_icmp .ne 5, 3) := by decide +kernel
theorem dC_branch_33 : decode bC_branch 33 = .ok (.iconst 0, 1) := by decide +kernel
theorem dC_branch_34 : decode bC_branch 34 = .ok (.ireturn, 1) := by decide +kernel
theorem dC_branch_35 : decode bC_branch 35 = .ok (.aload_n 0, 1) := by decide +kernel
theorem dC_branch_36 : decode bC_branch 36 = .ok (.getfield 12, 3) := by decide +kernel
theorem dC_branch_39 : decode bC_branch 39 = .ok (.iload_n 1, 1) := by decide +kernel
theorem dC_branch_40 : decode bC_branch 40 = .ok (.iload_n 2, 1) := by decide +kernel
theorem dC_branch_41 : decode bC_branch 41 = .ok (.iload_n 3, 1) := by decide +kernel
theorem dC_branch_42 : decode bC_branch 42 = .ok (.invokevirtual 92, 3) := by decide +kernel
theorem dC_branch_45 : decode bC_branch 45 = .ok (.iconst 1, 1) := by decide +kernel
theorem dC_branch_46 : decode bC_branch 46 = .ok (.ireturn, 1) := by decide +kernel
theorem dC_isIndex_0 : decode bC_isIndex 0 = .ok (.iload_n 0, 1) := by decide +kernel
theorem dC_isIndex_1 : decode bC_isIndex 1 = .ok (.ifCond .lt 12, 3) := by decide +kernel
theorem dC_isIndex_4 : decode bC_isIndex 4 = .ok (.iload_n 0, 1) := by decide +kernel
theorem dC_isIndex_5 : decode bC_isIndex 5 = .ok (.iload_n 1, 1) := by decide +kernel
theorem dC_isIndex_6 : decode bC_isIndex 6 = .ok (.if_icmp .ge 7, 3) := by decide +kernel
theorem dC_isIndex_9 : decode bC_isIndex 9 = .ok (.iconst 1, 1) := by decide +kernel
theorem dC_isIndex_10 : decode bC_isIndex 10 = .ok (.goto 4, 3) := by decide +kernel
theorem dC_isIndex_13 : decode bC_isIndex 13 = .ok (.iconst 0, 1) := by decide +kernel
theorem dC_isIndex_14 : decode bC_isIndex 14 = .ok (.ireturn, 1) := by decide +kernel
theorem dC_clear_0 : decode bC_clear 0 = .ok (.aload_n 0, 1) := by decide +kernel
theorem dC_clear_1 : decode bC_clear 1 = .ok (.getfield 12, 3) := by decide +kernel
theorem dC_clear_4 : decode bC_clear 4 = .ok (.invokevirtual 96, 3) := by decide +kernel
theorem dC_clear_7 : decode bC_clear 7 = .ok (.return_, 1) := by decide +kernel
theorem dC_steps_0 : decode bC_steps 0 = .ok (.aload_n 0, 1) := by decide +kernel
theorem dC_steps_1 : decode bC_steps 1 = .ok (.getfield 37, 3) := by decide +kernel
theorem dC_steps_4 : decode bC_steps 4 = .ok (.getfield 102, 3) := by decide +kernel
theorem dC_steps_7 : decode bC_steps 7 = .ok (.ireturn, 1) := by decide +kernel
theorem dC_columns_0 : decode bC_columns 0 = .ok (.aload_n 0, 1) := by decide +kernel
theorem dC_columns_1 : decode bC_columns 1 = .ok (.getfield 37, 3) := by decide +kernel
theorem dC_columns_4 : decode bC_columns 4 = .ok (.getfield 116, 3) := by decide +kernel
theorem dC_columns_7 : decode bC_columns 7 = .ok (.ireturn, 1) := by decide +kernel
theorem dC_column_0 : decode bC_column 0 = .ok (.iload_n 1, 1) := by decide +kernel
theorem dC_column_1 : decode bC_column 1 = .ok (.aload_n 0, 1) := by decide +kernel
theorem dC_column_2 : decode bC_column 2 = .ok (.getfield 37, 3) := by decide +kernel
theorem dC_column_5 : decode bC_column 5 = .ok (.getfield 116, 3) := by decide +kernel
theorem dC_column_8 : decode bC_column 8 = .ok (.invokestatic 88, 3) := by decide +kernel
theorem dC_column_11 : decode bC_column 11 = .ok (.ifCond .eq 15, 3) := by decide +kernel
theorem dC_column_14 : decode bC_column 14 = .ok (.aload_n 0, 1) := by decide +kernel
theorem dC_column_15 : decode bC_column 15 = .ok (.getfield 37, 3) := by decide +kernel
theorem dC_column_18 : decode bC_column 18 = .ok (.iload_n 1, 1) := by decide +kernel
theorem dC_column_19 : decode bC_column 19 = .ok (.iload_n 2, 1) := by decide +kernel
theorem dC_column_20 : decode bC_column 20 = .ok (.invokevirtual 119, 3) := by decide +kernel
theorem dC_column_23 : decode bC_column 23 = .ok (.goto 4, 3) := by decide +kernel
theorem dC_column_26 : decode bC_column 26 = .ok (.iconst (-1), 1) := by decide +kernel
theorem dC_column_27 : decode bC_column 27 = .ok (.ireturn, 1) := by decide +kernel
theorem dC_bound_0 : decode bC_bound 0 = .ok (.aload_n 0, 1) := by decide +kernel
theorem dC_bound_1 : decode bC_bound 1 = .ok (.getfield 19, 3) := by decide +kernel
theorem dC_bound_4 : decode bC_bound 4 = .ok (.getfield 123, 3) := by decide +kernel
theorem dC_bound_7 : decode bC_bound 7 = .ok (.iconst 0, 1) := by decide +kernel
theorem dC_bound_8 : decode bC_bound 8 = .ok (.iload_n 1, 1) := by decide +kernel
theorem dC_bound_9 : decode bC_bound 9 = .ok (.invokevirtual 126, 3) := by decide +kernel
theorem dC_bound_12 : decode bC_bound 12 = .ok (.lreturn, 1) := by decide +kernel
theorem dC_dual_0 : decode bC_dual 0 = .ok (.iload_n 1, 1) := by decide +kernel
theorem dC_dual_1 : decode bC_dual 1 = .ok (.aload_n 0, 1) := by decide +kernel
theorem dC_dual_2 : decode bC_dual 2 = .ok (.getfield 37, 3) := by decide +kernel
theorem dC_dual_5 : decode bC_dual 5 = .ok (.getfield 130, 3) := by decide +kernel
theorem dC_dual_8 : decode bC_dual 8 = .ok (.invokestatic 88, 3) := by decide +kernel
theorem dC_dual_11 : decode bC_dual 11 = .ok (.ifCond .eq 19, 3) := by decide +kernel
theorem dC_dual_14 : decode bC_dual 14 = .ok (.aload_n 0, 1) := by decide +kernel
theorem dC_dual_15 : decode bC_dual 15 = .ok (.getfield 19, 3) := by decide +kernel
theorem dC_dual_18 : decode bC_dual 18 = .ok (.aload_n 0, 1) := by decide +kernel
theorem dC_dual_19 : decode bC_dual 19 = .ok (.getfield 37, 3) := by decide +kernel
theorem dC_dual_22 : decode bC_dual 22 = .ok (.iload_n 1, 1) := by decide +kernel
theorem dC_dual_23 : decode bC_dual 23 = .ok (.iload_n 2, 1) := by decide +kernel
theorem dC_dual_24 : decode bC_dual 24 = .ok (.invokevirtual 131, 3) := by decide +kernel
theorem dC_dual_27 : decode bC_dual 27 = .ok (.goto 4, 3) := by decide +kernel
theorem dC_dual_30 : decode bC_dual 30 = .ok (.lconst 0, 1) := by decide +kernel
theorem dC_dual_31 : decode bC_dual 31 = .ok (.lreturn, 1) := by decide +kernel
theorem dC_isIn_0 : decode bC_isIn 0 = .ok (.iload_n 0, 1) := by decide +kernel
theorem dC_isIn_1 : decode bC_isIn 1 = .ok (.iload_n 1, 1) := by decide +kernel
theorem dC_isIn_2 : decode bC_isIn 2 = .ok (.ishr, 1) := by decide +kernel
theorem dC_isIn_3 : decode bC_isIn 3 = .ok (.iconst 1, 1) := by decide +kernel
theorem dC_isIn_4 : decode bC_isIn 4 = .ok (.iand, 1) := by decide +kernel
theorem dC_isIn_5 : decode bC_isIn 5 = .ok (.ifCond .eq 7, 3) := by decide +kernel
theorem dC_isIn_8 : decode bC_isIn 8 = .ok (.iconst 1, 1) := by decide +kernel
theorem dC_isIn_9 : decode bC_isIn 9 = .ok (.goto 4, 3) := by decide +kernel
theorem dC_isIn_12 : decode bC_isIn 12 = .ok (.iconst 0, 1) := by decide +kernel
theorem dC_isIn_13 : decode bC_isIn 13 = .ok (.ireturn, 1) := by decide +kernel
theorem dC_used_0 : decode bC_used 0 = .ok (.iload_n 1, 1) := by decide +kernel
theorem dC_used_1 : decode bC_used 1 = .ok (.aload_n 0, 1) := by decide +kernel
theorem dC_used_2 : decode bC_used 2 = .ok (.getfield 37, 3) := by decide +kernel
theorem dC_used_5 : decode bC_used 5 = .ok (.getfield 116, 3) := by decide +kernel
theorem dC_used_8 : decode bC_used 8 = .ok (.invokestatic 88, 3) := by decide +kernel
theorem dC_used_11 : decode bC_used 11 = .ok (.ifCond .eq 15, 3) := by decide +kernel
theorem dC_used_14 : decode bC_used 14 = .ok (.aload_n 0, 1) := by decide +kernel
theorem dC_used_15 : decode bC_used 15 = .ok (.getfield 19, 3) := by decide +kernel
theorem dC_used_18 : decode bC_used 18 = .ok (.iload_n 1, 1) := by decide +kernel
theorem dC_used_19 : decode bC_used 19 = .ok (.iload_n 2, 1) := by decide +kernel
theorem dC_used_20 : decode bC_used 20 = .ok (.invokevirtual 135, 3) := by decide +kernel
theorem dC_used_23 : decode bC_used 23 = .ok (.goto 4, 3) := by decide +kernel
theorem dC_used_26 : decode bC_used 26 = .ok (.lconst 0, 1) := by decide +kernel
theorem dC_used_27 : decode bC_used 27 = .ok (.lreturn, 1) := by decide +kernel
theorem dC_share_0 : decode bC_share 0 = .ok (.iload_n 1, 1) := by decide +kernel
theorem dC_share_1 : decode bC_share 1 = .ok (.aload_n 0, 1) := by decide +kernel
theorem dC_share_2 : decode bC_share 2 = .ok (.getfield 37, 3) := by decide +kernel
theorem dC_share_5 : decode bC_share 5 = .ok (.getfield 116, 3) := by decide +kernel
theorem dC_share_8 : decode bC_share 8 = .ok (.invokestatic 88, 3) := by decide +kernel
theorem dC_share_11 : decode bC_share 11 = .ok (.ifCond .ne 5, 3) := by decide +kernel
theorem dC_share_14 : decode bC_share 14 = .ok (.lconst 0, 1) := by decide +kernel
theorem dC_share_15 : decode bC_share 15 = .ok (.lreturn, 1) := by decide +kernel
theorem dC_share_16 : decode bC_share 16 = .ok (.aload_n 0, 1) := by decide +kernel
theorem dC_share_17 : decode bC_share 17 = .ok (.getfield 28, 3) := by decide +kernel
theorem dC_share_20 : decode bC_share 20 = .ok (.iconst 0, 1) := by decide +kernel
theorem dC_share_21 : decode bC_share 21 = .ok (.aload_n 0, 1) := by decide +kernel
theorem dC_share_22 : decode bC_share 22 = .ok (.getfield 37, 3) := by decide +kernel
theorem dC_share_25 : decode bC_share 25 = .ok (.getfield 138, 3) := by decide +kernel
theorem dC_share_28 : decode bC_share 28 = .ok (.aload_n 0, 1) := by decide +kernel
theorem dC_share_29 : decode bC_share 29 = .ok (.getfield 37, 3) := by decide +kernel
theorem dC_share_32 : decode bC_share 32 = .ok (.getfield 142, 3) := by decide +kernel
theorem dC_share_35 : decode bC_share 35 = .ok (.iload_n 1, 1) := by decide +kernel
theorem dC_share_36 : decode bC_share 36 = .ok (.iaload, 1) := by decide +kernel
theorem dC_share_37 : decode bC_share 37 = .ok (.laload, 1) := by decide +kernel
theorem dC_share_38 : decode bC_share 38 = .ok (.aload_n 0, 1) := by decide +kernel
theorem dC_share_39 : decode bC_share 39 = .ok (.getfield 37, 3) := by decide +kernel
theorem dC_share_42 : decode bC_share 42 = .ok (.getfield 146, 3) := by decide +kernel
theorem dC_share_45 : decode bC_share 45 = .ok (.invokevirtual 147, 3) := by decide +kernel
theorem dC_share_48 : decode bC_share 48 = .ok (.aload_n 0, 1) := by decide +kernel
theorem dC_share_49 : decode bC_share 49 = .ok (.getfield 28, 3) := by decide +kernel
theorem dC_share_52 : decode bC_share 52 = .ok (.iconst 0, 1) := by decide +kernel
theorem dC_share_53 : decode bC_share 53 = .ok (.iload_n 2, 1) := by decide +kernel
theorem dC_share_54 : decode bC_share 54 = .ok (.invokevirtual 126, 3) := by decide +kernel
theorem dC_share_57 : decode bC_share 57 = .ok (.lreturn, 1) := by decide +kernel
theorem dC_dropped_0 : decode bC_dropped 0 = .ok (.iload_n 1, 1) := by decide +kernel
theorem dC_dropped_1 : decode bC_dropped 1 = .ok (.aload_n 0, 1) := by decide +kernel
theorem dC_dropped_2 : decode bC_dropped 2 = .ok (.getfield 37, 3) := by decide +kernel
theorem dC_dropped_5 : decode bC_dropped 5 = .ok (.getfield 102, 3) := by decide +kernel
theorem dC_dropped_8 : decode bC_dropped 8 = .ok (.invokestatic 88, 3) := by decide +kernel
theorem dC_dropped_11 : decode bC_dropped 11 = .ok (.ifCond .eq 18, 3) := by decide +kernel
theorem dC_dropped_14 : decode bC_dropped 14 = .ok (.aload_n 0, 1) := by decide +kernel
theorem dC_dropped_15 : decode bC_dropped 15 = .ok (.getfield 37, 3) := by decide +kernel
theorem dC_dropped_18 : decode bC_dropped 18 = .ok (.iload_n 1, 1) := by decide +kernel
theorem dC_dropped_19 : decode bC_dropped 19 = .ok (.invokevirtual 151, 3) := by decide +kernel
theorem dC_dropped_22 : decode bC_dropped 22 = .ok (.ifCond .eq 7, 3) := by decide +kernel
theorem dC_dropped_25 : decode bC_dropped 25 = .ok (.iconst 1, 1) := by decide +kernel
theorem dC_dropped_26 : decode bC_dropped 26 = .ok (.goto 4, 3) := by decide +kernel
theorem dC_dropped_29 : decode bC_dropped 29 = .ok (.iconst 0, 1) := by decide +kernel
theorem dC_dropped_30 : decode bC_dropped 30 = .ok (.ireturn, 1) := by decide +kernel
theorem dC_nthBin_0 : decode bC_nthBin 0 = .ok (.iconst 0, 1) := by decide +kernel
theorem dC_nthBin_1 : decode bC_nthBin 1 = .ok (.istore_n 2, 1) := by decide +kernel
theorem dC_nthBin_2 : decode bC_nthBin 2 = .ok (.iconst 0, 1) := by decide +kernel
theorem dC_nthBin_3 : decode bC_nthBin 3 = .ok (.istore_n 3, 1) := by decide +kernel
theorem dC_nthBin_4 : decode bC_nthBin 4 = .ok (.iload_n 3, 1) := by decide +kernel
theorem dC_nthBin_5 : decode bC_nthBin 5 = .ok (.bipush 6, 2) := by decide +kernel
theorem dC_nthBin_7 : decode bC_nthBin 7 = .ok (.if_icmp .ge 27, 3) := by decide +kernel
theorem dC_nthBin_10 : decode bC_nthBin 10 = .ok (.iload_n 0, 1) := by decide +kernel
theorem dC_nthBin_11 : decode bC_nthBin 11 = .ok (.iload_n 3, 1) := by decide +kernel
theorem dC_nthBin_12 : decode bC_nthBin 12 = .ok (.invokestatic 185, 3) := by decide +kernel
theorem dC_nthBin_15 : decode bC_nthBin 15 = .ok (.ifCond .eq 13, 3) := by decide +kernel
theorem dC_nthBin_18 : decode bC_nthBin 18 = .ok (.iload_n 2, 1) := by decide +kernel
theorem dC_nthBin_19 : decode bC_nthBin 19 = .ok (.iload_n 1, 1) := by decide +kernel
theorem dC_nthBin_20 : decode bC_nthBin 20 = .ok (.if_icmp .ne 5, 3) := by decide +kernel
theorem dC_nthBin_23 : decode bC_nthBin 23 = .ok (.iload_n 3, 1) := by decide +kernel
theorem dC_nthBin_24 : decode bC_nthBin 24 = .ok (.ireturn, 1) := by decide +kernel
theorem dC_nthBin_25 : decode bC_nthBin 25 = .ok (.iinc 2 1, 3) := by decide +kernel
theorem dC_nthBin_28 : decode bC_nthBin 28 = .ok (.iinc 3 1, 3) := by decide +kernel
theorem dC_nthBin_31 : decode bC_nthBin 31 = .ok (.goto (-27), 3) := by decide +kernel
theorem dC_nthBin_34 : decode bC_nthBin 34 = .ok (.iconst (-1), 1) := by decide +kernel
theorem dC_nthBin_35 : decode bC_nthBin 35 = .ok (.ireturn, 1) := by decide +kernel
theorem dC_cuts_0 : decode bC_cuts 0 = .ok (.aload_n 0, 1) := by decide +kernel
theorem dC_cuts_1 : decode bC_cuts 1 = .ok (.getfield 37, 3) := by decide +kernel
theorem dC_cuts_4 : decode bC_cuts 4 = .ok (.invokevirtual 155, 3) := by decide +kernel
theorem dC_cuts_7 : decode bC_cuts 7 = .ok (.ireturn, 1) := by decide +kernel
theorem dC_cut_0 : decode bC_cut 0 = .ok (.aload_n 0, 1) := by decide +kernel
theorem dC_cut_1 : decode bC_cut 1 = .ok (.getfield 37, 3) := by decide +kernel
theorem dC_cut_4 : decode bC_cut 4 = .ok (.iload_n 1, 1) := by decide +kernel
theorem dC_cut_5 : decode bC_cut 5 = .ok (.invokevirtual 159, 3) := by decide +kernel
theorem dC_cut_8 : decode bC_cut 8 = .ok (.iload_n 2, 1) := by decide +kernel
theorem dC_cut_9 : decode bC_cut 9 = .ok (.invokestatic 163, 3) := by decide +kernel
theorem dC_cut_12 : decode bC_cut 12 = .ok (.ireturn, 1) := by decide +kernel
theorem dC_check_0 : decode bC_check 0 = .ok (.iconst 0, 1) := by decide +kernel
theorem dC_check_1 : decode bC_check 1 = .ok (.istore_n 1, 1) := by decide +kernel
theorem dC_check_2 : decode bC_check 2 = .ok (.iload_n 1, 1) := by decide +kernel
theorem dC_check_3 : decode bC_check 3 = .ok (.aload_n 0, 1) := by decide +kernel
theorem dC_check_4 : decode bC_check 4 = .ok (.getfield 37, 3) := by decide +kernel
theorem dC_check_7 : decode bC_check 7 = .ok (.getfield 116, 3) := by decide +kernel
theorem dC_check_10 : decode bC_check 10 = .ok (.if_icmp .ge 60, 3) := by decide +kernel
theorem dC_check_13 : decode bC_check 13 = .ok (.aload_n 0, 1) := by decide +kernel
theorem dC_check_14 : decode bC_check 14 = .ok (.getfield 37, 3) := by decide +kernel
theorem dC_check_17 : decode bC_check 17 = .ok (.getfield 142, 3) := by decide +kernel
theorem dC_check_20 : decode bC_check 20 = .ok (.iload_n 1, 1) := by decide +kernel
theorem dC_check_21 : decode bC_check 21 = .ok (.iaload, 1) := by decide +kernel
theorem dC_check_22 : decode bC_check 22 = .ok (.istore_n 2, 1) := by decide +kernel
theorem dC_check_23 : decode bC_check 23 = .ok (.iload_n 2, 1) := by decide +kernel
theorem dC_check_24 : decode bC_check 24 = .ok (.invokestatic 166, 3) := by decide +kernel
theorem dC_check_27 : decode bC_check 27 = .ok (.istore_n 3, 1) := by decide +kernel
theorem dC_check_28 : decode bC_check 28 = .ok (.aload_n 0, 1) := by decide +kernel
theorem dC_check_29 : decode bC_check 29 = .ok (.getfield 12, 3) := by decide +kernel
theorem dC_check_32 : decode bC_check 32 = .ok (.aload_n 0, 1) := by decide +kernel
theorem dC_check_33 : decode bC_check 33 = .ok (.getfield 37, 3) := by decide +kernel
theorem dC_check_36 : decode bC_check 36 = .ok (.getfield 171, 3) := by decide +kernel
theorem dC_check_39 : decode bC_check 39 = .ok (.iload_n 2, 1) := by decide +kernel
theorem dC_check_40 : decode bC_check 40 = .ok (.bipush 6, 2) := by decide +kernel
theorem dC_check_42 : decode bC_check 42 = .ok (.imul, 1) := by decide +kernel
theorem dC_check_43 : decode bC_check 43 = .ok (.iload_n 3, 1) := by decide +kernel
theorem dC_check_44 : decode bC_check 44 = .ok (.invokevirtual 174, 3) := by decide +kernel
theorem dC_check_47 : decode bC_check 47 = .ok (.aload_n 0, 1) := by decide +kernel
theorem dC_check_48 : decode bC_check 48 = .ok (.getfield 37, 3) := by decide +kernel
theorem dC_check_51 : decode bC_check 51 = .ok (.getfield 178, 3) := by decide +kernel
theorem dC_check_54 : decode bC_check 54 = .ok (.iload_n 2, 1) := by decide +kernel
theorem dC_check_55 : decode bC_check 55 = .ok (.laload, 1) := by decide +kernel
theorem dC_check_56 : decode bC_check 56 = .ok (.lcmp, 1) := by decide +kernel
theorem dC_check_57 : decode bC_check 57 = .ok (.ifCond .eq 7, 3) := by decide +kernel
theorem dC_check_60 : decode bC_check 60 = .ok (.iconst 1, 1) := by decide +kernel
theorem dC_check_61 : decode bC_check 61 = .ok (.iload_n 1, 1) := by decide +kernel
theorem dC_check_62 : decode bC_check 62 = .ok (.iadd, 1) := by decide +kernel
theorem dC_check_63 : decode bC_check 63 = .ok (.ireturn, 1) := by decide +kernel
theorem dC_check_64 : decode bC_check 64 = .ok (.iinc 1 1, 3) := by decide +kernel
theorem dC_check_67 : decode bC_check 67 = .ok (.goto (-65), 3) := by decide +kernel
theorem dC_check_70 : decode bC_check 70 = .ok (.iconst 0, 1) := by decide +kernel
theorem dC_check_71 : decode bC_check 71 = .ok (.ireturn, 1) := by decide +kernel
theorem dC_labelsClosed_0 : decode bC_labelsClosed 0 = .ok (.aload_n 0, 1) := by decide +kernel
theorem dC_labelsClosed_1 : decode bC_labelsClosed 1 = .ok (.getfield 44, 3) := by decide +kernel
theorem dC_labelsClosed_4 : decode bC_labelsClosed 4 = .ok (.ifCond .eq 17, 3) := by decide +kernel
theorem dC_labelsClosed_7 : decode bC_labelsClosed 7 = .ok (.aload_n 0, 1) := by decide +kernel
theorem dC_labelsClosed_8 : decode bC_labelsClosed 8 = .ok (.getfield 37, 3) := by decide +kernel
theorem dC_labelsClosed_11 : decode bC_labelsClosed 11 = .ok (.invokevirtual 181, 3) := by decide +kernel
theorem dC_labelsClosed_14 : decode bC_labelsClosed 14 = .ok (.ifCond .eq 7, 3) := by decide +kernel
theorem dC_labelsClosed_17 : decode bC_labelsClosed 17 = .ok (.iconst 1, 1) := by decide +kernel
theorem dC_labelsClosed_18 : decode bC_labelsClosed 18 = .ok (.goto 4, 3) := by decide +kernel
theorem dC_labelsClosed_21 : decode bC_labelsClosed 21 = .ok (.iconst 0, 1) := by decide +kernel
theorem dC_labelsClosed_22 : decode bC_labelsClosed 22 = .ok (.ireturn, 1) := by decide +kernel
theorem dC_run_0 : decode bC_run 0 = .ok (.aload_n 0, 1) := by decide +kernel
theorem dC_run_1 : decode bC_run 1 = .ok (.getfield 41, 3) := by decide +kernel
theorem dC_run_4 : decode bC_run 4 = .ok (.invokevirtual 99, 3) := by decide +kernel
theorem dC_run_7 : decode bC_run 7 = .ok (.aload_n 0, 1) := by decide +kernel
theorem dC_run_8 : decode bC_run 8 = .ok (.getfield 41, 3) := by decide +kernel
theorem dC_run_11 : decode bC_run 11 = .ok (.getfield 102, 3) := by decide +kernel
theorem dC_run_14 : decode bC_run 14 = .ok (.iload_n 1, 1) := by decide +kernel
theorem dC_run_15 : decode bC_run 15 = .ok (.if_icmp .le 13, 3) := by decide +kernel
theorem dC_run_18 : decode bC_run 18 = .ok (.new 105, 3) := by decide +kernel
theorem dC_run_21 : decode bC_run 21 = .ok (.dup, 1) := by decide +kernel
theorem dC_run_22 : decode bC_run 22 = .ok (.ldc 107, 2) := by decide +kernel
theorem dC_run_24 : decode bC_run 24 = .ok (.invokespecial 109, 3) := by decide +kernel
theorem dC_run_27 : decode bC_run 27 = .ok (.athrow, 1) := by decide +kernel
theorem dC_run_28 : decode bC_run 28 = .ok (.aload_n 0, 1) := by decide +kernel
theorem dC_run_29 : decode bC_run 29 = .ok (.getfield 37, 3) := by decide +kernel
theorem dC_run_32 : decode bC_run 32 = .ok (.astore_n 2, 1) := by decide +kernel
theorem dC_run_33 : decode bC_run 33 = .ok (.aload_n 0, 1) := by decide +kernel
theorem dC_run_34 : decode bC_run 34 = .ok (.aload_n 0, 1) := by decide +kernel
theorem dC_run_35 : decode bC_run 35 = .ok (.getfield 41, 3) := by decide +kernel
theorem dC_run_38 : decode bC_run 38 = .ok (.putfield 37, 3) := by decide +kernel
theorem dC_run_41 : decode bC_run 41 = .ok (.aload_n 0, 1) := by decide +kernel
theorem dC_run_42 : decode bC_run 42 = .ok (.aload_n 2, 1) := by decide +kernel
theorem dC_run_43 : decode bC_run 43 = .ok (.putfield 41, 3) := by decide +kernel
theorem dC_run_46 : decode bC_run 46 = .ok (.aload_n 0, 1) := by decide +kernel
theorem dC_run_47 : decode bC_run 47 = .ok (.iconst 1, 1) := by decide +kernel
theorem dC_run_48 : decode bC_run 48 = .ok (.putfield 44, 3) := by decide +kernel
theorem dC_run_51 : decode bC_run 51 = .ok (.aload_n 0, 1) := by decide +kernel
theorem dC_run_52 : decode bC_run 52 = .ok (.getfield 19, 3) := by decide +kernel
theorem dC_run_55 : decode bC_run 55 = .ok (.aload_n 0, 1) := by decide +kernel
theorem dC_run_56 : decode bC_run 56 = .ok (.getfield 37, 3) := by decide +kernel
theorem dC_run_59 : decode bC_run 59 = .ok (.invokevirtual 112, 3) := by decide +kernel
theorem dC_run_62 : decode bC_run 62 = .ok (.ifCond .eq 7, 3) := by decide +kernel
theorem dC_run_65 : decode bC_run 65 = .ok (.iconst 0, 1) := by decide +kernel
theorem dC_run_66 : decode bC_run 66 = .ok (.goto 4, 3) := by decide +kernel
theorem dC_run_69 : decode bC_run 69 = .ok (.iconst 1, 1) := by decide +kernel
theorem dC_run_70 : decode bC_run 70 = .ok (.ireturn, 1) := by decide +kernel
theorem dF_init_0 : decode bF_init 0 = .ok (.aload_n 0, 1) := by decide +kernel
theorem dF_init_1 : decode bF_init 1 = .ok (.invokespecial 1, 3) := by decide +kernel
theorem dF_init_4 : decode bF_init 4 = .ok (.aload_n 0, 1) := by decide +kernel
theorem dF_init_5 : decode bF_init 5 = .ok (.iload_n 1, 1) := by decide +kernel
theorem dF_init_6 : decode bF_init 6 = .ok (.newarray .boolean, 2) := by decide +kernel
theorem dF_init_8 : decode bF_init 8 = .ok (.putfield 7, 3) := by decide +kernel
theorem dF_init_11 : decode bF_init 11 = .ok (.aload_n 0, 1) := by decide +kernel
theorem dF_init_12 : decode bF_init 12 = .ok (.iload_n 1, 1) := by decide +kernel
theorem dF_init_13 : decode bF_init 13 = .ok (.newarray .long, 2) := by decide +kernel
theorem dF_init_15 : decode bF_init 15 = .ok (.putfield 13, 3) := by decide +kernel
theorem dF_init_18 : decode bF_init 18 = .ok (.aload_n 0, 1) := by decide +kernel
theorem dF_init_19 : decode bF_init 19 = .ok (.iload_n 1, 1) := by decide +kernel
theorem dF_init_20 : decode bF_init 20 = .ok (.newarray .long, 2) := by decide +kernel
theorem dF_init_22 : decode bF_init 22 = .ok (.putfield 17, 3) := by decide +kernel
theorem dF_init_25 : decode bF_init 25 = .ok (.return_, 1) := by decide +kernel
theorem dF_tell_0 : decode bF_tell 0 = .ok (.iload_n 2, 1) := by decide +kernel
theorem dF_tell_1 : decode bF_tell 1 = .ok (.ifCond .ne 10, 3) := by decide +kernel
theorem dF_tell_4 : decode bF_tell 4 = .ok (.aload_n 0, 1) := by decide +kernel
theorem dF_tell_5 : decode bF_tell 5 = .ok (.getfield 13, 3) := by decide +kernel
theorem dF_tell_8 : decode bF_tell 8 = .ok (.iload_n 1, 1) := by decide +kernel
theorem dF_tell_9 : decode bF_tell 9 = .ok (.laload, 1) := by decide +kernel
theorem dF_tell_10 : decode bF_tell 10 = .ok (.lreturn, 1) := by decide +kernel
theorem dF_tell_11 : decode bF_tell 11 = .ok (.iload_n 2, 1) := by decide +kernel
theorem dF_tell_12 : decode bF_tell 12 = .ok (.iconst 1, 1) := by decide +kernel
theorem dF_tell_13 : decode bF_tell 13 = .ok (.if_icmp .ne 12, 3) := by decide +kernel
theorem dF_tell_16 : decode bF_tell 16 = .ok (.aload_n 0, 1) := by decide +kernel
theorem dF_tell_17 : decode bF_tell 17 = .ok (.getfield 17, 3) := by decide +kernel
theorem dF_tell_20 : decode bF_tell 20 = .ok (.iload_n 1, 1) := by decide +kernel
theorem dF_tell_21 : decode bF_tell 21 = .ok (.laload, 1) := by decide +kernel
theorem dF_tell_22 : decode bF_tell 22 = .ok (.goto 4, 3) := by decide +kernel
theorem dF_tell_25 : decode bF_tell 25 = .ok (.lconst 0, 1) := by decide +kernel
theorem dF_tell_26 : decode bF_tell 26 = .ok (.lreturn, 1) := by decide +kernel
theorem dF_isKnown_0 : decode bF_isKnown 0 = .ok (.aload_n 0, 1) := by decide +kernel
theorem dF_isKnown_1 : decode bF_isKnown 1 = .ok (.getfield 7, 3) := by decide +kernel
theorem dF_isKnown_4 : decode bF_isKnown 4 = .ok (.iload_n 1, 1) := by decide +kernel
theorem dF_isKnown_5 : decode bF_isKnown 5 = .ok (.baload, 1) := by decide +kernel
theorem dF_isKnown_6 : decode bF_isKnown 6 = .ok (.ireturn, 1) := by decide +kernel
theorem dF_putDifference_0 : decode bF_putDifference 0 = .ok (.aload_n 2, 1) := by decide +kernel
theorem dF_putDifference_1 : decode bF_putDifference 1 = .ok (.getfield 13, 3) := by decide +kernel
theorem dF_putDifference_4 : decode bF_putDifference 4 = .ok (.iconst 0, 1) := by decide +kernel
theorem dF_putDifference_5 : decode bF_putDifference 5 = .ok (.laload, 1) := by decide +kernel
theorem dF_putDifference_6 : decode bF_putDifference 6 = .ok (.lload 5, 2) := by decide +kernel
theorem dF_putDifference_8 : decode bF_putDifference 8 = .ok (.lmul, 1) := by decide +kernel
theorem dF_putDifference_9 : decode bF_putDifference 9 = .ok (.lload_n 3, 1) := by decide +kernel
theorem dF_putDifference_10 : decode bF_putDifference 10 = .ok (.aload_n 2, 1) := by decide +kernel
theorem dF_putDifference_11 : decode bF_putDifference 11 = .ok (.getfield 17, 3) := by decide +kernel
theorem dF_putDifference_14 : decode bF_putDifference 14 = .ok (.iconst 0, 1) := by decide +kernel
theorem dF_putDifference_15 : decode bF_putDifference 15 = .ok (.laload, 1) := by decide +kernel
theorem dF_putDifference_16 : decode bF_putDifference 16 = .ok (.lmul, 1) := by decide +kernel
theorem dF_putDifference_17 : decode bF_putDifference 17 = .ok (.lsub, 1) := by decide +kernel
theorem dF_putDifference_18 : decode bF_putDifference 18 = .ok (.lstore 7, 2) := by decide +kernel
theorem dF_putDifference_20 : decode bF_putDifference 20 = .ok (.aload_n 0, 1) := by decide +kernel
theorem dF_putDifference_21 : decode bF_putDifference 21 = .ok (.iload_n 1, 1) := by decide +kernel
theorem dF_putDifference_22 : decode bF_putDifference 22 = .ok (.lload 7, 2) := by decide +kernel
theorem dF_putDifference_24 : decode bF_putDifference 24 = .ok (.aload_n 2, 1) := by decide +kernel
theorem dF_putDifference_25 : decode bF_putDifference 25 = .ok (.getfield 17, 3) := by decide +kernel
theorem dF_putDifference_28 : decode bF_putDifference 28 = .ok (.iconst 0, 1) := by decide +kernel
theorem dF_putDifference_29 : decode bF_putDifference 29 = .ok (.laload, 1) := by decide +kernel
theorem dF_putDifference_30 : decode bF_putDifference 30 = .ok (.lload 5, 2) := by decide +kernel
theorem dF_putDifference_32 : decode bF_putDifference 32 = .ok (.lmul, 1) := by decide +kernel
theorem dF_putDifference_33 : decode bF_putDifference 33 = .ok (.invokevirtual 34, 3) := by decide +kernel
theorem dF_putDifference_36 : decode bF_putDifference 36 = .ok (.return_, 1) := by decide +kernel
theorem dF_put_0 : decode bF_put 0 = .ok (.lload 4, 2) := by decide +kernel
theorem dF_put_2 : decode bF_put 2 = .ok (.lconst 0, 1) := by decide +kernel
theorem dF_put_3 : decode bF_put 3 = .ok (.lcmp, 1) := by decide +kernel
theorem dF_put_4 : decode bF_put 4 = .ok (.ifCond .le 15, 3) := by decide +kernel
theorem dF_put_7 : decode bF_put 7 = .ok (.lload_n 2, 1) := by decide +kernel
theorem dF_put_8 : decode bF_put 8 = .ok (.invokestatic 20, 3) := by decide +kernel
theorem dF_put_11 : decode bF_put 11 = .ok (.lload 4, 2) := by decide +kernel
theorem dF_put_13 : decode bF_put 13 = .ok (.invokestatic 26, 3) := by decide +kernel
theorem dF_put_16 : decode bF_put 16 = .ok (.goto 4, 3) := by decide +kernel
theorem dF_put_19 : decode bF_put 19 = .ok (.lconst 0, 1) := by decide +kernel
theorem dF_put_20 : decode bF_put 20 = .ok (.lstore 6, 2) := by decide +kernel
theorem dF_put_22 : decode bF_put 22 = .ok (.lload 6, 2) := by decide +kernel
theorem dF_put_24 : decode bF_put 24 = .ok (.lconst 0, 1) := by decide +kernel
theorem dF_put_25 : decode bF_put 25 = .ok (.lcmp, 1) := by decide +kernel
theorem dF_put_26 : decode bF_put 26 = .ok (.ifCond .gt 9, 3) := by decide +kernel
theorem dF_put_29 : decode bF_put 29 = .ok (.aload_n 0, 1) := by decide +kernel
theorem dF_put_30 : decode bF_put 30 = .ok (.iload_n 1, 1) := by decide +kernel
theorem dF_put_31 : decode bF_put 31 = .ok (.invokevirtual 30, 3) := by decide +kernel
theorem dF_put_34 : decode bF_put 34 = .ok (.return_, 1) := by decide +kernel
theorem dF_put_35 : decode bF_put 35 = .ok (.aload_n 0, 1) := by decide +kernel
theorem dF_put_36 : decode bF_put 36 = .ok (.getfield 7, 3) := by decide +kernel
theorem dF_put_39 : decode bF_put 39 = .ok (.iload_n 1, 1) := by decide +kernel
theorem dF_put_40 : decode bF_put 40 = .ok (.iconst 1, 1) := by decide +kernel
theorem dF_put_41 : decode bF_put 41 = .ok (.bastore, 1) := by decide +kernel
theorem dF_put_42 : decode bF_put 42 = .ok (.aload_n 0, 1) := by decide +kernel
theorem dF_put_43 : decode bF_put 43 = .ok (.getfield 13, 3) := by decide +kernel
theorem dF_put_46 : decode bF_put 46 = .ok (.iload_n 1, 1) := by decide +kernel
theorem dF_put_47 : decode bF_put 47 = .ok (.lload_n 2, 1) := by decide +kernel
theorem dF_put_48 : decode bF_put 48 = .ok (.lload 6, 2) := by decide +kernel
theorem dF_put_50 : decode bF_put 50 = .ok (.ldiv, 1) := by decide +kernel
theorem dF_put_51 : decode bF_put 51 = .ok (.lastore, 1) := by decide +kernel
theorem dF_put_52 : decode bF_put 52 = .ok (.aload_n 0, 1) := by decide +kernel
theorem dF_put_53 : decode bF_put 53 = .ok (.getfield 17, 3) := by decide +kernel
theorem dF_put_56 : decode bF_put 56 = .ok (.iload_n 1, 1) := by decide +kernel
theorem dF_put_57 : decode bF_put 57 = .ok (.lload 4, 2) := by decide +kernel
theorem dF_put_59 : decode bF_put 59 = .ok (.lload 6, 2) := by decide +kernel
theorem dF_put_61 : decode bF_put 61 = .ok (.ldiv, 1) := by decide +kernel
theorem dF_put_62 : decode bF_put 62 = .ok (.lastore, 1) := by decide +kernel
theorem dF_put_63 : decode bF_put 63 = .ok (.return_, 1) := by decide +kernel
theorem dF_greatestDivisor_0 : decode bF_greatestDivisor 0 = .ok (.lload_n 0, 1) := by decide +kernel
theorem dF_greatestDivisor_1 : decode bF_greatestDivisor 1 = .ok (.lstore 4, 2) := by decide +kernel
theorem dF_greatestDivisor_3 : decode bF_greatestDivisor 3 = .ok (.lload_n 2, 1) := by decide +kernel
theorem dF_greatestDivisor_4 : decode bF_greatestDivisor 4 = .ok (.lstore 6, 2) := by decide +kernel
theorem dF_greatestDivisor_6 : decode bF_greatestDivisor 6 = .ok (.iconst 0, 1) := by decide +kernel
theorem dF_greatestDivisor_7 : decode bF_greatestDivisor 7 = .ok (.istore 8, 2) := by decide +kernel
theorem dF_greatestDivisor_9 : decode bF_greatestDivisor 9 = .ok (.iload 8, 2) := by decide +kernel
theorem dF_greatestDivisor_11 : decode bF_greatestDivisor 11 = .ok (.sipush 128, 3) := by decide +kernel
theorem dF_greatestDivisor_14 : decode bF_greatestDivisor 14 = .ok (.if_icmp .ge 31, 3) := by decide +kernel
theorem dF_greatestDivisor_17 : decode bF_greatestDivisor 17 = .ok (.lload 6, 2) := by decide +kernel
theorem dF_greatestDivisor_19 : decode bF_greatestDivisor 19 = .ok (.lconst 0, 1) := by decide +kernel
theorem dF_greatestDivisor_20 : decode bF_greatestDivisor 20 = .ok (.lcmp, 1) := by decide +kernel
theorem dF_greatestDivisor_21 : decode bF_greatestDivisor 21 = .ok (.ifCond .eq 24, 3) := by decide +kernel
theorem dF_greatestDivisor_24 : decode bF_greatestDivisor 24 = .ok (.lload 4, 2) := by decide +kernel
theorem dF_greatestDivisor_26 : decode bF_greatestDivisor 26 = .ok (.lload 6, 2) := by decide +kernel
theorem dF_greatestDivisor_28 : decode bF_greatestDivisor 28 = .ok (.lrem, 1) := by decide +kernel
theorem dF_greatestDivisor_29 : decode bF_greatestDivisor 29 = .ok (.lstore 9, 2) := by decide +kernel
theorem dF_greatestDivisor_31 : decode bF_greatestDivisor 31 = .ok (.lload 6, 2) := by decide +kernel
theorem dF_greatestDivisor_33 : decode bF_greatestDivisor 33 = .ok (.lstore 4, 2) := by decide +kernel
theorem dF_greatestDivisor_35 : decode bF_greatestDivisor 35 = .ok (.lload 9, 2) := by decide +kernel
theorem dF_greatestDivisor_37 : decode bF_greatestDivisor 37 = .ok (.lstore 6, 2) := by decide +kernel
theorem dF_greatestDivisor_39 : decode bF_greatestDivisor 39 = .ok (.iinc 8 1, 3) := by decide +kernel
theorem dF_greatestDivisor_42 : decode bF_greatestDivisor 42 = .ok (.goto (-33), 3) := by decide +kernel
theorem dF_greatestDivisor_45 : decode bF_greatestDivisor 45 = .ok (.lload 4, 2) := by decide +kernel
theorem dF_greatestDivisor_47 : decode bF_greatestDivisor 47 = .ok (.lreturn, 1) := by decide +kernel
theorem dF_putNone_0 : decode bF_putNone 0 = .ok (.aload_n 0, 1) := by decide +kernel
theorem dF_putNone_1 : decode bF_putNone 1 = .ok (.getfield 7, 3) := by decide +kernel
theorem dF_putNone_4 : decode bF_putNone 4 = .ok (.iload_n 1, 1) := by decide +kernel
theorem dF_putNone_5 : decode bF_putNone 5 = .ok (.iconst 1, 1) := by decide +kernel
theorem dF_putNone_6 : decode bF_putNone 6 = .ok (.bastore, 1) := by decide +kernel
theorem dF_putNone_7 : decode bF_putNone 7 = .ok (.aload_n 0, 1) := by decide +kernel
theorem dF_putNone_8 : decode bF_putNone 8 = .ok (.getfield 13, 3) := by decide +kernel
theorem dF_putNone_11 : decode bF_putNone 11 = .ok (.iload_n 1, 1) := by decide +kernel
theorem dF_putNone_12 : decode bF_putNone 12 = .ok (.lconst 0, 1) := by decide +kernel
theorem dF_putNone_13 : decode bF_putNone 13 = .ok (.lastore, 1) := by decide +kernel
theorem dF_putNone_14 : decode bF_putNone 14 = .ok (.aload_n 0, 1) := by decide +kernel
theorem dF_putNone_15 : decode bF_putNone 15 = .ok (.getfield 17, 3) := by decide +kernel
theorem dF_putNone_18 : decode bF_putNone 18 = .ok (.iload_n 1, 1) := by decide +kernel
theorem dF_putNone_19 : decode bF_putNone 19 = .ok (.lconst 0, 1) := by decide +kernel
theorem dF_putNone_20 : decode bF_putNone 20 = .ok (.lastore, 1) := by decide +kernel
theorem dF_putNone_21 : decode bF_putNone 21 = .ok (.return_, 1) := by decide +kernel
theorem dF_forget_0 : decode bF_forget 0 = .ok (.iconst 0, 1) := by decide +kernel
theorem dF_forget_1 : decode bF_forget 1 = .ok (.istore_n 1, 1) := by decide +kernel
theorem dF_forget_2 : decode bF_forget 2 = .ok (.iload_n 1, 1) := by decide +kernel
theorem dF_forget_3 : decode bF_forget 3 = .ok (.aload_n 0, 1) := by decide +kernel
theorem dF_forget_4 : decode bF_forget 4 = .ok (.getfield 7, 3) := by decide +kernel
theorem dF_forget_7 : decode bF_forget 7 = .ok (.arraylength, 1) := by decide +kernel
theorem dF_forget_8 : decode bF_forget 8 = .ok (.if_icmp .ge 30, 3) := by decide +kernel
theorem dF_forget_11 : decode bF_forget 11 = .ok (.aload_n 0, 1) := by decide +kernel
theorem dF_forget_12 : decode bF_forget 12 = .ok (.getfield 7, 3) := by decide +kernel
theorem dF_forget_15 : decode bF_forget 15 = .ok (.iload_n 1, 1) := by decide +kernel
theorem dF_forget_16 : decode bF_forget 16 = .ok (.iconst 0, 1) := by decide +kernel
theorem dF_forget_17 : decode bF_forget 17 = .ok (.bastore, 1) := by decide +kernel
theorem dF_forget_18 : decode bF_forget 18 = .ok (.aload_n 0, 1) := by decide +kernel
theorem dF_forget_19 : decode bF_forget 19 = .ok (.getfield 13, 3) := by decide +kernel
theorem dF_forget_22 : decode bF_forget 22 = .ok (.iload_n 1, 1) := by decide +kernel
theorem dF_forget_23 : decode bF_forget 23 = .ok (.lconst 0, 1) := by decide +kernel
theorem dF_forget_24 : decode bF_forget 24 = .ok (.lastore, 1) := by decide +kernel
theorem dF_forget_25 : decode bF_forget 25 = .ok (.aload_n 0, 1) := by decide +kernel
theorem dF_forget_26 : decode bF_forget 26 = .ok (.getfield 17, 3) := by decide +kernel
theorem dF_forget_29 : decode bF_forget 29 = .ok (.iload_n 1, 1) := by decide +kernel
theorem dF_forget_30 : decode bF_forget 30 = .ok (.lconst 0, 1) := by decide +kernel
theorem dF_forget_31 : decode bF_forget 31 = .ok (.lastore, 1) := by decide +kernel
theorem dF_forget_32 : decode bF_forget 32 = .ok (.iinc 1 1, 3) := by decide +kernel
theorem dF_forget_35 : decode bF_forget 35 = .ok (.goto (-33), 3) := by decide +kernel
theorem dF_forget_38 : decode bF_forget 38 = .ok (.return_, 1) := by decide +kernel
theorem dW_init_0 : decode bW_init 0 = .ok (.aload_n 0, 1) := by decide +kernel
theorem dW_init_1 : decode bW_init 1 = .ok (.invokespecial 3, 3) := by decide +kernel
theorem dW_init_4 : decode bW_init 4 = .ok (.aload_n 0, 1) := by decide +kernel
theorem dW_init_5 : decode bW_init 5 = .ok (.bipush 6, 2) := by decide +kernel
theorem dW_init_7 : decode bW_init 7 = .ok (.newarray .long, 2) := by decide +kernel
theorem dW_init_9 : decode bW_init 9 = .ok (.putfield 9, 3) := by decide +kernel
theorem dW_init_12 : decode bW_init 12 = .ok (.aload_n 0, 1) := by decide +kernel
theorem dW_init_13 : decode bW_init 13 = .ok (.bipush 6, 2) := by decide +kernel
theorem dW_init_15 : decode bW_init 15 = .ok (.newarray .int, 2) := by decide +kernel
theorem dW_init_17 : decode bW_init 17 = .ok (.putfield 15, 3) := by decide +kernel
theorem dW_init_20 : decode bW_init 20 = .ok (.aload_n 0, 1) := by decide +kernel
theorem dW_init_21 : decode bW_init 21 = .ok (.bipush 7, 2) := by decide +kernel
theorem dW_init_23 : decode bW_init 23 = .ok (.bipush 7, 2) := by decide +kernel
theorem dW_init_25 : decode bW_init 25 = .ok (.multianewarray 19 2, 4) := by decide +kernel
theorem dW_init_29 : decode bW_init 29 = .ok (.putfield 21, 3) := by decide +kernel
theorem dW_init_32 : decode bW_init 32 = .ok (.aload_n 0, 1) := by decide +kernel
theorem dW_init_33 : decode bW_init 33 = .ok (.bipush 7, 2) := by decide +kernel
theorem dW_init_35 : decode bW_init 35 = .ok (.bipush 7, 2) := by decide +kernel
theorem dW_init_37 : decode bW_init 37 = .ok (.multianewarray 24 2, 4) := by decide +kernel
theorem dW_init_41 : decode bW_init 41 = .ok (.putfield 26, 3) := by decide +kernel
theorem dW_init_44 : decode bW_init 44 = .ok (.aload_n 0, 1) := by decide +kernel
theorem dW_init_45 : decode bW_init 45 = .ok (.bipush 6, 2) := by decide +kernel
theorem dW_init_47 : decode bW_init 47 = .ok (.newarray .int, 2) := by decide +kernel
theorem dW_init_49 : decode bW_init 49 = .ok (.putfield 29, 3) := by decide +kernel
theorem dW_init_52 : decode bW_init 52 = .ok (.aload_n 0, 1) := by decide +kernel
theorem dW_init_53 : decode bW_init 53 = .ok (.bipush 6, 2) := by decide +kernel
theorem dW_init_55 : decode bW_init 55 = .ok (.newarray .int, 2) := by decide +kernel
theorem dW_init_57 : decode bW_init 57 = .ok (.putfield 32, 3) := by decide +kernel
theorem dW_init_60 : decode bW_init 60 = .ok (.iconst 0, 1) := by decide +kernel
theorem dW_init_61 : decode bW_init 61 = .ok (.istore_n 1, 1) := by decide +kernel
theorem dW_init_62 : decode bW_init 62 = .ok (.iload_n 1, 1) := by decide +kernel
theorem dW_init_63 : decode bW_init 63 = .ok (.bipush 7, 2) := by decide +kernel
theorem dW_init_65 : decode bW_init 65 = .ok (.if_icmp .ge 19, 3) := by decide +kernel
theorem dW_init_68 : decode bW_init 68 = .ok (.aload_n 0, 1) := by decide +kernel
theorem dW_init_69 : decode bW_init 69 = .ok (.getfield 21, 3) := by decide +kernel
theorem dW_init_72 : decode bW_init 72 = .ok (.iload_n 1, 1) := by decide +kernel
theorem dW_init_73 : decode bW_init 73 = .ok (.aaload, 1) := by decide +kernel
theorem dW_init_74 : decode bW_init 74 = .ok (.iconst (-1), 1) := by decide +kernel
theorem dW_init_75 : decode bW_init 75 = .ok (.invokestatic 35, 3) := by decide +kernel
theorem dW_init_78 : decode bW_init 78 = .ok (.iinc 1 1, 3) := by decide +kernel
theorem dW_init_81 : decode bW_init 81 = .ok (.goto (-19), 3) := by decide +kernel
theorem dW_init_84 : decode bW_init 84 = .ok (.return_, 1) := by decide +kernel
theorem dW_addBin_0 : decode bW_addBin 0 = .ok (.aload_n 0, 1) := by decide +kernel
theorem dW_addBin_1 : decode bW_addBin 1 = .ok (.getfield 41, 3) := by decide +kernel
theorem dW_addBin_4 : decode bW_addBin 4 = .ok (.istore 4, 2) := by decide +kernel
theorem dW_addBin_6 : decode bW_addBin 6 = .ok (.aload_n 0, 1) := by decide +kernel
theorem dW_addBin_7 : decode bW_addBin 7 = .ok (.getfield 9, 3) := by decide +kernel
theorem dW_addBin_10 : decode bW_addBin 10 = .ok (.iload 4, 2) := by decide +kernel
theorem dW_addBin_12 : decode bW_addBin 12 = .ok (.lload_n 1, 1) := by decide +kernel
theorem dW_addBin_13 : decode bW_addBin 13 = .ok (.lastore, 1) := by decide +kernel
theorem dW_addBin_14 : decode bW_addBin 14 = .ok (.aload_n 0, 1) := by decide +kernel
theorem dW_addBin_15 : decode bW_addBin 15 = .ok (.getfield 15, 3) := by decide +kernel
theorem dW_addBin_18 : decode bW_addBin 18 = .ok (.iload 4, 2) := by decide +kernel
theorem dW_addBin_20 : decode bW_addBin 20 = .ok (.iload_n 3, 1) := by decide +kernel
theorem dW_addBin_21 : decode bW_addBin 21 = .ok (.iastore, 1) := by decide +kernel
theorem dW_addBin_22 : decode bW_addBin 22 = .ok (.aload_n 0, 1) := by decide +kernel
theorem dW_addBin_23 : decode bW_addBin 23 = .ok (.iload 4, 2) := by decide +kernel
theorem dW_addBin_25 : decode bW_addBin 25 = .ok (.iconst 1, 1) := by decide +kernel
theorem dW_addBin_26 : decode bW_addBin 26 = .ok (.iadd, 1) := by decide +kernel
theorem dW_addBin_27 : decode bW_addBin 27 = .ok (.putfield 41, 3) := by decide +kernel
theorem dW_addBin_30 : decode bW_addBin 30 = .ok (.iload 4, 2) := by decide +kernel
theorem dW_addBin_32 : decode bW_addBin 32 = .ok (.ireturn, 1) := by decide +kernel
theorem dW_tellPair_0 : decode bW_tellPair 0 = .ok (.iconst 1, 1) := by decide +kernel
theorem dW_tellPair_1 : decode bW_tellPair 1 = .ok (.iload_n 1, 1) := by decide +kernel
theorem dW_tellPair_2 : decode bW_tellPair 2 = .ok (.ishl, 1) := by decide +kernel
theorem dW_tellPair_3 : decode bW_tellPair 3 = .ok (.istore 4, 2) := by decide +kernel
theorem dW_tellPair_5 : decode bW_tellPair 5 = .ok (.iconst 1, 1) := by decide +kernel
theorem dW_tellPair_6 : decode bW_tellPair 6 = .ok (.iload_n 2, 1) := by decide +kernel
theorem dW_tellPair_7 : decode bW_tellPair 7 = .ok (.ishl, 1) := by decide +kernel
theorem dW_tellPair_8 : decode bW_tellPair 8 = .ok (.istore 5, 2) := by decide +kernel
theorem dW_tellPair_10 : decode bW_tellPair 10 = .ok (.aload_n 0, 1) := by decide +kernel
theorem dW_tellPair_11 : decode bW_tellPair 11 = .ok (.getfield 29, 3) := by decide +kernel
theorem dW_tellPair_14 : decode bW_tellPair 14 = .ok (.iload_n 1, 1) := by decide +kernel
theorem dW_tellPair_15 : decode bW_tellPair 15 = .ok (.dup2, 1) := by decide +kernel
theorem dW_tellPair_16 : decode bW_tellPair 16 = .ok (.iaload, 1) := by decide +kernel
theorem dW_tellPair_17 : decode bW_tellPair 17 = .ok (.iload 5, 2) := by decide +kernel
theorem dW_tellPair_19 : decode bW_tellPair 19 = .ok (.iconst (-1), 1) := by decide +kernel
theorem dW_tellPair_20 : decode bW_tellPair 20 = .ok (.ixor, 1) := by decide +kernel
theorem dW_tellPair_21 : decode bW_tellPair 21 = .ok (.iand, 1) := by decide +kernel
theorem dW_tellPair_22 : decode bW_tellPair 22 = .ok (.iastore, 1) := by decide +kernel
theorem dW_tellPair_23 : decode bW_tellPair 23 = .ok (.aload_n 0, 1) := by decide +kernel
theorem dW_tellPair_24 : decode bW_tellPair 24 = .ok (.getfield 29, 3) := by decide +kernel
theorem dW_tellPair_27 : decode bW_tellPair 27 = .ok (.iload_n 2, 1) := by decide +kernel
theorem dW_tellPair_28 : decode bW_tellPair 28 = .ok (.dup2, 1) := by decide +kernel
theorem dW_tellPair_29 : decode bW_tellPair 29 = .ok (.iaload, 1) := by decide +kernel
theorem dW_tellPair_30 : decode bW_tellPair 30 = .ok (.iload 4, 2) := by decide +kernel
theorem dW_tellPair_32 : decode bW_tellPair 32 = .ok (.iconst (-1), 1) := by decide +kernel
theorem dW_tellPair_33 : decode bW_tellPair 33 = .ok (.ixor, 1) := by decide +kernel
theorem dW_tellPair_34 : decode bW_tellPair 34 = .ok (.iand, 1) := by decide +kernel
theorem dW_tellPair_35 : decode bW_tellPair 35 = .ok (.iastore, 1) := by decide +kernel
theorem dW_tellPair_36 : decode bW_tellPair 36 = .ok (.aload_n 0, 1) := by decide +kernel
theorem dW_tellPair_37 : decode bW_tellPair 37 = .ok (.getfield 32, 3) := by decide +kernel
theorem dW_tellPair_40 : decode bW_tellPair 40 = .ok (.iload_n 1, 1) := by decide +kernel
theorem dW_tellPair_41 : decode bW_tellPair 41 = .ok (.dup2, 1) := by decide +kernel
theorem dW_tellPair_42 : decode bW_tellPair 42 = .ok (.iaload, 1) := by decide +kernel
theorem dW_tellPair_43 : decode bW_tellPair 43 = .ok (.iload 5, 2) := by decide +kernel
theorem dW_tellPair_45 : decode bW_tellPair 45 = .ok (.iconst (-1), 1) := by decide +kernel
theorem dW_tellPair_46 : decode bW_tellPair 46 = .ok (.ixor, 1) := by decide +kernel
theorem dW_tellPair_47 : decode bW_tellPair 47 = .ok (.iand, 1) := by decide +kernel
theorem dW_tellPair_48 : decode bW_tellPair 48 = .ok (.iastore, 1) := by decide +kernel
theorem dW_tellPair_49 : decode bW_tellPair 49 = .ok (.aload_n 0, 1) := by decide +kernel
theorem dW_tellPair_50 : decode bW_tellPair 50 = .ok (.getfield 32, 3) := by decide +kernel
theorem dW_tellPair_53 : decode bW_tellPair 53 = .ok (.iload_n 2, 1) := by decide +kernel
theorem dW_tellPair_54 : decode bW_tellPair 54 = .ok (.dup2, 1) := by decide +kernel
theorem dW_tellPair_55 : decode bW_tellPair 55 = .ok (.iaload, 1) := by decide +kernel
theorem dW_tellPair_56 : decode bW_tellPair 56 = .ok (.iload 4, 2) := by decide +kernel
theorem dW_tellPair_58 : decode bW_tellPair 58 = .ok (.iconst (-1), 1) := by decide +kernel
theorem dW_tellPair_59 : decode bW_tellPair 59 = .ok (.ixor, 1) := by decide +kernel
theorem dW_tellPair_60 : decode bW_tellPair 60 = .ok (.iand, 1) := by decide +kernel
theorem dW_tellPair_61 : decode bW_tellPair 61 = .ok (.iastore, 1) := by decide +kernel
theorem dW_tellPair_62 : decode bW_tellPair 62 = .ok (.iload_n 3, 1) := by decide +kernel
theorem dW_tellPair_63 : decode bW_tellPair 63 = .ok (.ifCond .eq 10, 3) := by decide +kernel
theorem dW_tellPair_66 : decode bW_tellPair 66 = .ok (.aload_n 0, 1) := by decide +kernel
theorem dW_tellPair_67 : decode bW_tellPair 67 = .ok (.getfield 29, 3) := by decide +kernel
theorem dW_tellPair_70 : decode bW_tellPair 70 = .ok (.goto 7, 3) := by decide +kernel
theorem dW_tellPair_73 : decode bW_tellPair 73 = .ok (.aload_n 0, 1) := by decide +kernel
theorem dW_tellPair_74 : decode bW_tellPair 74 = .ok (.getfield 32, 3) := by decide +kernel
theorem dW_tellPair_77 : decode bW_tellPair 77 = .ok (.astore 6, 2) := by decide +kernel
theorem dW_tellPair_79 : decode bW_tellPair 79 = .ok (.aload 6, 2) := by decide +kernel
theorem dW_tellPair_81 : decode bW_tellPair 81 = .ok (.iload_n 1, 1) := by decide +kernel
theorem dW_tellPair_82 : decode bW_tellPair 82 = .ok (.dup2, 1) := by decide +kernel
theorem dW_tellPair_83 : decode bW_tellPair 83 = .ok (.iaload, 1) := by decide +kernel
theorem dW_tellPair_84 : decode bW_tellPair 84 = .ok (.iload 5, 2) := by decide +kernel
theorem dW_tellPair_86 : decode bW_tellPair 86 = .ok (.ior, 1) := by decide +kernel
theorem dW_tellPair_87 : decode bW_tellPair 87 = .ok (.iastore, 1) := by decide +kernel
theorem dW_tellPair_88 : decode bW_tellPair 88 = .ok (.aload 6, 2) := by decide +kernel
theorem dW_tellPair_90 : decode bW_tellPair 90 = .ok (.iload_n 2, 1) := by decide +kernel
theorem dW_tellPair_91 : decode bW_tellPair 91 = .ok (.dup2, 1) := by decide +kernel
theorem dW_tellPair_92 : decode bW_tellPair 92 = .ok (.iaload, 1) := by decide +kernel
theorem dW_tellPair_93 : decode bW_tellPair 93 = .ok (.iload 4, 2) := by decide +kernel
theorem dW_tellPair_95 : decode bW_tellPair 95 = .ok (.ior, 1) := by decide +kernel
theorem dW_tellPair_96 : decode bW_tellPair 96 = .ok (.iastore, 1) := by decide +kernel
theorem dW_tellPair_97 : decode bW_tellPair 97 = .ok (.return_, 1) := by decide +kernel
theorem dW_forgetPairs_0 : decode bW_forgetPairs 0 = .ok (.aload_n 0, 1) := by decide +kernel
theorem dW_forgetPairs_1 : decode bW_forgetPairs 1 = .ok (.getfield 29, 3) := by decide +kernel
theorem dW_forgetPairs_4 : decode bW_forgetPairs 4 = .ok (.iconst 0, 1) := by decide +kernel
theorem dW_forgetPairs_5 : decode bW_forgetPairs 5 = .ok (.invokestatic 35, 3) := by decide +kernel
theorem dW_forgetPairs_8 : decode bW_forgetPairs 8 = .ok (.aload_n 0, 1) := by decide +kernel
theorem dW_forgetPairs_9 : decode bW_forgetPairs 9 = .ok (.getfield 32, 3) := by decide +kernel
theorem dW_forgetPairs_12 : decode bW_forgetPairs 12 = .ok (.iconst 0, 1) := by decide +kernel
theorem dW_forgetPairs_13 : decode bW_forgetPairs 13 = .ok (.invokestatic 35, 3) := by decide +kernel
theorem dW_forgetPairs_16 : decode bW_forgetPairs 16 = .ok (.return_, 1) := by decide +kernel
theorem dW_costOfRound_0 : decode bW_costOfRound 0 = .ok (.iconst 0, 1) := by decide +kernel
theorem dW_costOfRound_1 : decode bW_costOfRound 1 = .ok (.istore 4, 2) := by decide +kernel
theorem dW_costOfRound_3 : decode bW_costOfRound 3 = .ok (.iconst 0, 1) := by decide +kernel
theorem dW_costOfRound_4 : decode bW_costOfRound 4 = .ok (.istore 5, 2) := by decide +kernel
theorem dW_costOfRound_6 : decode bW_costOfRound 6 = .ok (.lconst 0, 1) := by decide +kernel
theorem dW_costOfRound_7 : decode bW_costOfRound 7 = .ok (.lstore 6, 2) := by decide +kernel
theorem dW_costOfRound_9 : decode bW_costOfRound 9 = .ok (.lconst 0, 1) := by decide +kernel
theorem dW_costOfRound_10 : decode bW_costOfRound 10 = .ok (.lstore 8, 2) := by decide +kernel
theorem dW_costOfRound_12 : decode bW_costOfRound 12 = .ok (.iconst 0, 1) := by decide +kernel
theorem dW_costOfRound_13 : decode bW_costOfRound 13 = .ok (.istore 10, 2) := by decide +kernel
theorem dW_costOfRound_15 : decode bW_costOfRound 15 = .ok (.iload 10, 2) := by decide +kernel
theorem dW_costOfRound_17 : decode bW_costOfRound 17 = .ok (.iload_n 3, 1) := by decide +kernel
theorem dW_costOfRound_18 : decode bW_costOfRound 18 = .ok (.if_icmp .gt 111, 3) := by decide +kernel
theorem dW_costOfRound_21 : decode bW_costOfRound 21 = .ok (.iload 10, 2) := by decide +kernel
theorem dW_costOfRound_23 : decode bW_costOfRound 23 = .ok (.iload_n 3, 1) := by decide +kernel
theorem dW_costOfRound_24 : decode bW_costOfRound 24 = .ok (.if_icmp .ge 14, 3) := by decide +kernel
theorem dW_costOfRound_27 : decode bW_costOfRound 27 = .ok (.iconst 1, 1) := by decide +kernel
theorem dW_costOfRound_28 : decode bW_costOfRound 28 = .ok (.aload_n 1, 1) := by decide +kernel
theorem dW_costOfRound_29 : decode bW_costOfRound 29 = .ok (.iload_n 2, 1) := by decide +kernel
theorem dW_costOfRound_30 : decode bW_costOfRound 30 = .ok (.iload 10, 2) := by decide +kernel
theorem dW_costOfRound_32 : decode bW_costOfRound 32 = .ok (.iadd, 1) := by decide +kernel
theorem dW_costOfRound_33 : decode bW_costOfRound 33 = .ok (.iaload, 1) := by decide +kernel
theorem dW_costOfRound_34 : decode bW_costOfRound 34 = .ok (.iadd, 1) := by decide +kernel
theorem dW_costOfRound_35 : decode bW_costOfRound 35 = .ok (.goto 4, 3) := by decide +kernel
theorem dW_costOfRound_38 : decode bW_costOfRound 38 = .ok (.iconst 0, 1) := by decide +kernel
theorem dW_costOfRound_39 : decode bW_costOfRound 39 = .ok (.istore 11, 2) := by decide +kernel
theorem dW_costOfRound_41 : decode bW_costOfRound 41 = .ok (.aload_n 0, 1) := by decide +kernel
theorem dW_costOfRound_42 : decode bW_costOfRound 42 = .ok (.iload 4, 2) := by decide +kernel
theorem dW_costOfRound_44 : decode bW_costOfRound 44 = .ok (.iload 11, 2) := by decide +kernel
theorem dW_costOfRound_46 : decode bW_costOfRound 46 = .ok (.invokevirtual 49, 3) := by decide +kernel
theorem dW_costOfRound_49 : decode bW_costOfRound 49 = .ok (.ifCond .ne 7, 3) := by decide +kernel
theorem dW_costOfRound_52 : decode bW_costOfRound 52 = .ok (.ldc2_w 52, 3) := by decide +kernel
theorem dW_costOfRound_55 : decode bW_costOfRound 55 = .ok (.lreturn, 1) := by decide +kernel
theorem dW_costOfRound_56 : decode bW_costOfRound 56 = .ok (.iload 5, 2) := by decide +kernel
theorem dW_costOfRound_58 : decode bW_costOfRound 58 = .ok (.aload_n 0, 1) := by decide +kernel
theorem dW_costOfRound_59 : decode bW_costOfRound 59 = .ok (.getfield 21, 3) := by decide +kernel
theorem dW_costOfRound_62 : decode bW_costOfRound 62 = .ok (.iload 4, 2) := by decide +kernel
theorem dW_costOfRound_64 : decode bW_costOfRound 64 = .ok (.aaload, 1) := by decide +kernel
theorem dW_costOfRound_65 : decode bW_costOfRound 65 = .ok (.iload 11, 2) := by decide +kernel
theorem dW_costOfRound_67 : decode bW_costOfRound 67 = .ok (.iaload, 1) := by decide +kernel
theorem dW_costOfRound_68 : decode bW_costOfRound 68 = .ok (.iadd, 1) := by decide +kernel
theorem dW_costOfRound_69 : decode bW_costOfRound 69 = .ok (.istore 5, 2) := by decide +kernel
theorem dW_costOfRound_71 : decode bW_costOfRound 71 = .ok (.lload 8, 2) := by decide +kernel
theorem dW_costOfRound_73 : decode bW_costOfRound 73 = .ok (.aload_n 0, 1) := by decide +kernel
theorem dW_costOfRound_74 : decode bW_costOfRound 74 = .ok (.getfield 26, 3) := by decide +kernel
theorem dW_costOfRound_77 : decode bW_costOfRound 77 = .ok (.iload 4, 2) := by decide +kernel
theorem dW_costOfRound_79 : decode bW_costOfRound 79 = .ok (.aaload, 1) := by decide +kernel
theorem dW_costOfRound_80 : decode bW_costOfRound 80 = .ok (.iload 11, 2) := by decide +kernel
theorem dW_costOfRound_82 : decode bW_costOfRound 82 = .ok (.laload, 1) := by decide +kernel
theorem dW_costOfRound_83 : decode bW_costOfRound 83 = .ok (.ladd, 1) := by decide +kernel
theorem dW_costOfRound_84 : decode bW_costOfRound 84 = .ok (.lstore 8, 2) := by decide +kernel
theorem dW_costOfRound_86 : decode bW_costOfRound 86 = .ok (.iload 11, 2) := by decide +kernel
theorem dW_costOfRound_88 : decode bW_costOfRound 88 = .ok (.ifCond .eq 31, 3) := by decide +kernel
theorem dW_costOfRound_91 : decode bW_costOfRound 91 = .ok (.iload 5, 2) := by decide +kernel
theorem dW_costOfRound_93 : decode bW_costOfRound 93 = .ok (.aload_n 0, 1) := by decide +kernel
theorem dW_costOfRound_94 : decode bW_costOfRound 94 = .ok (.getfield 15, 3) := by decide +kernel
theorem dW_costOfRound_97 : decode bW_costOfRound 97 = .ok (.iload 11, 2) := by decide +kernel
theorem dW_costOfRound_99 : decode bW_costOfRound 99 = .ok (.iconst 1, 1) := by decide +kernel
theorem dW_costOfRound_100 : decode bW_costOfRound 100 = .ok (.isub, 1) := by decide +kernel
theorem dW_costOfRound_101 : decode bW_costOfRound 101 = .ok (.iaload, 1) := by decide +kernel
theorem dW_costOfRound_102 : decode bW_costOfRound 102 = .ok (.iadd, 1) := by decide +kernel
theorem dW_costOfRound_103 : decode bW_costOfRound 103 = .ok (.istore 5, 2) := by decide +kernel
theorem dW_costOfRound_105 : decode bW_costOfRound 105 = .ok (.lload 6, 2) := by decide +kernel
theorem dW_costOfRound_107 : decode bW_costOfRound 107 = .ok (.aload_n 0, 1) := by decide +kernel
theorem dW_costOfRound_108 : decode bW_costOfRound 108 = .ok (.getfield 9, 3) := by decide +kernel
theorem dW_costOfRound_111 : decode bW_costOfRound 111 = .ok (.iload 11, 2) := by decide +kernel
theorem dW_costOfRound_113 : decode bW_costOfRound 113 = .ok (.iconst 1, 1) := by decide +kernel
theorem dW_costOfRound_114 : decode bW_costOfRound 114 = .ok (.isub, 1) := by decide +kernel
theorem dW_costOfRound_115 : decode bW_costOfRound 115 = .ok (.laload, 1) := by decide +kernel
theorem dW_costOfRound_116 : decode bW_costOfRound 116 = .ok (.ladd, 1) := by decide +kernel
theorem dW_costOfRound_117 : decode bW_costOfRound 117 = .ok (.lstore 6, 2) := by decide +kernel
theorem dW_costOfRound_119 : decode bW_costOfRound 119 = .ok (.iload 11, 2) := by decide +kernel
theorem dW_costOfRound_121 : decode bW_costOfRound 121 = .ok (.istore 4, 2) := by decide +kernel
theorem dW_costOfRound_123 : decode bW_costOfRound 123 = .ok (.iinc 10 1, 3) := by decide +kernel
theorem dW_costOfRound_126 : decode bW_costOfRound 126 = .ok (.goto (-111), 3) := by decide +kernel
theorem dW_costOfRound_129 : decode bW_costOfRound 129 = .ok (.lload 6, 2) := by decide +kernel
theorem dW_costOfRound_131 : decode bW_costOfRound 131 = .ok (.aload_n 0, 1) := by decide +kernel
theorem dW_costOfRound_132 : decode bW_costOfRound 132 = .ok (.getfield 54, 3) := by decide +kernel
theorem dW_costOfRound_135 : decode bW_costOfRound 135 = .ok (.lcmp, 1) := by decide +kernel
theorem dW_costOfRound_136 : decode bW_costOfRound 136 = .ok (.ifCond .gt 12, 3) := by decide +kernel
theorem dW_costOfRound_139 : decode bW_costOfRound 139 = .ok (.iload 5, 2) := by decide +kernel
theorem dW_costOfRound_141 : decode bW_costOfRound 141 = .ok (.aload_n 0, 1) := by decide +kernel
theorem dW_costOfRound_142 : decode bW_costOfRound 142 = .ok (.getfield 58, 3) := by decide +kernel
theorem dW_costOfRound_145 : decode bW_costOfRound 145 = .ok (.if_icmp .le 9, 3) := by decide +kernel
theorem dW_costOfRound_148 : decode bW_costOfRound 148 = .ok (.ldc2_w 52, 3) := by decide +kernel
theorem dW_costOfRound_151 : decode bW_costOfRound 151 = .ok (.goto 5, 3) := by decide +kernel
theorem dW_costOfRound_154 : decode bW_costOfRound 154 = .ok (.lload 8, 2) := by decide +kernel
theorem dW_costOfRound_156 : decode bW_costOfRound 156 = .ok (.lreturn, 1) := by decide +kernel
theorem dW_hasWay_0 : decode bW_hasWay 0 = .ok (.aload_n 0, 1) := by decide +kernel
theorem dW_hasWay_1 : decode bW_hasWay 1 = .ok (.getfield 21, 3) := by decide +kernel
theorem dW_hasWay_4 : decode bW_hasWay 4 = .ok (.iload_n 1, 1) := by decide +kernel
theorem dW_hasWay_5 : decode bW_hasWay 5 = .ok (.aaload, 1) := by decide +kernel
theorem dW_hasWay_6 : decode bW_hasWay 6 = .ok (.iload_n 2, 1) := by decide +kernel
theorem dW_hasWay_7 : decode bW_hasWay 7 = .ok (.iaload, 1) := by decide +kernel
theorem dW_hasWay_8 : decode bW_hasWay 8 = .ok (.iconst (-1), 1) := by decide +kernel
theorem dW_hasWay_9 : decode bW_hasWay 9 = .ok (.if_icmp .eq 7, 3) := by decide +kernel
theorem dW_hasWay_12 : decode bW_hasWay 12 = .ok (.iconst 1, 1) := by decide +kernel
theorem dW_hasWay_13 : decode bW_hasWay 13 = .ok (.goto 4, 3) := by decide +kernel
theorem dW_hasWay_16 : decode bW_hasWay 16 = .ok (.iconst 0, 1) := by decide +kernel
theorem dW_hasWay_17 : decode bW_hasWay 17 = .ok (.ireturn, 1) := by decide +kernel
theorem dW_isBarred_0 : decode bW_isBarred 0 = .ok (.iconst 0, 1) := by decide +kernel
theorem dW_isBarred_1 : decode bW_isBarred 1 = .ok (.istore_n 2, 1) := by decide +kernel
theorem dW_isBarred_2 : decode bW_isBarred 2 = .ok (.iload_n 2, 1) := by decide +kernel
theorem dW_isBarred_3 : decode bW_isBarred 3 = .ok (.aload_n 0, 1) := by decide +kernel
theorem dW_isBarred_4 : decode bW_isBarred 4 = .ok (.getfield 41, 3) := by decide +kernel
theorem dW_isBarred_7 : decode bW_isBarred 7 = .ok (.if_icmp .ge 43, 3) := by decide +kernel
theorem dW_isBarred_10 : decode bW_isBarred 10 = .ok (.iload_n 1, 1) := by decide +kernel
theorem dW_isBarred_11 : decode bW_isBarred 11 = .ok (.iload_n 2, 1) := by decide +kernel
theorem dW_isBarred_12 : decode bW_isBarred 12 = .ok (.invokestatic 45, 3) := by decide +kernel
theorem dW_isBarred_15 : decode bW_isBarred 15 = .ok (.ifCond .eq 29, 3) := by decide +kernel
theorem dW_isBarred_18 : decode bW_isBarred 18 = .ok (.aload_n 0, 1) := by decide +kernel
theorem dW_isBarred_19 : decode bW_isBarred 19 = .ok (.getfield 29, 3) := by decide +kernel
theorem dW_isBarred_22 : decode bW_isBarred 22 = .ok (.iload_n 2, 1) := by decide +kernel
theorem dW_isBarred_23 : decode bW_isBarred 23 = .ok (.iaload, 1) := by decide +kernel
theorem dW_isBarred_24 : decode bW_isBarred 24 = .ok (.iload_n 1, 1) := by decide +kernel
theorem dW_isBarred_25 : decode bW_isBarred 25 = .ok (.iconst (-1), 1) := by decide +kernel
theorem dW_isBarred_26 : decode bW_isBarred 26 = .ok (.ixor, 1) := by decide +kernel
theorem dW_isBarred_27 : decode bW_isBarred 27 = .ok (.iand, 1) := by decide +kernel
theorem dW_isBarred_28 : decode bW_isBarred 28 = .ok (.ifCond .ne 14, 3) := by decide +kernel
theorem dW_isBarred_31 : decode bW_isBarred 31 = .ok (.aload_n 0, 1) := by decide +kernel
theorem dW_isBarred_32 : decode bW_isBarred 32 = .ok (.getfield 32, 3) := by decide +kernel
theorem dW_isBarred_35 : decode bW_isBarred 35 = .ok (.iload_n 2, 1) := by decide +kernel
theorem dW_isBarred_36 : decode bW_isBarred 36 = .ok (.iaload, 1) := by decide +kernel
theorem dW_isBarred_37 : decode bW_isBarred 37 = .ok (.iload_n 1, 1) := by decide +kernel
theorem dW_isBarred_38 : decode bW_isBarred 38 = .ok (.iand, 1) := by decide +kernel
theorem dW_isBarred_39 : decode bW_isBarred 39 = .ok (.ifCond .eq 5, 3) := by decide +kernel
theorem dW_isBarred_42 : decode bW_isBarred 42 = .ok (.iconst 1, 1) := by decide +kernel
theorem dW_isBarred_43 : decode bW_isBarred 43 = .ok (.ireturn, 1) := by decide +kernel
theorem dW_isBarred_44 : decode bW_isBarred 44 = .ok (.iinc 2 1, 3) := by decide +kernel
theorem dW_isBarred_47 : decode bW_isBarred 47 = .ok (.goto (-45), 3) := by decide +kernel
theorem dW_isBarred_50 : decode bW_isBarred 50 = .ok (.iconst 0, 1) := by decide +kernel
theorem dW_isBarred_51 : decode bW_isBarred 51 = .ok (.ireturn, 1) := by decide +kernel
theorem dX_init_0 : decode bX_init 0 = .ok (.aload_n 0, 1) := by decide +kernel
theorem dX_init_1 : decode bX_init 1 = .ok (.invokespecial 3, 3) := by decide +kernel
theorem dX_init_4 : decode bX_init 4 = .ok (.aload_n 0, 1) := by decide +kernel
theorem dX_init_5 : decode bX_init 5 = .ok (.new 9, 3) := by decide +kernel
theorem dX_init_8 : decode bX_init 8 = .ok (.dup, 1) := by decide +kernel
theorem dX_init_9 : decode bX_init 9 = .ok (.iconst 1, 1) := by decide +kernel
theorem dX_init_10 : decode bX_init 10 = .ok (.invokespecial 11, 3) := by decide +kernel
theorem dX_init_13 : decode bX_init 13 = .ok (.putfield 14, 3) := by decide +kernel
theorem dX_init_16 : decode bX_init 16 = .ok (.aload_n 0, 1) := by decide +kernel
theorem dX_init_17 : decode bX_init 17 = .ok (.new 9, 3) := by decide +kernel
theorem dX_init_20 : decode bX_init 20 = .ok (.dup, 1) := by decide +kernel
theorem dX_init_21 : decode bX_init 21 = .ok (.bipush 6, 2) := by decide +kernel
theorem dX_init_23 : decode bX_init 23 = .ok (.invokespecial 11, 3) := by decide +kernel
theorem dX_init_26 : decode bX_init 26 = .ok (.putfield 20, 3) := by decide +kernel
theorem dX_init_29 : decode bX_init 29 = .ok (.aload_n 0, 1) := by decide +kernel
theorem dX_init_30 : decode bX_init 30 = .ok (.new 9, 3) := by decide +kernel
theorem dX_init_33 : decode bX_init 33 = .ok (.dup, 1) := by decide +kernel
theorem dX_init_34 : decode bX_init 34 = .ok (.bipush 63, 2) := by decide +kernel
theorem dX_init_36 : decode bX_init 36 = .ok (.invokespecial 11, 3) := by decide +kernel
theorem dX_init_39 : decode bX_init 39 = .ok (.putfield 23, 3) := by decide +kernel
theorem dX_init_42 : decode bX_init 42 = .ok (.aload_n 0, 1) := by decide +kernel
theorem dX_init_43 : decode bX_init 43 = .ok (.new 26, 3) := by decide +kernel
theorem dX_init_46 : decode bX_init 46 = .ok (.dup, 1) := by decide +kernel
theorem dX_init_47 : decode bX_init 47 = .ok (.invokespecial 28, 3) := by decide +kernel
theorem dX_init_50 : decode bX_init 50 = .ok (.putfield 29, 3) := by decide +kernel
theorem dX_init_53 : decode bX_init 53 = .ok (.aload_n 0, 1) := by decide +kernel
theorem dX_init_54 : decode bX_init 54 = .ok (.new 26, 3) := by decide +kernel
theorem dX_init_57 : decode bX_init 57 = .ok (.dup, 1) := by decide +kernel
theorem dX_init_58 : decode bX_init 58 = .ok (.invokespecial 28, 3) := by decide +kernel
theorem dX_init_61 : decode bX_init 61 = .ok (.putfield 33, 3) := by decide +kernel
theorem dX_init_64 : decode bX_init 64 = .ok (.return_, 1) := by decide +kernel
theorem dX_tellDual_0 : decode bX_tellDual 0 = .ok (.aload_n 0, 1) := by decide +kernel
theorem dX_tellDual_1 : decode bX_tellDual 1 = .ok (.getfield 56, 3) := by decide +kernel
theorem dX_tellDual_4 : decode bX_tellDual 4 = .ok (.ifCond .eq 20, 3) := by decide +kernel
theorem dX_tellDual_7 : decode bX_tellDual 7 = .ok (.aload_n 0, 1) := by decide +kernel
theorem dX_tellDual_8 : decode bX_tellDual 8 = .ok (.getfield 20, 3) := by decide +kernel
theorem dX_tellDual_11 : decode bX_tellDual 11 = .ok (.iload_n 2, 1) := by decide +kernel
theorem dX_tellDual_12 : decode bX_tellDual 12 = .ok (.invokevirtual 71, 3) := by decide +kernel
theorem dX_tellDual_15 : decode bX_tellDual 15 = .ok (.ifCond .ne 9, 3) := by decide +kernel
theorem dX_tellDual_18 : decode bX_tellDual 18 = .ok (.aload_n 0, 1) := by decide +kernel
theorem dX_tellDual_19 : decode bX_tellDual 19 = .ok (.aload_n 1, 1) := by decide +kernel
theorem dX_tellDual_20 : decode bX_tellDual 20 = .ok (.iload_n 2, 1) := by decide +kernel
theorem dX_tellDual_21 : decode bX_tellDual 21 = .ok (.invokevirtual 75, 3) := by decide +kernel
theorem dX_tellDual_24 : decode bX_tellDual 24 = .ok (.aload_n 0, 1) := by decide +kernel
theorem dX_tellDual_25 : decode bX_tellDual 25 = .ok (.getfield 20, 3) := by decide +kernel
theorem dX_tellDual_28 : decode bX_tellDual 28 = .ok (.iload_n 2, 1) := by decide +kernel
theorem dX_tellDual_29 : decode bX_tellDual 29 = .ok (.iload_n 3, 1) := by decide +kernel
theorem dX_tellDual_30 : decode bX_tellDual 30 = .ok (.invokevirtual 78, 3) := by decide +kernel
theorem dX_tellDual_33 : decode bX_tellDual 33 = .ok (.lreturn, 1) := by decide +kernel
theorem dX_findDual_0 : decode bX_findDual 0 = .ok (.iconst 1, 1) := by decide +kernel
theorem dX_findDual_1 : decode bX_findDual 1 = .ok (.aload_n 1, 1) := by decide +kernel
theorem dX_findDual_2 : decode bX_findDual 2 = .ok (.getfield 39, 3) := by decide +kernel
theorem dX_findDual_5 : decode bX_findDual 5 = .ok (.ishl, 1) := by decide +kernel
theorem dX_findDual_6 : decode bX_findDual 6 = .ok (.iconst 1, 1) := by decide +kernel
theorem dX_findDual_7 : decode bX_findDual 7 = .ok (.isub, 1) := by decide +kernel
theorem dX_findDual_8 : decode bX_findDual 8 = .ok (.iconst 1, 1) := by decide +kernel
theorem dX_findDual_9 : decode bX_findDual 9 = .ok (.iload_n 2, 1) := by decide +kernel
theorem dX_findDual_10 : decode bX_findDual 10 = .ok (.ishl, 1) := by decide +kernel
theorem dX_findDual_11 : decode bX_findDual 11 = .ok (.iconst (-1), 1) := by decide +kernel
theorem dX_findDual_12 : decode bX_findDual 12 = .ok (.ixor, 1) := by decide +kernel
theorem dX_findDual_13 : decode bX_findDual 13 = .ok (.iand, 1) := by decide +kernel
theorem dX_findDual_14 : decode bX_findDual 14 = .ok (.istore_n 3, 1) := by decide +kernel
theorem dX_findDual_15 : decode bX_findDual 15 = .ok (.aload_n 0, 1) := by decide +kernel
theorem dX_findDual_16 : decode bX_findDual 16 = .ok (.getfield 33, 3) := by decide +kernel
theorem dX_findDual_19 : decode bX_findDual 19 = .ok (.aload_n 1, 1) := by decide +kernel
theorem dX_findDual_20 : decode bX_findDual 20 = .ok (.iload_n 3, 1) := by decide +kernel
theorem dX_findDual_21 : decode bX_findDual 21 = .ok (.invokevirtual 45, 3) := by decide +kernel
theorem dX_findDual_24 : decode bX_findDual 24 = .ok (.aload_n 0, 1) := by decide +kernel
theorem dX_findDual_25 : decode bX_findDual 25 = .ok (.getfield 33, 3) := by decide +kernel
theorem dX_findDual_28 : decode bX_findDual 28 = .ok (.invokevirtual 49, 3) := by decide +kernel
theorem dX_findDual_31 : decode bX_findDual 31 = .ok (.aload_n 0, 1) := by decide +kernel
theorem dX_findDual_32 : decode bX_findDual 32 = .ok (.getfield 33, 3) := by decide +kernel
theorem dX_findDual_35 : decode bX_findDual 35 = .ok (.invokevirtual 52, 3) := by decide +kernel
theorem dX_findDual_38 : decode bX_findDual 38 = .ok (.ifCond .eq 32, 3) := by decide +kernel
theorem dX_findDual_41 : decode bX_findDual 41 = .ok (.aload_n 0, 1) := by decide +kernel
theorem dX_findDual_42 : decode bX_findDual 42 = .ok (.getfield 20, 3) := by decide +kernel
theorem dX_findDual_45 : decode bX_findDual 45 = .ok (.iload_n 2, 1) := by decide +kernel
theorem dX_findDual_46 : decode bX_findDual 46 = .ok (.aload_n 0, 1) := by decide +kernel
theorem dX_findDual_47 : decode bX_findDual 47 = .ok (.getfield 14, 3) := by decide +kernel
theorem dX_findDual_50 : decode bX_findDual 50 = .ok (.aload_n 0, 1) := by decide +kernel
theorem dX_findDual_51 : decode bX_findDual 51 = .ok (.getfield 33, 3) := by decide +kernel
theorem dX_findDual_54 : decode bX_findDual 54 = .ok (.invokevirtual 60, 3) := by decide +kernel
theorem dX_findDual_57 : decode bX_findDual 57 = .ok (.aload_n 0, 1) := by decide +kernel
theorem dX_findDual_58 : decode bX_findDual 58 = .ok (.getfield 33, 3) := by decide +kernel
theorem dX_findDual_61 : decode bX_findDual 61 = .ok (.invokevirtual 64, 3) := by decide +kernel
theorem dX_findDual_64 : decode bX_findDual 64 = .ok (.invokevirtual 82, 3) := by decide +kernel
theorem dX_findDual_67 : decode bX_findDual 67 = .ok (.goto 11, 3) := by decide +kernel
theorem dX_findDual_70 : decode bX_findDual 70 = .ok (.aload_n 0, 1) := by decide +kernel
theorem dX_findDual_71 : decode bX_findDual 71 = .ok (.getfield 20, 3) := by decide +kernel
theorem dX_findDual_74 : decode bX_findDual 74 = .ok (.iload_n 2, 1) := by decide +kernel
theorem dX_findDual_75 : decode bX_findDual 75 = .ok (.invokevirtual 86, 3) := by decide +kernel
theorem dX_findDual_78 : decode bX_findDual 78 = .ok (.return_, 1) := by decide +kernel
theorem dX_tellUsed_0 : decode bX_tellUsed 0 = .ok (.aload_n 0, 1) := by decide +kernel
theorem dX_tellUsed_1 : decode bX_tellUsed 1 = .ok (.getfield 29, 3) := by decide +kernel
theorem dX_tellUsed_4 : decode bX_tellUsed 4 = .ok (.getfield 89, 3) := by decide +kernel
theorem dX_tellUsed_7 : decode bX_tellUsed 7 = .ok (.iload_n 1, 1) := by decide +kernel
theorem dX_tellUsed_8 : decode bX_tellUsed 8 = .ok (.iaload, 1) := by decide +kernel
theorem dX_tellUsed_9 : decode bX_tellUsed 9 = .ok (.istore_n 3, 1) := by decide +kernel
theorem dX_tellUsed_10 : decode bX_tellUsed 10 = .ok (.aload_n 0, 1) := by decide +kernel
theorem dX_tellUsed_11 : decode bX_tellUsed 11 = .ok (.getfield 56, 3) := by decide +kernel
theorem dX_tellUsed_14 : decode bX_tellUsed 14 = .ok (.ifCond .eq 68, 3) := by decide +kernel
theorem dX_tellUsed_17 : decode bX_tellUsed 17 = .ok (.iload_n 3, 1) := by decide +kernel
theorem dX_tellUsed_18 : decode bX_tellUsed 18 = .ok (.iconst (-1), 1) := by decide +kernel
theorem dX_tellUsed_19 : decode bX_tellUsed 19 = .ok (.if_icmp .eq 63, 3) := by decide +kernel
theorem dX_tellUsed_22 : decode bX_tellUsed 22 = .ok (.aload_n 0, 1) := by decide +kernel
theorem dX_tellUsed_23 : decode bX_tellUsed 23 = .ok (.getfield 23, 3) := by decide +kernel
theorem dX_tellUsed_26 : decode bX_tellUsed 26 = .ok (.iload_n 1, 1) := by decide +kernel
theorem dX_tellUsed_27 : decode bX_tellUsed 27 = .ok (.invokevirtual 71, 3) := by decide +kernel
theorem dX_tellUsed_30 : decode bX_tellUsed 30 = .ok (.ifCond .ne 52, 3) := by decide +kernel
theorem dX_tellUsed_33 : decode bX_tellUsed 33 = .ok (.aload_n 0, 1) := by decide +kernel
theorem dX_tellUsed_34 : decode bX_tellUsed 34 = .ok (.getfield 33, 3) := by decide +kernel
theorem dX_tellUsed_37 : decode bX_tellUsed 37 = .ok (.aload_n 0, 1) := by decide +kernel
theorem dX_tellUsed_38 : decode bX_tellUsed 38 = .ok (.getfield 29, 3) := by decide +kernel
theorem dX_tellUsed_41 : decode bX_tellUsed 41 = .ok (.invokevirtual 93, 3) := by decide +kernel
theorem dX_tellUsed_44 : decode bX_tellUsed 44 = .ok (.aload_n 0, 1) := by decide +kernel
theorem dX_tellUsed_45 : decode bX_tellUsed 45 = .ok (.getfield 33, 3) := by decide +kernel
theorem dX_tellUsed_48 : decode bX_tellUsed 48 = .ok (.iload_n 3, 1) := by decide +kernel
theorem dX_tellUsed_49 : decode bX_tellUsed 49 = .ok (.invokevirtual 97, 3) := by decide +kernel
theorem dX_tellUsed_52 : decode bX_tellUsed 52 = .ok (.aload_n 0, 1) := by decide +kernel
theorem dX_tellUsed_53 : decode bX_tellUsed 53 = .ok (.getfield 33, 3) := by decide +kernel
theorem dX_tellUsed_56 : decode bX_tellUsed 56 = .ok (.invokevirtual 49, 3) := by decide +kernel
theorem dX_tellUsed_59 : decode bX_tellUsed 59 = .ok (.aload_n 0, 1) := by decide +kernel
theorem dX_tellUsed_60 : decode bX_tellUsed 60 = .ok (.getfield 23, 3) := by decide +kernel
theorem dX_tellUsed_63 : decode bX_tellUsed 63 = .ok (.iload_n 1, 1) := by decide +kernel
theorem dX_tellUsed_64 : decode bX_tellUsed 64 = .ok (.aload_n 0, 1) := by decide +kernel
theorem dX_tellUsed_65 : decode bX_tellUsed 65 = .ok (.getfield 33, 3) := by decide +kernel
theorem dX_tellUsed_68 : decode bX_tellUsed 68 = .ok (.iload_n 3, 1) := by decide +kernel
theorem dX_tellUsed_69 : decode bX_tellUsed 69 = .ok (.invokevirtual 100, 3) := by decide +kernel
theorem dX_tellUsed_72 : decode bX_tellUsed 72 = .ok (.aload_n 0, 1) := by decide +kernel
theorem dX_tellUsed_73 : decode bX_tellUsed 73 = .ok (.getfield 33, 3) := by decide +kernel
theorem dX_tellUsed_76 : decode bX_tellUsed 76 = .ok (.getfield 104, 3) := by decide +kernel
theorem dX_tellUsed_79 : decode bX_tellUsed 79 = .ok (.invokevirtual 67, 3) := by decide +kernel
theorem dX_tellUsed_82 : decode bX_tellUsed 82 = .ok (.aload_n 0, 1) := by decide +kernel
theorem dX_tellUsed_83 : decode bX_tellUsed 83 = .ok (.getfield 23, 3) := by decide +kernel
theorem dX_tellUsed_86 : decode bX_tellUsed 86 = .ok (.iload_n 1, 1) := by decide +kernel
theorem dX_tellUsed_87 : decode bX_tellUsed 87 = .ok (.iload_n 2, 1) := by decide +kernel
theorem dX_tellUsed_88 : decode bX_tellUsed 88 = .ok (.invokevirtual 78, 3) := by decide +kernel
theorem dX_tellUsed_91 : decode bX_tellUsed 91 = .ok (.lreturn, 1) := by decide +kernel
theorem dX_solve_0 : decode bX_solve 0 = .ok (.aload_n 0, 1) := by decide +kernel
theorem dX_solve_1 : decode bX_solve 1 = .ok (.getfield 14, 3) := by decide +kernel
theorem dX_solve_4 : decode bX_solve 4 = .ok (.invokevirtual 36, 3) := by decide +kernel
theorem dX_solve_7 : decode bX_solve 7 = .ok (.aload_n 0, 1) := by decide +kernel
theorem dX_solve_8 : decode bX_solve 8 = .ok (.getfield 20, 3) := by decide +kernel
theorem dX_solve_11 : decode bX_solve 11 = .ok (.invokevirtual 36, 3) := by decide +kernel
theorem dX_solve_14 : decode bX_solve 14 = .ok (.aload_n 0, 1) := by decide +kernel
theorem dX_solve_15 : decode bX_solve 15 = .ok (.getfield 23, 3) := by decide +kernel
theorem dX_solve_18 : decode bX_solve 18 = .ok (.invokevirtual 36, 3) := by decide +kernel
theorem dX_solve_21 : decode bX_solve 21 = .ok (.aload_n 0, 1) := by decide +kernel
theorem dX_solve_22 : decode bX_solve 22 = .ok (.getfield 29, 3) := by decide +kernel
theorem dX_solve_25 : decode bX_solve 25 = .ok (.aload_n 1, 1) := by decide +kernel
theorem dX_solve_26 : decode bX_solve 26 = .ok (.iconst 1, 1) := by decide +kernel
theorem dX_solve_27 : decode bX_solve 27 = .ok (.aload_n 1, 1) := by decide +kernel
theorem dX_solve_28 : decode bX_solve 28 = .ok (.getfield 39, 3) := by decide +kernel
theorem dX_solve_31 : decode bX_solve 31 = .ok (.ishl, 1) := by decide +kernel
theorem dX_solve_32 : decode bX_solve 32 = .ok (.iconst 1, 1) := by decide +kernel
theorem dX_solve_33 : decode bX_solve 33 = .ok (.isub, 1) := by decide +kernel
theorem dX_solve_34 : decode bX_solve 34 = .ok (.invokevirtual 45, 3) := by decide +kernel
theorem dX_solve_37 : decode bX_solve 37 = .ok (.aload_n 0, 1) := by decide +kernel
theorem dX_solve_38 : decode bX_solve 38 = .ok (.getfield 29, 3) := by decide +kernel
theorem dX_solve_41 : decode bX_solve 41 = .ok (.invokevirtual 49, 3) := by decide +kernel
theorem dX_solve_44 : decode bX_solve 44 = .ok (.aload_n 0, 1) := by decide +kernel
theorem dX_solve_45 : decode bX_solve 45 = .ok (.aload_n 0, 1) := by decide +kernel
theorem dX_solve_46 : decode bX_solve 46 = .ok (.getfield 29, 3) := by decide +kernel
theorem dX_solve_49 : decode bX_solve 49 = .ok (.invokevirtual 52, 3) := by decide +kernel
theorem dX_solve_52 : decode bX_solve 52 = .ok (.putfield 56, 3) := by decide +kernel
theorem dX_solve_55 : decode bX_solve 55 = .ok (.aload_n 0, 1) := by decide +kernel
theorem dX_solve_56 : decode bX_solve 56 = .ok (.getfield 56, 3) := by decide +kernel
theorem dX_solve_59 : decode bX_solve 59 = .ok (.ifCond .eq 25, 3) := by decide +kernel
theorem dX_solve_62 : decode bX_solve 62 = .ok (.aload_n 0, 1) := by decide +kernel
theorem dX_solve_63 : decode bX_solve 63 = .ok (.getfield 14, 3) := by decide +kernel
theorem dX_solve_66 : decode bX_solve 66 = .ok (.iconst 0, 1) := by decide +kernel
theorem dX_solve_67 : decode bX_solve 67 = .ok (.aload_n 0, 1) := by decide +kernel
theorem dX_solve_68 : decode bX_solve 68 = .ok (.getfield 29, 3) := by decide +kernel
theorem dX_solve_71 : decode bX_solve 71 = .ok (.invokevirtual 60, 3) := by decide +kernel
theorem dX_solve_74 : decode bX_solve 74 = .ok (.aload_n 0, 1) := by decide +kernel
theorem dX_solve_75 : decode bX_solve 75 = .ok (.getfield 29, 3) := by decide +kernel
theorem dX_solve_78 : decode bX_solve 78 = .ok (.invokevirtual 64, 3) := by decide +kernel
theorem dX_solve_81 : decode bX_solve 81 = .ok (.invokevirtual 67, 3) := by decide +kernel
theorem dX_solve_84 : decode bX_solve 84 = .ok (.aload_n 0, 1) := by decide +kernel
theorem dX_solve_85 : decode bX_solve 85 = .ok (.getfield 56, 3) := by decide +kernel
theorem dX_solve_88 : decode bX_solve 88 = .ok (.ireturn, 1) := by decide +kernel
theorem dR_init_0 : decode bR_init 0 = .ok (.aload_n 0, 1) := by decide +kernel
theorem dR_init_1 : decode bR_init 1 = .ok (.invokespecial 3, 3) := by decide +kernel
theorem dR_init_4 : decode bR_init 4 = .ok (.aload_n 0, 1) := by decide +kernel
theorem dR_init_5 : decode bR_init 5 = .ok (.bipush 63, 2) := by decide +kernel
theorem dR_init_7 : decode bR_init 7 = .ok (.newarray .int, 2) := by decide +kernel
theorem dR_init_9 : decode bR_init 9 = .ok (.putfield 9, 3) := by decide +kernel
theorem dR_init_12 : decode bR_init 12 = .ok (.aload_n 0, 1) := by decide +kernel
theorem dR_init_13 : decode bR_init 13 = .ok (.bipush 64, 2) := by decide +kernel
theorem dR_init_15 : decode bR_init 15 = .ok (.newarray .long, 2) := by decide +kernel
theorem dR_init_17 : decode bR_init 17 = .ok (.putfield 15, 3) := by decide +kernel
theorem dR_init_20 : decode bR_init 20 = .ok (.aload_n 0, 1) := by decide +kernel
theorem dR_init_21 : decode bR_init 21 = .ok (.bipush 64, 2) := by decide +kernel
theorem dR_init_23 : decode bR_init 23 = .ok (.newarray .int, 2) := by decide +kernel
theorem dR_init_25 : decode bR_init 25 = .ok (.putfield 19, 3) := by decide +kernel
theorem dR_init_28 : decode bR_init 28 = .ok (.aload_n 0, 1) := by decide +kernel
theorem dR_init_29 : decode bR_init 29 = .ok (.bipush 64, 2) := by decide +kernel
theorem dR_init_31 : decode bR_init 31 = .ok (.newarray .int, 2) := by decide +kernel
theorem dR_init_33 : decode bR_init 33 = .ok (.putfield 22, 3) := by decide +kernel
theorem dR_init_36 : decode bR_init 36 = .ok (.aload_n 0, 1) := by decide +kernel
theorem dR_init_37 : decode bR_init 37 = .ok (.bipush 64, 2) := by decide +kernel
theorem dR_init_39 : decode bR_init 39 = .ok (.newarray .boolean, 2) := by decide +kernel
theorem dR_init_41 : decode bR_init 41 = .ok (.putfield 25, 3) := by decide +kernel
theorem dR_init_44 : decode bR_init 44 = .ok (.aload_n 0, 1) := by decide +kernel
theorem dR_init_45 : decode bR_init 45 = .ok (.bipush 64, 2) := by decide +kernel
theorem dR_init_47 : decode bR_init 47 = .ok (.newarray .long, 2) := by decide +kernel
theorem dR_init_49 : decode bR_init 49 = .ok (.putfield 29, 3) := by decide +kernel
theorem dR_init_52 : decode bR_init 52 = .ok (.aload_n 0, 1) := by decide +kernel
theorem dR_init_53 : decode bR_init 53 = .ok (.sipush 384, 3) := by decide +kernel
theorem dR_init_56 : decode bR_init 56 = .ok (.newarray .int, 2) := by decide +kernel
theorem dR_init_58 : decode bR_init 58 = .ok (.putfield 32, 3) := by decide +kernel
theorem dR_init_61 : decode bR_init 61 = .ok (.aload_n 0, 1) := by decide +kernel
theorem dR_init_62 : decode bR_init 62 = .ok (.bipush 6, 2) := by decide +kernel
theorem dR_init_64 : decode bR_init 64 = .ok (.newarray .int, 2) := by decide +kernel
theorem dR_init_66 : decode bR_init 66 = .ok (.putfield 35, 3) := by decide +kernel
theorem dR_init_69 : decode bR_init 69 = .ok (.aload_n 0, 1) := by decide +kernel
theorem dR_init_70 : decode bR_init 70 = .ok (.aload_n 1, 1) := by decide +kernel
theorem dR_init_71 : decode bR_init 71 = .ok (.putfield 38, 3) := by decide +kernel
theorem dR_init_74 : decode bR_init 74 = .ok (.return_, 1) := by decide +kernel
theorem dR_binOfRound_0 : decode bR_binOfRound 0 = .ok (.aload_n 0, 1) := by decide +kernel
theorem dR_binOfRound_1 : decode bR_binOfRound 1 = .ok (.getfield 9, 3) := by decide +kernel
theorem dR_binOfRound_4 : decode bR_binOfRound 4 = .ok (.iload_n 1, 1) := by decide +kernel
theorem dR_binOfRound_5 : decode bR_binOfRound 5 = .ok (.iaload, 1) := by decide +kernel
theorem dR_binOfRound_6 : decode bR_binOfRound 6 = .ok (.istore_n 3, 1) := by decide +kernel
theorem dR_binOfRound_7 : decode bR_binOfRound 7 = .ok (.iload_n 2, 1) := by decide +kernel
theorem dR_binOfRound_8 : decode bR_binOfRound 8 = .ok (.iload_n 3, 1) := by decide +kernel
theorem dR_binOfRound_9 : decode bR_binOfRound 9 = .ok (.invokestatic 114, 3) := by decide +kernel
theorem dR_binOfRound_12 : decode bR_binOfRound 12 = .ok (.invokestatic 135, 3) := by decide +kernel
theorem dR_binOfRound_15 : decode bR_binOfRound 15 = .ok (.ifCond .eq 17, 3) := by decide +kernel
theorem dR_binOfRound_18 : decode bR_binOfRound 18 = .ok (.aload_n 0, 1) := by decide +kernel
theorem dR_binOfRound_19 : decode bR_binOfRound 19 = .ok (.getfield 32, 3) := by decide +kernel
theorem dR_binOfRound_22 : decode bR_binOfRound 22 = .ok (.iload_n 3, 1) := by decide +kernel
theorem dR_binOfRound_23 : decode bR_binOfRound 23 = .ok (.bipush 6, 2) := by decide +kernel
theorem dR_binOfRound_25 : decode bR_binOfRound 25 = .ok (.imul, 1) := by decide +kernel
theorem dR_binOfRound_26 : decode bR_binOfRound 26 = .ok (.iload_n 2, 1) := by decide +kernel
theorem dR_binOfRound_27 : decode bR_binOfRound 27 = .ok (.iadd, 1) := by decide +kernel
theorem dR_binOfRound_28 : decode bR_binOfRound 28 = .ok (.iaload, 1) := by decide +kernel
theorem dR_binOfRound_29 : decode bR_binOfRound 29 = .ok (.goto 4, 3) := by decide +kernel
theorem dR_binOfRound_32 : decode bR_binOfRound 32 = .ok (.iconst (-1), 1) := by decide +kernel
theorem dR_binOfRound_33 : decode bR_binOfRound 33 = .ok (.ireturn, 1) := by decide +kernel
theorem dR_leadsNowhere_0 : decode bR_leadsNowhere 0 = .ok (.iload_n 1, 1) := by decide +kernel
theorem dR_leadsNowhere_1 : decode bR_leadsNowhere 1 = .ok (.istore_n 2, 1) := by decide +kernel
theorem dR_leadsNowhere_2 : decode bR_leadsNowhere 2 = .ok (.iconst 1, 1) := by decide +kernel
theorem dR_leadsNowhere_3 : decode bR_leadsNowhere 3 = .ok (.istore_n 3, 1) := by decide +kernel
theorem dR_leadsNowhere_4 : decode bR_leadsNowhere 4 = .ok (.iload_n 3, 1) := by decide +kernel
theorem dR_leadsNowhere_5 : decode bR_leadsNowhere 5 = .ok (.aload_n 0, 1) := by decide +kernel
theorem dR_leadsNowhere_6 : decode bR_leadsNowhere 6 = .ok (.invokevirtual 77, 3) := by decide +kernel
theorem dR_leadsNowhere_9 : decode bR_leadsNowhere 9 = .ok (.if_icmp .ge 59, 3) := by decide +kernel
theorem dR_leadsNowhere_12 : decode bR_leadsNowhere 12 = .ok (.aload_n 0, 1) := by decide +kernel
theorem dR_leadsNowhere_13 : decode bR_leadsNowhere 13 = .ok (.getfield 19, 3) := by decide +kernel
theorem dR_leadsNowhere_16 : decode bR_leadsNowhere 16 = .ok (.iload_n 3, 1) := by decide +kernel
theorem dR_leadsNowhere_17 : decode bR_leadsNowhere 17 = .ok (.iaload, 1) := by decide +kernel
theorem dR_leadsNowhere_18 : decode bR_leadsNowhere 18 = .ok (.invokestatic 114, 3) := by decide +kernel
theorem dR_leadsNowhere_21 : decode bR_leadsNowhere 21 = .ok (.istore 4, 2) := by decide +kernel
theorem dR_leadsNowhere_23 : decode bR_leadsNowhere 23 = .ok (.iload_n 2, 1) := by decide +kernel
theorem dR_leadsNowhere_24 : decode bR_leadsNowhere 24 = .ok (.iload 4, 2) := by decide +kernel
theorem dR_leadsNowhere_26 : decode bR_leadsNowhere 26 = .ok (.if_icmp .ge 31, 3) := by decide +kernel
theorem dR_leadsNowhere_29 : decode bR_leadsNowhere 29 = .ok (.aload_n 0, 1) := by decide +kernel
theorem dR_leadsNowhere_30 : decode bR_leadsNowhere 30 = .ok (.getfield 22, 3) := by decide +kernel
theorem dR_leadsNowhere_33 : decode bR_leadsNowhere 33 = .ok (.iload_n 3, 1) := by decide +kernel
theorem dR_leadsNowhere_34 : decode bR_leadsNowhere 34 = .ok (.iaload, 1) := by decide +kernel
theorem dR_leadsNowhere_35 : decode bR_leadsNowhere 35 = .ok (.aload_n 0, 1) := by decide +kernel
theorem dR_leadsNowhere_36 : decode bR_leadsNowhere 36 = .ok (.getfield 19, 3) := by decide +kernel
theorem dR_leadsNowhere_39 : decode bR_leadsNowhere 39 = .ok (.iload_n 3, 1) := by decide +kernel
theorem dR_leadsNowhere_40 : decode bR_leadsNowhere 40 = .ok (.iaload, 1) := by decide +kernel
theorem dR_leadsNowhere_41 : decode bR_leadsNowhere 41 = .ok (.iload_n 2, 1) := by decide +kernel
theorem dR_leadsNowhere_42 : decode bR_leadsNowhere 42 = .ok (.invokestatic 138, 3) := by decide +kernel
theorem dR_leadsNowhere_45 : decode bR_leadsNowhere 45 = .ok (.invokestatic 81, 3) := by decide +kernel
theorem dR_leadsNowhere_48 : decode bR_leadsNowhere 48 = .ok (.ifCond .ne 7, 3) := by decide +kernel
theorem dR_leadsNowhere_51 : decode bR_leadsNowhere 51 = .ok (.iconst 1, 1) := by decide +kernel
theorem dR_leadsNowhere_52 : decode bR_leadsNowhere 52 = .ok (.goto 4, 3) := by decide +kernel
theorem dR_leadsNowhere_55 : decode bR_leadsNowhere 55 = .ok (.iconst 0, 1) := by decide +kernel
theorem dR_leadsNowhere_56 : decode bR_leadsNowhere 56 = .ok (.ireturn, 1) := by decide +kernel
theorem dR_leadsNowhere_57 : decode bR_leadsNowhere 57 = .ok (.iload_n 2, 1) := by decide +kernel
theorem dR_leadsNowhere_58 : decode bR_leadsNowhere 58 = .ok (.iload 4, 2) := by decide +kernel
theorem dR_leadsNowhere_60 : decode bR_leadsNowhere 60 = .ok (.isub, 1) := by decide +kernel
theorem dR_leadsNowhere_61 : decode bR_leadsNowhere 61 = .ok (.istore_n 2, 1) := by decide +kernel
theorem dR_leadsNowhere_62 : decode bR_leadsNowhere 62 = .ok (.iinc 3 1, 3) := by decide +kernel
theorem dR_leadsNowhere_65 : decode bR_leadsNowhere 65 = .ok (.goto (-61), 3) := by decide +kernel
theorem dR_leadsNowhere_68 : decode bR_leadsNowhere 68 = .ok (.iconst 0, 1) := by decide +kernel
theorem dR_leadsNowhere_69 : decode bR_leadsNowhere 69 = .ok (.ireturn, 1) := by decide +kernel
theorem dR_setCount_0 : decode bR_setCount 0 = .ok (.iconst 1, 1) := by decide +kernel
theorem dR_setCount_1 : decode bR_setCount 1 = .ok (.aload_n 0, 1) := by decide +kernel
theorem dR_setCount_2 : decode bR_setCount 2 = .ok (.getfield 48, 3) := by decide +kernel
theorem dR_setCount_5 : decode bR_setCount 5 = .ok (.ishl, 1) := by decide +kernel
theorem dR_setCount_6 : decode bR_setCount 6 = .ok (.ireturn, 1) := by decide +kernel
theorem dR_countCuts_0 : decode bR_countCuts 0 = .ok (.iconst 0, 1) := by decide +kernel
theorem dR_countCuts_1 : decode bR_countCuts 1 = .ok (.istore_n 1, 1) := by decide +kernel
theorem dR_countCuts_2 : decode bR_countCuts 2 = .ok (.iconst 1, 1) := by decide +kernel
theorem dR_countCuts_3 : decode bR_countCuts 3 = .ok (.istore_n 2, 1) := by decide +kernel
theorem dR_countCuts_4 : decode bR_countCuts 4 = .ok (.iload_n 2, 1) := by decide +kernel
theorem dR_countCuts_5 : decode bR_countCuts 5 = .ok (.aload_n 0, 1) := by decide +kernel
theorem dR_countCuts_6 : decode bR_countCuts 6 = .ok (.invokevirtual 77, 3) := by decide +kernel
theorem dR_countCuts_9 : decode bR_countCuts 9 = .ok (.if_icmp .ge 25, 3) := by decide +kernel
theorem dR_countCuts_12 : decode bR_countCuts 12 = .ok (.iload_n 1, 1) := by decide +kernel
theorem dR_countCuts_13 : decode bR_countCuts 13 = .ok (.aload_n 0, 1) := by decide +kernel
theorem dR_countCuts_14 : decode bR_countCuts 14 = .ok (.iload_n 2, 1) := by decide +kernel
theorem dR_countCuts_15 : decode bR_countCuts 15 = .ok (.invokevirtual 142, 3) := by decide +kernel
theorem dR_countCuts_18 : decode bR_countCuts 18 = .ok (.ifCond .eq 7, 3) := by decide +kernel
theorem dR_countCuts_21 : decode bR_countCuts 21 = .ok (.iconst 1, 1) := by decide +kernel
theorem dR_countCuts_22 : decode bR_countCuts 22 = .ok (.goto 4, 3) := by decide +kernel
theorem dR_countCuts_25 : decode bR_countCuts 25 = .ok (.iconst 0, 1) := by decide +kernel
theorem dR_countCuts_26 : decode bR_countCuts 26 = .ok (.iadd, 1) := by decide +kernel
theorem dR_countCuts_27 : decode bR_countCuts 27 = .ok (.istore_n 1, 1) := by decide +kernel
theorem dR_countCuts_28 : decode bR_countCuts 28 = .ok (.iinc 2 1, 3) := by decide +kernel
theorem dR_countCuts_31 : decode bR_countCuts 31 = .ok (.goto (-27), 3) := by decide +kernel
theorem dR_countCuts_34 : decode bR_countCuts 34 = .ok (.iload_n 1, 1) := by decide +kernel
theorem dR_countCuts_35 : decode bR_countCuts 35 = .ok (.ireturn, 1) := by decide +kernel
theorem dR_isCut_0 : decode bR_isCut 0 = .ok (.aload_n 0, 1) := by decide +kernel
theorem dR_isCut_1 : decode bR_isCut 1 = .ok (.getfield 53, 3) := by decide +kernel
theorem dR_isCut_4 : decode bR_isCut 4 = .ok (.lconst 0, 1) := by decide +kernel
theorem dR_isCut_5 : decode bR_isCut 5 = .ok (.lcmp, 1) := by decide +kernel
theorem dR_isCut_6 : decode bR_isCut 6 = .ok (.ifCond .le 21, 3) := by decide +kernel
theorem dR_isCut_9 : decode bR_isCut 9 = .ok (.aload_n 0, 1) := by decide +kernel
theorem dR_isCut_10 : decode bR_isCut 10 = .ok (.getfield 15, 3) := by decide +kernel
theorem dR_isCut_13 : decode bR_isCut 13 = .ok (.iload_n 1, 1) := by decide +kernel
theorem dR_isCut_14 : decode bR_isCut 14 = .ok (.laload, 1) := by decide +kernel
theorem dR_isCut_15 : decode bR_isCut 15 = .ok (.aload_n 0, 1) := by decide +kernel
theorem dR_isCut_16 : decode bR_isCut 16 = .ok (.getfield 53, 3) := by decide +kernel
theorem dR_isCut_19 : decode bR_isCut 19 = .ok (.lcmp, 1) := by decide +kernel
theorem dR_isCut_20 : decode bR_isCut 20 = .ok (.ifCond .le 7, 3) := by decide +kernel
theorem dR_isCut_23 : decode bR_isCut 23 = .ok (.iconst 1, 1) := by decide +kernel
theorem dR_isCut_24 : decode bR_isCut 24 = .ok (.goto 4, 3) := by decide +kernel
theorem dR_isCut_27 : decode bR_isCut 27 = .ok (.iconst 0, 1) := by decide +kernel
theorem dR_isCut_28 : decode bR_isCut 28 = .ok (.ireturn, 1) := by decide +kernel
theorem dR_cutSet_0 : decode bR_cutSet 0 = .ok (.iconst 0, 1) := by decide +kernel
theorem dR_cutSet_1 : decode bR_cutSet 1 = .ok (.istore_n 2, 1) := by decide +kernel
theorem dR_cutSet_2 : decode bR_cutSet 2 = .ok (.iconst 1, 1) := by decide +kernel
theorem dR_cutSet_3 : decode bR_cutSet 3 = .ok (.istore_n 3, 1) := by decide +kernel
theorem dR_cutSet_4 : decode bR_cutSet 4 = .ok (.iload_n 3, 1) := by decide +kernel
theorem dR_cutSet_5 : decode bR_cutSet 5 = .ok (.aload_n 0, 1) := by decide +kernel
theorem dR_cutSet_6 : decode bR_cutSet 6 = .ok (.invokevirtual 77, 3) := by decide +kernel
theorem dR_cutSet_9 : decode bR_cutSet 9 = .ok (.if_icmp .ge 27, 3) := by decide +kernel
theorem dR_cutSet_12 : decode bR_cutSet 12 = .ok (.aload_n 0, 1) := by decide +kernel
theorem dR_cutSet_13 : decode bR_cutSet 13 = .ok (.iload_n 3, 1) := by decide +kernel
theorem dR_cutSet_14 : decode bR_cutSet 14 = .ok (.invokevirtual 142, 3) := by decide +kernel
theorem dR_cutSet_17 : decode bR_cutSet 17 = .ok (.ifCond .eq 13, 3) := by decide +kernel
theorem dR_cutSet_20 : decode bR_cutSet 20 = .ok (.iload_n 2, 1) := by decide +kernel
theorem dR_cutSet_21 : decode bR_cutSet 21 = .ok (.iload_n 1, 1) := by decide +kernel
theorem dR_cutSet_22 : decode bR_cutSet 22 = .ok (.if_icmp .ne 5, 3) := by decide +kernel
theorem dR_cutSet_25 : decode bR_cutSet 25 = .ok (.iload_n 3, 1) := by decide +kernel
theorem dR_cutSet_26 : decode bR_cutSet 26 = .ok (.ireturn, 1) := by decide +kernel
theorem dR_cutSet_27 : decode bR_cutSet 27 = .ok (.iinc 2 1, 3) := by decide +kernel
theorem dR_cutSet_30 : decode bR_cutSet 30 = .ok (.iinc 3 1, 3) := by decide +kernel
theorem dR_cutSet_33 : decode bR_cutSet 33 = .ok (.goto (-29), 3) := by decide +kernel
theorem dR_cutSet_36 : decode bR_cutSet 36 = .ok (.iconst 0, 1) := by decide +kernel
theorem dR_cutSet_37 : decode bR_cutSet 37 = .ok (.ireturn, 1) := by decide +kernel
theorem dR_areSubsetsColumns_0 : decode bR_areSubsetsColumns 0 = .ok (.iconst 0, 1) := by decide +kernel
theorem dR_areSubsetsColumns_1 : decode bR_areSubsetsColumns 1 = .ok (.istore_n 1, 1) := by decide +kernel
theorem dR_areSubsetsColumns_2 : decode bR_areSubsetsColumns 2 = .ok (.iload_n 1, 1) := by decide +kernel
theorem dR_areSubsetsColumns_3 : decode bR_areSubsetsColumns 3 = .ok (.aload_n 0, 1) := by decide +kernel
theorem dR_areSubsetsColumns_4 : decode bR_areSubsetsColumns 4 = .ok (.getfield 129, 3) := by decide +kernel
theorem dR_areSubsetsColumns_7 : decode bR_areSubsetsColumns 7 = .ok (.if_icmp .ge 47, 3) := by decide +kernel
theorem dR_areSubsetsColumns_10 : decode bR_areSubsetsColumns 10 = .ok (.aload_n 0, 1) := by decide +kernel
theorem dR_areSubsetsColumns_11 : decode bR_areSubsetsColumns 11 = .ok (.getfield 9, 3) := by decide +kernel
theorem dR_areSubsetsColumns_14 : decode bR_areSubsetsColumns 14 = .ok (.iload_n 1, 1) := by decide +kernel
theorem dR_areSubsetsColumns_15 : decode bR_areSubsetsColumns 15 = .ok (.iaload, 1) := by decide +kernel
theorem dR_areSubsetsColumns_16 : decode bR_areSubsetsColumns 16 = .ok (.istore_n 2, 1) := by decide +kernel
theorem dR_areSubsetsColumns_17 : decode bR_areSubsetsColumns 17 = .ok (.iconst 1, 1) := by decide +kernel
theorem dR_areSubsetsColumns_18 : decode bR_areSubsetsColumns 18 = .ok (.istore_n 3, 1) := by decide +kernel
theorem dR_areSubsetsColumns_19 : decode bR_areSubsetsColumns 19 = .ok (.iload_n 3, 1) := by decide +kernel
theorem dR_areSubsetsColumns_20 : decode bR_areSubsetsColumns 20 = .ok (.iload_n 2, 1) := by decide +kernel
theorem dR_areSubsetsColumns_21 : decode bR_areSubsetsColumns 21 = .ok (.if_icmp .ge 27, 3) := by decide +kernel
theorem dR_areSubsetsColumns_24 : decode bR_areSubsetsColumns 24 = .ok (.iload_n 3, 1) := by decide +kernel
theorem dR_areSubsetsColumns_25 : decode bR_areSubsetsColumns 25 = .ok (.iload_n 2, 1) := by decide +kernel
theorem dR_areSubsetsColumns_26 : decode bR_areSubsetsColumns 26 = .ok (.iconst (-1), 1) := by decide +kernel
theorem dR_areSubsetsColumns_27 : decode bR_areSubsetsColumns 27 = .ok (.ixor, 1) := by decide +kernel
theorem dR_areSubsetsColumns_28 : decode bR_areSubsetsColumns 28 = .ok (.iand, 1) := by decide +kernel
theorem dR_areSubsetsColumns_29 : decode bR_areSubsetsColumns 29 = .ok (.ifCond .ne 13, 3) := by decide +kernel
theorem dR_areSubsetsColumns_32 : decode bR_areSubsetsColumns 32 = .ok (.aload_n 0, 1) := by decide +kernel
theorem dR_areSubsetsColumns_33 : decode bR_areSubsetsColumns 33 = .ok (.iload_n 3, 1) := by decide +kernel
theorem dR_areSubsetsColumns_34 : decode bR_areSubsetsColumns 34 = .ok (.invokevirtual 132, 3) := by decide +kernel
theorem dR_areSubsetsColumns_37 : decode bR_areSubsetsColumns 37 = .ok (.ifCond .ne 5, 3) := by decide +kernel
theorem dR_areSubsetsColumns_40 : decode bR_areSubsetsColumns 40 = .ok (.iconst 0, 1) := by decide +kernel
theorem dR_areSubsetsColumns_41 : decode bR_areSubsetsColumns 41 = .ok (.ireturn, 1) := by decide +kernel
theorem dR_areSubsetsColumns_42 : decode bR_areSubsetsColumns 42 = .ok (.iinc 3 1, 3) := by decide +kernel
theorem dR_areSubsetsColumns_45 : decode bR_areSubsetsColumns 45 = .ok (.goto (-26), 3) := by decide +kernel
theorem dR_areSubsetsColumns_48 : decode bR_areSubsetsColumns 48 = .ok (.iinc 1 1, 3) := by decide +kernel
theorem dR_areSubsetsColumns_51 : decode bR_areSubsetsColumns 51 = .ok (.goto (-49), 3) := by decide +kernel
theorem dR_areSubsetsColumns_54 : decode bR_areSubsetsColumns 54 = .ok (.iconst 1, 1) := by decide +kernel
theorem dR_areSubsetsColumns_55 : decode bR_areSubsetsColumns 55 = .ok (.ireturn, 1) := by decide +kernel
theorem dR_isColumn_0 : decode bR_isColumn 0 = .ok (.aload_n 0, 1) := by decide +kernel
theorem dR_isColumn_1 : decode bR_isColumn 1 = .ok (.getfield 22, 3) := by decide +kernel
theorem dR_isColumn_4 : decode bR_isColumn 4 = .ok (.iload_n 1, 1) := by decide +kernel
theorem dR_isColumn_5 : decode bR_isColumn 5 = .ok (.iaload, 1) := by decide +kernel
theorem dR_isColumn_6 : decode bR_isColumn 6 = .ok (.ifCond .eq 7, 3) := by decide +kernel
theorem dR_isColumn_9 : decode bR_isColumn 9 = .ok (.iconst 1, 1) := by decide +kernel
theorem dR_isColumn_10 : decode bR_isColumn 10 = .ok (.goto 4, 3) := by decide +kernel
theorem dR_isColumn_13 : decode bR_isColumn 13 = .ok (.iconst 0, 1) := by decide +kernel
theorem dR_isColumn_14 : decode bR_isColumn 14 = .ok (.ireturn, 1) := by decide +kernel
theorem dR_search_0 : decode bR_search 0 = .ok (.aload_n 0, 1) := by decide +kernel
theorem dR_search_1 : decode bR_search 1 = .ok (.aload_n 0, 1) := by decide +kernel
theorem dR_search_2 : decode bR_search 2 = .ok (.getfield 38, 3) := by decide +kernel
theorem dR_search_5 : decode bR_search 5 = .ok (.getfield 42, 3) := by decide +kernel
theorem dR_search_8 : decode bR_search 8 = .ok (.putfield 48, 3) := by decide +kernel
theorem dR_search_11 : decode bR_search 11 = .ok (.aload_n 0, 1) := by decide +kernel
theorem dR_search_12 : decode bR_search 12 = .ok (.aload_n 0, 1) := by decide +kernel
theorem dR_search_13 : decode bR_search 13 = .ok (.getfield 38, 3) := by decide +kernel
theorem dR_search_16 : decode bR_search 16 = .ok (.getfield 49, 3) := by decide +kernel
theorem dR_search_19 : decode bR_search 19 = .ok (.putfield 53, 3) := by decide +kernel
theorem dR_search_22 : decode bR_search 22 = .ok (.aload_n 0, 1) := by decide +kernel
theorem dR_search_23 : decode bR_search 23 = .ok (.aload_n 0, 1) := by decide +kernel
theorem dR_search_24 : decode bR_search 24 = .ok (.getfield 38, 3) := by decide +kernel
theorem dR_search_27 : decode bR_search 27 = .ok (.getfield 54, 3) := by decide +kernel
theorem dR_search_30 : decode bR_search 30 = .ok (.putfield 57, 3) := by decide +kernel
theorem dR_search_33 : decode bR_search 33 = .ok (.aload_n 0, 1) := by decide +kernel
theorem dR_search_34 : decode bR_search 34 = .ok (.getfield 19, 3) := by decide +kernel
theorem dR_search_37 : decode bR_search 37 = .ok (.iconst 0, 1) := by decide +kernel
theorem dR_search_38 : decode bR_search 38 = .ok (.invokestatic 58, 3) := by decide +kernel
theorem dR_search_41 : decode bR_search 41 = .ok (.aload_n 0, 1) := by decide +kernel
theorem dR_search_42 : decode bR_search 42 = .ok (.getfield 22, 3) := by decide +kernel
theorem dR_search_45 : decode bR_search 45 = .ok (.iconst 0, 1) := by decide +kernel
theorem dR_search_46 : decode bR_search 46 = .ok (.invokestatic 58, 3) := by decide +kernel
theorem dR_search_49 : decode bR_search 49 = .ok (.aload_n 0, 1) := by decide +kernel
theorem dR_search_50 : decode bR_search 50 = .ok (.invokevirtual 64, 3) := by decide +kernel
theorem dR_search_53 : decode bR_search 53 = .ok (.aload_n 0, 1) := by decide +kernel
theorem dR_search_54 : decode bR_search 54 = .ok (.iconst 0, 1) := by decide +kernel
theorem dR_search_55 : decode bR_search 55 = .ok (.iconst 0, 1) := by decide +kernel
theorem dR_search_56 : decode bR_search 56 = .ok (.iconst 0, 1) := by decide +kernel
theorem dR_search_57 : decode bR_search 57 = .ok (.lconst 0, 1) := by decide +kernel
theorem dR_search_58 : decode bR_search 58 = .ok (.invokevirtual 67, 3) := by decide +kernel
theorem dR_search_61 : decode bR_search 61 = .ok (.aload_n 0, 1) := by decide +kernel
theorem dR_search_62 : decode bR_search 62 = .ok (.invokevirtual 71, 3) := by decide +kernel
theorem dR_search_65 : decode bR_search 65 = .ok (.aload_n 0, 1) := by decide +kernel
theorem dR_search_66 : decode bR_search 66 = .ok (.invokevirtual 74, 3) := by decide +kernel
theorem dR_search_69 : decode bR_search 69 = .ok (.return_, 1) := by decide +kernel
theorem dR_weighSets_0 : decode bR_weighSets 0 = .ok (.iconst 0, 1) := by decide +kernel
theorem dR_weighSets_1 : decode bR_weighSets 1 = .ok (.istore_n 1, 1) := by decide +kernel
theorem dR_weighSets_2 : decode bR_weighSets 2 = .ok (.iload_n 1, 1) := by decide +kernel
theorem dR_weighSets_3 : decode bR_weighSets 3 = .ok (.aload_n 0, 1) := by decide +kernel
theorem dR_weighSets_4 : decode bR_weighSets 4 = .ok (.invokevirtual 77, 3) := by decide +kernel
theorem dR_weighSets_7 : decode bR_weighSets 7 = .ok (.if_icmp .ge 76, 3) := by decide +kernel
theorem dR_weighSets_10 : decode bR_weighSets 10 = .ok (.lconst 0, 1) := by decide +kernel
theorem dR_weighSets_11 : decode bR_weighSets 11 = .ok (.lstore_n 2, 1) := by decide +kernel
theorem dR_weighSets_12 : decode bR_weighSets 12 = .ok (.iconst 0, 1) := by decide +kernel
theorem dR_weighSets_13 : decode bR_weighSets 13 = .ok (.istore 4, 2) := by decide +kernel
theorem dR_weighSets_15 : decode bR_weighSets 15 = .ok (.iload 4, 2) := by decide +kernel
theorem dR_weighSets_17 : decode bR_weighSets 17 = .ok (.aload_n 0, 1) := by decide +kernel
theorem dR_weighSets_18 : decode bR_weighSets 18 = .ok (.getfield 48, 3) := by decide +kernel
theorem dR_weighSets_21 : decode bR_weighSets 21 = .ok (.if_icmp .ge 35, 3) := by decide +kernel
theorem dR_weighSets_24 : decode bR_weighSets 24 = .ok (.lload_n 2, 1) := by decide +kernel
theorem dR_weighSets_25 : decode bR_weighSets 25 = .ok (.iload_n 1, 1) := by decide +kernel
theorem dR_weighSets_26 : decode bR_weighSets 26 = .ok (.iload 4, 2) := by decide +kernel
theorem dR_weighSets_28 : decode bR_weighSets 28 = .ok (.invokestatic 81, 3) := by decide +kernel
theorem dR_weighSets_31 : decode bR_weighSets 31 = .ok (.ifCond .eq 16, 3) := by decide +kernel
theorem dR_weighSets_34 : decode bR_weighSets 34 = .ok (.aload_n 0, 1) := by decide +kernel
theorem dR_weighSets_35 : decode bR_weighSets 35 = .ok (.getfield 38, 3) := by decide +kernel
theorem dR_weighSets_38 : decode bR_weighSets 38 = .ok (.getfield 85, 3) := by decide +kernel
theorem dR_weighSets_41 : decode bR_weighSets 41 = .ok (.iload 4, 2) := by decide +kernel
theorem dR_weighSets_43 : decode bR_weighSets 43 = .ok (.laload, 1) := by decide +kernel
theorem dR_weighSets_44 : decode bR_weighSets 44 = .ok (.goto 4, 3) := by decide +kernel
theorem dR_weighSets_47 : decode bR_weighSets 47 = .ok (.lconst 0, 1) := by decide +kernel
theorem dR_weighSets_48 : decode bR_weighSets 48 = .ok (.ladd, 1) := by decide +kernel
theorem dR_weighSets_49 : decode bR_weighSets 49 = .ok (.lstore_n 2, 1) := by decide +kernel
theorem dR_weighSets_50 : decode bR_weighSets 50 = .ok (.iinc 4 1, 3) := by decide +kernel
theorem dR_weighSets_53 : decode bR_weighSets 53 = .ok (.goto (-38), 3) := by decide +kernel
theorem dR_weighSets_56 : decode bR_weighSets 56 = .ok (.aload_n 0, 1) := by decide +kernel
theorem dR_weighSets_57 : decode bR_weighSets 57 = .ok (.getfield 15, 3) := by decide +kernel
theorem dR_weighSets_60 : decode bR_weighSets 60 = .ok (.iload_n 1, 1) := by decide +kernel
theorem dR_weighSets_61 : decode bR_weighSets 61 = .ok (.lload_n 2, 1) := by decide +kernel
theorem dR_weighSets_62 : decode bR_weighSets 62 = .ok (.lastore, 1) := by decide +kernel
theorem dR_weighSets_63 : decode bR_weighSets 63 = .ok (.aload_n 0, 1) := by decide +kernel
theorem dR_weighSets_64 : decode bR_weighSets 64 = .ok (.getfield 25, 3) := by decide +kernel
theorem dR_weighSets_67 : decode bR_weighSets 67 = .ok (.iload_n 1, 1) := by decide +kernel
theorem dR_weighSets_68 : decode bR_weighSets 68 = .ok (.aload_n 0, 1) := by decide +kernel
theorem dR_weighSets_69 : decode bR_weighSets 69 = .ok (.getfield 38, 3) := by decide +kernel
theorem dR_weighSets_72 : decode bR_weighSets 72 = .ok (.iload_n 1, 1) := by decide +kernel
theorem dR_weighSets_73 : decode bR_weighSets 73 = .ok (.invokevirtual 86, 3) := by decide +kernel
theorem dR_weighSets_76 : decode bR_weighSets 76 = .ok (.bastore, 1) := by decide +kernel
theorem dR_weighSets_77 : decode bR_weighSets 77 = .ok (.iinc 1 1, 3) := by decide +kernel
theorem dR_weighSets_80 : decode bR_weighSets 80 = .ok (.goto (-78), 3) := by decide +kernel
theorem dR_weighSets_83 : decode bR_weighSets 83 = .ok (.return_, 1) := by decide +kernel
theorem dR_extend_0 : decode bR_extend 0 = .ok (.iload_n 1, 1) := by decide +kernel
theorem dR_extend_1 : decode bR_extend 1 = .ok (.aload_n 0, 1) := by decide +kernel
theorem dR_extend_2 : decode bR_extend 2 = .ok (.getfield 48, 3) := by decide +kernel
theorem dR_extend_5 : decode bR_extend 5 = .ok (.if_icmp .lt 4, 3) := by decide +kernel
theorem dR_extend_8 : decode bR_extend 8 = .ok (.return_, 1) := by decide +kernel
theorem dR_extend_9 : decode bR_extend 9 = .ok (.iconst 0, 1) := by decide +kernel
theorem dR_extend_10 : decode bR_extend 10 = .ok (.istore 6, 2) := by decide +kernel
theorem dR_extend_12 : decode bR_extend 12 = .ok (.iload 6, 2) := by decide +kernel
theorem dR_extend_14 : decode bR_extend 14 = .ok (.aload_n 0, 1) := by decide +kernel
theorem dR_extend_15 : decode bR_extend 15 = .ok (.getfield 48, 3) := by decide +kernel
theorem dR_extend_18 : decode bR_extend 18 = .ok (.if_icmp .ge 29, 3) := by decide +kernel
theorem dR_extend_21 : decode bR_extend 21 = .ok (.iload_n 2, 1) := by decide +kernel
theorem dR_extend_22 : decode bR_extend 22 = .ok (.iload 6, 2) := by decide +kernel
theorem dR_extend_24 : decode bR_extend 24 = .ok (.invokestatic 81, 3) := by decide +kernel
theorem dR_extend_27 : decode bR_extend 27 = .ok (.ifCond .ne 14, 3) := by decide +kernel
theorem dR_extend_30 : decode bR_extend 30 = .ok (.aload_n 0, 1) := by decide +kernel
theorem dR_extend_31 : decode bR_extend 31 = .ok (.iload 6, 2) := by decide +kernel
theorem dR_extend_33 : decode bR_extend 33 = .ok (.iload_n 1, 1) := by decide +kernel
theorem dR_extend_34 : decode bR_extend 34 = .ok (.iload_n 2, 1) := by decide +kernel
theorem dR_extend_35 : decode bR_extend 35 = .ok (.iload_n 3, 1) := by decide +kernel
theorem dR_extend_36 : decode bR_extend 36 = .ok (.lload 4, 2) := by decide +kernel
theorem dR_extend_38 : decode bR_extend 38 = .ok (.invokevirtual 90, 3) := by decide +kernel
theorem dR_extend_41 : decode bR_extend 41 = .ok (.iinc 6 1, 3) := by decide +kernel
theorem dR_extend_44 : decode bR_extend 44 = .ok (.goto (-32), 3) := by decide +kernel
theorem dR_extend_47 : decode bR_extend 47 = .ok (.return_, 1) := by decide +kernel
theorem dR_append_0 : decode bR_append 0 = .ok (.iload_n 2, 1) := by decide +kernel
theorem dR_append_1 : decode bR_append 1 = .ok (.ifCond .ne 7, 3) := by decide +kernel
theorem dR_append_4 : decode bR_append 4 = .ok (.iconst 0, 1) := by decide +kernel
theorem dR_append_5 : decode bR_append 5 = .ok (.goto 13, 3) := by decide +kernel
theorem dR_append_8 : decode bR_append 8 = .ok (.iconst 1, 1) := by decide +kernel
theorem dR_append_9 : decode bR_append 9 = .ok (.aload_n 0, 1) := by decide +kernel
theorem dR_append_10 : decode bR_append 10 = .ok (.getfield 35, 3) := by decide +kernel
theorem dR_append_13 : decode bR_append 13 = .ok (.iload_n 2, 1) := by decide +kernel
theorem dR_append_14 : decode bR_append 14 = .ok (.iconst 1, 1) := by decide +kernel
theorem dR_append_15 : decode bR_append 15 = .ok (.isub, 1) := by decide +kernel
theorem dR_append_16 : decode bR_append 16 = .ok (.iaload, 1) := by decide +kernel
theorem dR_append_17 : decode bR_append 17 = .ok (.iadd, 1) := by decide +kernel
theorem dR_append_18 : decode bR_append 18 = .ok (.istore 7, 2) := by decide +kernel
theorem dR_append_20 : decode bR_append 20 = .ok (.iconst 1, 1) := by decide +kernel
theorem dR_append_21 : decode bR_append 21 = .ok (.iload_n 1, 1) := by decide +kernel
theorem dR_append_22 : decode bR_append 22 = .ok (.iadd, 1) := by decide +kernel
theorem dR_append_23 : decode bR_append 23 = .ok (.istore 8, 2) := by decide +kernel
theorem dR_append_25 : decode bR_append 25 = .ok (.iload_n 3, 1) := by decide +kernel
theorem dR_append_26 : decode bR_append 26 = .ok (.iconst 1, 1) := by decide +kernel
theorem dR_append_27 : decode bR_append 27 = .ok (.iload_n 1, 1) := by decide +kernel
theorem dR_append_28 : decode bR_append 28 = .ok (.ishl, 1) := by decide +kernel
theorem dR_append_29 : decode bR_append 29 = .ok (.ior, 1) := by decide +kernel
theorem dR_append_30 : decode bR_append 30 = .ok (.istore 9, 2) := by decide +kernel
theorem dR_append_32 : decode bR_append 32 = .ok (.aload_n 0, 1) := by decide +kernel
theorem dR_append_33 : decode bR_append 33 = .ok (.getfield 38, 3) := by decide +kernel
theorem dR_append_36 : decode bR_append 36 = .ok (.iload 7, 2) := by decide +kernel
theorem dR_append_38 : decode bR_append 38 = .ok (.iload 8, 2) := by decide +kernel
theorem dR_append_40 : decode bR_append 40 = .ok (.invokevirtual 94, 3) := by decide +kernel
theorem dR_append_43 : decode bR_append 43 = .ok (.ifCond .eq 18, 3) := by decide +kernel
theorem dR_append_46 : decode bR_append 46 = .ok (.aload_n 0, 1) := by decide +kernel
theorem dR_append_47 : decode bR_append 47 = .ok (.getfield 15, 3) := by decide +kernel
theorem dR_append_50 : decode bR_append 50 = .ok (.iload 9, 2) := by decide +kernel
theorem dR_append_52 : decode bR_append 52 = .ok (.laload, 1) := by decide +kernel
theorem dR_append_53 : decode bR_append 53 = .ok (.aload_n 0, 1) := by decide +kernel
theorem dR_append_54 : decode bR_append 54 = .ok (.getfield 53, 3) := by decide +kernel
theorem dR_append_57 : decode bR_append 57 = .ok (.lcmp, 1) := by decide +kernel
theorem dR_append_58 : decode bR_append 58 = .ok (.ifCond .le 4, 3) := by decide +kernel
theorem dR_append_61 : decode bR_append 61 = .ok (.return_, 1) := by decide +kernel
theorem dR_append_62 : decode bR_append 62 = .ok (.iload 4, 2) := by decide +kernel
theorem dR_append_64 : decode bR_append 64 = .ok (.aload_n 0, 1) := by decide +kernel
theorem dR_append_65 : decode bR_append 65 = .ok (.getfield 38, 3) := by decide +kernel
theorem dR_append_68 : decode bR_append 68 = .ok (.getfield 97, 3) := by decide +kernel
theorem dR_append_71 : decode bR_append 71 = .ok (.iload 7, 2) := by decide +kernel
theorem dR_append_73 : decode bR_append 73 = .ok (.aaload, 1) := by decide +kernel
theorem dR_append_74 : decode bR_append 74 = .ok (.iload 8, 2) := by decide +kernel
theorem dR_append_76 : decode bR_append 76 = .ok (.iaload, 1) := by decide +kernel
theorem dR_append_77 : decode bR_append 77 = .ok (.iadd, 1) := by decide +kernel
theorem dR_append_78 : decode bR_append 78 = .ok (.aload_n 0, 1) := by decide +kernel
theorem dR_append_79 : decode bR_append 79 = .ok (.getfield 38, 3) := by decide +kernel
theorem dR_append_82 : decode bR_append 82 = .ok (.getfield 101, 3) := by decide +kernel
theorem dR_append_85 : decode bR_append 85 = .ok (.iload_n 1, 1) := by decide +kernel
theorem dR_append_86 : decode bR_append 86 = .ok (.iaload, 1) := by decide +kernel
theorem dR_append_87 : decode bR_append 87 = .ok (.iadd, 1) := by decide +kernel
theorem dR_append_88 : decode bR_append 88 = .ok (.istore 10, 2) := by decide +kernel
theorem dR_append_90 : decode bR_append 90 = .ok (.iload 10, 2) := by decide +kernel
theorem dR_append_92 : decode bR_append 92 = .ok (.aload_n 0, 1) := by decide +kernel
theorem dR_append_93 : decode bR_append 93 = .ok (.getfield 38, 3) := by decide +kernel
theorem dR_append_96 : decode bR_append 96 = .ok (.getfield 104, 3) := by decide +kernel
theorem dR_append_99 : decode bR_append 99 = .ok (.if_icmp .le 4, 3) := by decide +kernel
theorem dR_append_102 : decode bR_append 102 = .ok (.return_, 1) := by decide +kernel
theorem dR_append_103 : decode bR_append 103 = .ok (.lload 5, 2) := by decide +kernel
theorem dR_append_105 : decode bR_append 105 = .ok (.aload_n 0, 1) := by decide +kernel
theorem dR_append_106 : decode bR_append 106 = .ok (.getfield 38, 3) := by decide +kernel
theorem dR_append_109 : decode bR_append 109 = .ok (.getfield 107, 3) := by decide +kernel
theorem dR_append_112 : decode bR_append 112 = .ok (.iload 7, 2) := by decide +kernel
theorem dR_append_114 : decode bR_append 114 = .ok (.aaload, 1) := by decide +kernel
theorem dR_append_115 : decode bR_append 115 = .ok (.iload 8, 2) := by decide +kernel
theorem dR_append_117 : decode bR_append 117 = .ok (.laload, 1) := by decide +kernel
theorem dR_append_118 : decode bR_append 118 = .ok (.ladd, 1) := by decide +kernel
theorem dR_append_119 : decode bR_append 119 = .ok (.lstore 11, 2) := by decide +kernel
theorem dR_append_121 : decode bR_append 121 = .ok (.aload_n 0, 1) := by decide +kernel
theorem dR_append_122 : decode bR_append 122 = .ok (.getfield 35, 3) := by decide +kernel
theorem dR_append_125 : decode bR_append 125 = .ok (.iload_n 2, 1) := by decide +kernel
theorem dR_append_126 : decode bR_append 126 = .ok (.iload_n 1, 1) := by decide +kernel
theorem dR_append_127 : decode bR_append 127 = .ok (.iastore, 1) := by decide +kernel
theorem dR_append_128 : decode bR_append 128 = .ok (.aload_n 0, 1) := by decide +kernel
theorem dR_append_129 : decode bR_append 129 = .ok (.getfield 19, 3) := by decide +kernel
theorem dR_append_132 : decode bR_append 132 = .ok (.iload 9, 2) := by decide +kernel
theorem dR_append_134 : decode bR_append 134 = .ok (.dup2, 1) := by decide +kernel
theorem dR_append_135 : decode bR_append 135 = .ok (.iaload, 1) := by decide +kernel
theorem dR_append_136 : decode bR_append 136 = .ok (.iconst 1, 1) := by decide +kernel
theorem dR_append_137 : decode bR_append 137 = .ok (.iload_n 1, 1) := by decide +kernel
theorem dR_append_138 : decode bR_append 138 = .ok (.ishl, 1) := by decide +kernel
theorem dR_append_139 : decode bR_append 139 = .ok (.ior, 1) := by decide +kernel
theorem dR_append_140 : decode bR_append 140 = .ok (.iastore, 1) := by decide +kernel
theorem dR_append_141 : decode bR_append 141 = .ok (.aload_n 0, 1) := by decide +kernel
theorem dR_append_142 : decode bR_append 142 = .ok (.iload 9, 2) := by decide +kernel
theorem dR_append_144 : decode bR_append 144 = .ok (.iload_n 1, 1) := by decide +kernel
theorem dR_append_145 : decode bR_append 145 = .ok (.iload 10, 2) := by decide +kernel
theorem dR_append_147 : decode bR_append 147 = .ok (.lload 11, 2) := by decide +kernel
theorem dR_append_149 : decode bR_append 149 = .ok (.invokevirtual 111, 3) := by decide +kernel
theorem dR_append_152 : decode bR_append 152 = .ok (.aload_n 0, 1) := by decide +kernel
theorem dR_append_153 : decode bR_append 153 = .ok (.iload_n 2, 1) := by decide +kernel
theorem dR_append_154 : decode bR_append 154 = .ok (.iconst 1, 1) := by decide +kernel
theorem dR_append_155 : decode bR_append 155 = .ok (.iadd, 1) := by decide +kernel
theorem dR_append_156 : decode bR_append 156 = .ok (.iload 9, 2) := by decide +kernel
theorem dR_append_158 : decode bR_append 158 = .ok (.iload 10, 2) := by decide +kernel
theorem dR_append_160 : decode bR_append 160 = .ok (.lload 11, 2) := by decide +kernel
theorem dR_append_162 : decode bR_append 162 = .ok (.invokevirtual 67, 3) := by decide +kernel
theorem dR_append_165 : decode bR_append 165 = .ok (.return_, 1) := by decide +kernel
theorem dR_goHome_0 : decode bR_goHome 0 = .ok (.iconst 1, 1) := by decide +kernel
theorem dR_goHome_1 : decode bR_goHome 1 = .ok (.iload_n 2, 1) := by decide +kernel
theorem dR_goHome_2 : decode bR_goHome 2 = .ok (.iadd, 1) := by decide +kernel
theorem dR_goHome_3 : decode bR_goHome 3 = .ok (.istore 6, 2) := by decide +kernel
theorem dR_goHome_5 : decode bR_goHome 5 = .ok (.aload_n 0, 1) := by decide +kernel
theorem dR_goHome_6 : decode bR_goHome 6 = .ok (.getfield 38, 3) := by decide +kernel
theorem dR_goHome_9 : decode bR_goHome 9 = .ok (.iload 6, 2) := by decide +kernel
theorem dR_goHome_11 : decode bR_goHome 11 = .ok (.iconst 0, 1) := by decide +kernel
theorem dR_goHome_12 : decode bR_goHome 12 = .ok (.invokevirtual 94, 3) := by decide +kernel
theorem dR_goHome_15 : decode bR_goHome 15 = .ok (.ifCond .eq 27, 3) := by decide +kernel
theorem dR_goHome_18 : decode bR_goHome 18 = .ok (.iload_n 3, 1) := by decide +kernel
theorem dR_goHome_19 : decode bR_goHome 19 = .ok (.aload_n 0, 1) := by decide +kernel
theorem dR_goHome_20 : decode bR_goHome 20 = .ok (.getfield 38, 3) := by decide +kernel
theorem dR_goHome_23 : decode bR_goHome 23 = .ok (.getfield 97, 3) := by decide +kernel
theorem dR_goHome_26 : decode bR_goHome 26 = .ok (.iload 6, 2) := by decide +kernel
theorem dR_goHome_28 : decode bR_goHome 28 = .ok (.aaload, 1) := by decide +kernel
theorem dR_goHome_29 : decode bR_goHome 29 = .ok (.iconst 0, 1) := by decide +kernel
theorem dR_goHome_30 : decode bR_goHome 30 = .ok (.iaload, 1) := by decide +kernel
theorem dR_goHome_31 : decode bR_goHome 31 = .ok (.iadd, 1) := by decide +kernel
theorem dR_goHome_32 : decode bR_goHome 32 = .ok (.aload_n 0, 1) := by decide +kernel
theorem dR_goHome_33 : decode bR_goHome 33 = .ok (.getfield 38, 3) := by decide +kernel
theorem dR_goHome_36 : decode bR_goHome 36 = .ok (.getfield 104, 3) := by decide +kernel
theorem dR_goHome_39 : decode bR_goHome 39 = .ok (.if_icmp .le 4, 3) := by decide +kernel
theorem dR_goHome_42 : decode bR_goHome 42 = .ok (.return_, 1) := by decide +kernel
theorem dR_goHome_43 : decode bR_goHome 43 = .ok (.lload 4, 2) := by decide +kernel
theorem dR_goHome_45 : decode bR_goHome 45 = .ok (.aload_n 0, 1) := by decide +kernel
theorem dR_goHome_46 : decode bR_goHome 46 = .ok (.getfield 38, 3) := by decide +kernel
theorem dR_goHome_49 : decode bR_goHome 49 = .ok (.getfield 107, 3) := by decide +kernel
theorem dR_goHome_52 : decode bR_goHome 52 = .ok (.iload 6, 2) := by decide +kernel
theorem dR_goHome_54 : decode bR_goHome 54 = .ok (.aaload, 1) := by decide +kernel
theorem dR_goHome_55 : decode bR_goHome 55 = .ok (.iconst 0, 1) := by decide +kernel
theorem dR_goHome_56 : decode bR_goHome 56 = .ok (.laload, 1) := by decide +kernel
theorem dR_goHome_57 : decode bR_goHome 57 = .ok (.ladd, 1) := by decide +kernel
theorem dR_goHome_58 : decode bR_goHome 58 = .ok (.lstore 7, 2) := by decide +kernel
theorem dR_goHome_60 : decode bR_goHome 60 = .ok (.aload_n 0, 1) := by decide +kernel
theorem dR_goHome_61 : decode bR_goHome 61 = .ok (.getfield 22, 3) := by decide +kernel
theorem dR_goHome_64 : decode bR_goHome 64 = .ok (.iload_n 1, 1) := by decide +kernel
theorem dR_goHome_65 : decode bR_goHome 65 = .ok (.iaload, 1) := by decide +kernel
theorem dR_goHome_66 : decode bR_goHome 66 = .ok (.ifCond .eq 15, 3) := by decide +kernel
theorem dR_goHome_69 : decode bR_goHome 69 = .ok (.lload 7, 2) := by decide +kernel
theorem dR_goHome_71 : decode bR_goHome 71 = .ok (.aload_n 0, 1) := by decide +kernel
theorem dR_goHome_72 : decode bR_goHome 72 = .ok (.getfield 29, 3) := by decide +kernel
theorem dR_goHome_75 : decode bR_goHome 75 = .ok (.iload_n 1, 1) := by decide +kernel
theorem dR_goHome_76 : decode bR_goHome 76 = .ok (.laload, 1) := by decide +kernel
theorem dR_goHome_77 : decode bR_goHome 77 = .ok (.lcmp, 1) := by decide +kernel
theorem dR_goHome_78 : decode bR_goHome 78 = .ok (.ifCond .ge 31, 3) := by decide +kernel
theorem dR_goHome_81 : decode bR_goHome 81 = .ok (.aload_n 0, 1) := by decide +kernel
theorem dR_goHome_82 : decode bR_goHome 82 = .ok (.getfield 29, 3) := by decide +kernel
theorem dR_goHome_85 : decode bR_goHome 85 = .ok (.iload_n 1, 1) := by decide +kernel
theorem dR_goHome_86 : decode bR_goHome 86 = .ok (.lload 7, 2) := by decide +kernel
theorem dR_goHome_88 : decode bR_goHome 88 = .ok (.lastore, 1) := by decide +kernel
theorem dR_goHome_89 : decode bR_goHome 89 = .ok (.aload_n 0, 1) := by decide +kernel
theorem dR_goHome_90 : decode bR_goHome 90 = .ok (.getfield 35, 3) := by decide +kernel
theorem dR_goHome_93 : decode bR_goHome 93 = .ok (.iconst 0, 1) := by decide +kernel
theorem dR_goHome_94 : decode bR_goHome 94 = .ok (.aload_n 0, 1) := by decide +kernel
theorem dR_goHome_95 : decode bR_goHome 95 = .ok (.getfield 32, 3) := by decide +kernel
theorem dR_goHome_98 : decode bR_goHome 98 = .ok (.iload_n 1, 1) := by decide +kernel
theorem dR_goHome_99 : decode bR_goHome 99 = .ok (.bipush 6, 2) := by decide +kernel
theorem dR_goHome_101 : decode bR_goHome 101 = .ok (.imul, 1) := by decide +kernel
theorem dR_goHome_102 : decode bR_goHome 102 = .ok (.iload_n 1, 1) := by decide +kernel
theorem dR_goHome_103 : decode bR_goHome 103 = .ok (.invokestatic 114, 3) := by decide +kernel
theorem dR_goHome_106 : decode bR_goHome 106 = .ok (.invokestatic 120, 3) := by decide +kernel
theorem dR_goHome_109 : decode bR_goHome 109 = .ok (.aload_n 0, 1) := by decide +kernel
theorem dR_goHome_110 : decode bR_goHome 110 = .ok (.getfield 22, 3) := by decide +kernel
theorem dR_goHome_113 : decode bR_goHome 113 = .ok (.iload_n 1, 1) := by decide +kernel
theorem dR_goHome_114 : decode bR_goHome 114 = .ok (.dup2, 1) := by decide +kernel
theorem dR_goHome_115 : decode bR_goHome 115 = .ok (.iaload, 1) := by decide +kernel
theorem dR_goHome_116 : decode bR_goHome 116 = .ok (.iconst 1, 1) := by decide +kernel
theorem dR_goHome_117 : decode bR_goHome 117 = .ok (.iload_n 2, 1) := by decide +kernel
theorem dR_goHome_118 : decode bR_goHome 118 = .ok (.ishl, 1) := by decide +kernel
theorem dR_goHome_119 : decode bR_goHome 119 = .ok (.ior, 1) := by decide +kernel
theorem dR_goHome_120 : decode bR_goHome 120 = .ok (.iastore, 1) := by decide +kernel
theorem dR_goHome_121 : decode bR_goHome 121 = .ok (.return_, 1) := by decide +kernel
theorem dR_countLabels_0 : decode bR_countLabels 0 = .ok (.aload_n 0, 1) := by decide +kernel
theorem dR_countLabels_1 : decode bR_countLabels 1 = .ok (.iconst 0, 1) := by decide +kernel
theorem dR_countLabels_2 : decode bR_countLabels 2 = .ok (.putfield 126, 3) := by decide +kernel
theorem dR_countLabels_5 : decode bR_countLabels 5 = .ok (.iconst 1, 1) := by decide +kernel
theorem dR_countLabels_6 : decode bR_countLabels 6 = .ok (.istore_n 1, 1) := by decide +kernel
theorem dR_countLabels_7 : decode bR_countLabels 7 = .ok (.iload_n 1, 1) := by decide +kernel
theorem dR_countLabels_8 : decode bR_countLabels 8 = .ok (.aload_n 0, 1) := by decide +kernel
theorem dR_countLabels_9 : decode bR_countLabels 9 = .ok (.invokevirtual 77, 3) := by decide +kernel
theorem dR_countLabels_12 : decode bR_countLabels 12 = .ok (.if_icmp .ge 27, 3) := by decide +kernel
theorem dR_countLabels_15 : decode bR_countLabels 15 = .ok (.aload_n 0, 1) := by decide +kernel
theorem dR_countLabels_16 : decode bR_countLabels 16 = .ok (.dup, 1) := by decide +kernel
theorem dR_countLabels_17 : decode bR_countLabels 17 = .ok (.getfield 126, 3) := by decide +kernel
theorem dR_countLabels_20 : decode bR_countLabels 20 = .ok (.aload_n 0, 1) := by decide +kernel
theorem dR_countLabels_21 : decode bR_countLabels 21 = .ok (.getfield 19, 3) := by decide +kernel
theorem dR_countLabels_24 : decode bR_countLabels 24 = .ok (.iload_n 1, 1) := by decide +kernel
theorem dR_countLabels_25 : decode bR_countLabels 25 = .ok (.iaload, 1) := by decide +kernel
theorem dR_countLabels_26 : decode bR_countLabels 26 = .ok (.invokestatic 114, 3) := by decide +kernel
theorem dR_countLabels_29 : decode bR_countLabels 29 = .ok (.iadd, 1) := by decide +kernel
theorem dR_countLabels_30 : decode bR_countLabels 30 = .ok (.putfield 126, 3) := by decide +kernel
theorem dR_countLabels_33 : decode bR_countLabels 33 = .ok (.iinc 1 1, 3) := by decide +kernel
theorem dR_countLabels_36 : decode bR_countLabels 36 = .ok (.goto (-29), 3) := by decide +kernel
theorem dR_countLabels_39 : decode bR_countLabels 39 = .ok (.return_, 1) := by decide +kernel
theorem dR_listColumns_0 : decode bR_listColumns 0 = .ok (.aload_n 0, 1) := by decide +kernel
theorem dR_listColumns_1 : decode bR_listColumns 1 = .ok (.iconst 0, 1) := by decide +kernel
theorem dR_listColumns_2 : decode bR_listColumns 2 = .ok (.putfield 129, 3) := by decide +kernel
theorem dR_listColumns_5 : decode bR_listColumns 5 = .ok (.iconst 1, 1) := by decide +kernel
theorem dR_listColumns_6 : decode bR_listColumns 6 = .ok (.istore_n 1, 1) := by decide +kernel
theorem dR_listColumns_7 : decode bR_listColumns 7 = .ok (.iload_n 1, 1) := by decide +kernel
theorem dR_listColumns_8 : decode bR_listColumns 8 = .ok (.aload_n 0, 1) := by decide +kernel
theorem dR_listColumns_9 : decode bR_listColumns 9 = .ok (.invokevirtual 77, 3) := by decide +kernel
theorem dR_listColumns_12 : decode bR_listColumns 12 = .ok (.if_icmp .ge 37, 3) := by decide +kernel
theorem dR_listColumns_15 : decode bR_listColumns 15 = .ok (.aload_n 0, 1) := by decide +kernel
theorem dR_listColumns_16 : decode bR_listColumns 16 = .ok (.iload_n 1, 1) := by decide +kernel
theorem dR_listColumns_17 : decode bR_listColumns 17 = .ok (.invokevirtual 132, 3) := by decide +kernel
theorem dR_listColumns_20 : decode bR_listColumns 20 = .ok (.ifCond .eq 23, 3) := by decide +kernel
theorem dR_listColumns_23 : decode bR_listColumns 23 = .ok (.aload_n 0, 1) := by decide +kernel
theorem dR_listColumns_24 : decode bR_listColumns 24 = .ok (.getfield 9, 3) := by decide +kernel
theorem dR_listColumns_27 : decode bR_listColumns 27 = .ok (.aload_n 0, 1) := by decide +kernel
theorem dR_listColumns_28 : decode bR_listColumns 28 = .ok (.getfield 129, 3) := by decide +kernel
theorem dR_listColumns_31 : decode bR_listColumns 31 = .ok (.iload_n 1, 1) := by decide +kernel
theorem dR_listColumns_32 : decode bR_listColumns 32 = .ok (.iastore, 1) := by decide +kernel
theorem dR_listColumns_33 : decode bR_listColumns 33 = .ok (.aload_n 0, 1) := by decide +kernel
theorem dR_listColumns_34 : decode bR_listColumns 34 = .ok (.dup, 1) := by decide +kernel
theorem dR_listColumns_35 : decode bR_listColumns 35 = .ok (.getfield 129, 3) := by decide +kernel
theorem dR_listColumns_38 : decode bR_listColumns 38 = .ok (.iconst 1, 1) := by decide +kernel
theorem dR_listColumns_39 : decode bR_listColumns 39 = .ok (.iadd, 1) := by decide +kernel
theorem dR_listColumns_40 : decode bR_listColumns 40 = .ok (.putfield 129, 3) := by decide +kernel
theorem dR_listColumns_43 : decode bR_listColumns 43 = .ok (.iinc 1 1, 3) := by decide +kernel
theorem dR_listColumns_46 : decode bR_listColumns 46 = .ok (.goto (-39), 3) := by decide +kernel
theorem dR_listColumns_49 : decode bR_listColumns 49 = .ok (.return_, 1) := by decide +kernel
theorem dT_init_0 : decode bT_init 0 = .ok (.aload_n 0, 1) := by decide +kernel
theorem dT_init_1 : decode bT_init 1 = .ok (.invokespecial 5, 3) := by decide +kernel
theorem dT_init_4 : decode bT_init 4 = .ok (.aload_n 0, 1) := by decide +kernel
theorem dT_init_5 : decode bT_init 5 = .ok (.bipush 63, 2) := by decide +kernel
theorem dT_init_7 : decode bT_init 7 = .ok (.newarray .int, 2) := by decide +kernel
theorem dT_init_9 : decode bT_init 9 = .ok (.putfield 11, 3) := by decide +kernel
theorem dT_init_12 : decode bT_init 12 = .ok (.aload_n 0, 1) := by decide +kernel
theorem dT_init_13 : decode bT_init 13 = .ok (.lconst 1, 1) := by decide +kernel
theorem dT_init_14 : decode bT_init 14 = .ok (.putfield 15, 3) := by decide +kernel
theorem dT_init_17 : decode bT_init 17 = .ok (.aload_n 0, 1) := by decide +kernel
theorem dT_init_18 : decode bT_init 18 = .ok (.iconst 2, 1) := by decide +kernel
theorem dT_init_19 : decode bT_init 19 = .ok (.putfield 19, 3) := by decide +kernel
theorem dT_init_22 : decode bT_init 22 = .ok (.aload_n 0, 1) := by decide +kernel
theorem dT_init_23 : decode bT_init 23 = .ok (.iconst 2, 1) := by decide +kernel
theorem dT_init_24 : decode bT_init 24 = .ok (.putfield 23, 3) := by decide +kernel
theorem dT_init_27 : decode bT_init 27 = .ok (.aload_n 0, 1) := by decide +kernel
theorem dT_init_28 : decode bT_init 28 = .ok (.bipush 8, 2) := by decide +kernel
theorem dT_init_30 : decode bT_init 30 = .ok (.bipush 65, 2) := by decide +kernel
theorem dT_init_32 : decode bT_init 32 = .ok (.multianewarray 26 2, 4) := by decide +kernel
theorem dT_init_36 : decode bT_init 36 = .ok (.putfield 28, 3) := by decide +kernel
theorem dT_init_39 : decode bT_init 39 = .ok (.aload_n 0, 1) := by decide +kernel
theorem dT_init_40 : decode bT_init 40 = .ok (.bipush 8, 2) := by decide +kernel
theorem dT_init_42 : decode bT_init 42 = .ok (.newarray .int, 2) := by decide +kernel
theorem dT_init_44 : decode bT_init 44 = .ok (.putfield 31, 3) := by decide +kernel
theorem dT_init_47 : decode bT_init 47 = .ok (.return_, 1) := by decide +kernel
theorem dT_lay_0 : decode bT_lay 0 = .ok (.aload_n 0, 1) := by decide +kernel
theorem dT_lay_1 : decode bT_lay 1 = .ok (.iconst 2, 1) := by decide +kernel
theorem dT_lay_2 : decode bT_lay 2 = .ok (.aload_n 1, 1) := by decide +kernel
theorem dT_lay_3 : decode bT_lay 3 = .ok (.getfield 34, 3) := by decide +kernel
theorem dT_lay_6 : decode bT_lay 6 = .ok (.iadd, 1) := by decide +kernel
theorem dT_lay_7 : decode bT_lay 7 = .ok (.putfield 19, 3) := by decide +kernel
theorem dT_lay_10 : decode bT_lay 10 = .ok (.aload_n 0, 1) := by decide +kernel
theorem dT_lay_11 : decode bT_lay 11 = .ok (.iconst 2, 1) := by decide +kernel
theorem dT_lay_12 : decode bT_lay 12 = .ok (.putfield 23, 3) := by decide +kernel
theorem dT_lay_15 : decode bT_lay 15 = .ok (.aload_n 0, 1) := by decide +kernel
theorem dT_lay_16 : decode bT_lay 16 = .ok (.lconst 1, 1) := by decide +kernel
theorem dT_lay_17 : decode bT_lay 17 = .ok (.putfield 15, 3) := by decide +kernel
theorem dT_lay_20 : decode bT_lay 20 = .ok (.aload_n 0, 1) := by decide +kernel
theorem dT_lay_21 : decode bT_lay 21 = .ok (.iload_n 2, 1) := by decide +kernel
theorem dT_lay_22 : decode bT_lay 22 = .ok (.aload_n 1, 1) := by decide +kernel
theorem dT_lay_23 : decode bT_lay 23 = .ok (.getfield 39, 3) := by decide +kernel
theorem dT_lay_26 : decode bT_lay 26 = .ok (.invokevirtual 42, 3) := by decide +kernel
theorem dT_lay_29 : decode bT_lay 29 = .ok (.iconst 0, 1) := by decide +kernel
theorem dT_lay_30 : decode bT_lay 30 = .ok (.istore_n 3, 1) := by decide +kernel
theorem dT_lay_31 : decode bT_lay 31 = .ok (.iload_n 3, 1) := by decide +kernel
theorem dT_lay_32 : decode bT_lay 32 = .ok (.aload_n 1, 1) := by decide +kernel
theorem dT_lay_33 : decode bT_lay 33 = .ok (.getfield 46, 3) := by decide +kernel
theorem dT_lay_36 : decode bT_lay 36 = .ok (.if_icmp .ge 71, 3) := by decide +kernel
theorem dT_lay_39 : decode bT_lay 39 = .ok (.aload_n 1, 1) := by decide +kernel
theorem dT_lay_40 : decode bT_lay 40 = .ok (.getfield 49, 3) := by decide +kernel
theorem dT_lay_43 : decode bT_lay 43 = .ok (.iload_n 3, 1) := by decide +kernel
theorem dT_lay_44 : decode bT_lay 44 = .ok (.iaload, 1) := by decide +kernel
theorem dT_lay_45 : decode bT_lay 45 = .ok (.istore 4, 2) := by decide +kernel
theorem dT_lay_47 : decode bT_lay 47 = .ok (.aload_n 1, 1) := by decide +kernel
theorem dT_lay_48 : decode bT_lay 48 = .ok (.getfield 52, 3) := by decide +kernel
theorem dT_lay_51 : decode bT_lay 51 = .ok (.iload 4, 2) := by decide +kernel
theorem dT_lay_53 : decode bT_lay 53 = .ok (.baload, 1) := by decide +kernel
theorem dT_lay_54 : decode bT_lay 54 = .ok (.ifCond .ne 16, 3) := by decide +kernel
theorem dT_lay_57 : decode bT_lay 57 = .ok (.iload 4, 2) := by decide +kernel
theorem dT_lay_59 : decode bT_lay 59 = .ok (.iload_n 2, 1) := by decide +kernel
theorem dT_lay_60 : decode bT_lay 60 = .ok (.iconst (-1), 1) := by decide +kernel
theorem dT_lay_61 : decode bT_lay 61 = .ok (.ixor, 1) := by decide +kernel
theorem dT_lay_62 : decode bT_lay 62 = .ok (.iand, 1) := by decide +kernel
theorem dT_lay_63 : decode bT_lay 63 = .ok (.ifCond .ne 7, 3) := by decide +kernel
theorem dT_lay_66 : decode bT_lay 66 = .ok (.iconst 1, 1) := by decide +kernel
theorem dT_lay_67 : decode bT_lay 67 = .ok (.goto 4, 3) := by decide +kernel
theorem dT_lay_70 : decode bT_lay 70 = .ok (.iconst 0, 1) := by decide +kernel
theorem dT_lay_71 : decode bT_lay 71 = .ok (.istore 5, 2) := by decide +kernel
theorem dT_lay_73 : decode bT_lay 73 = .ok (.aload_n 0, 1) := by decide +kernel
theorem dT_lay_74 : decode bT_lay 74 = .ok (.getfield 11, 3) := by decide +kernel
theorem dT_lay_77 : decode bT_lay 77 = .ok (.iload_n 3, 1) := by decide +kernel
theorem dT_lay_78 : decode bT_lay 78 = .ok (.iload 5, 2) := by decide +kernel
theorem dT_lay_80 : decode bT_lay 80 = .ok (.ifCond .eq 19, 3) := by decide +kernel
theorem dT_lay_83 : decode bT_lay 83 = .ok (.aload_n 0, 1) := by decide +kernel
theorem dT_lay_84 : decode bT_lay 84 = .ok (.iload 4, 2) := by decide +kernel
theorem dT_lay_86 : decode bT_lay 86 = .ok (.aload_n 1, 1) := by decide +kernel
theorem dT_lay_87 : decode bT_lay 87 = .ok (.getfield 56, 3) := by decide +kernel
theorem dT_lay_90 : decode bT_lay 90 = .ok (.iload 4, 2) := by decide +kernel
theorem dT_lay_92 : decode bT_lay 92 = .ok (.laload, 1) := by decide +kernel
theorem dT_lay_93 : decode bT_lay 93 = .ok (.invokevirtual 60, 3) := by decide +kernel
theorem dT_lay_96 : decode bT_lay 96 = .ok (.goto 4, 3) := by decide +kernel
theorem dT_lay_99 : decode bT_lay 99 = .ok (.iconst (-1), 1) := by decide +kernel
theorem dT_lay_100 : decode bT_lay 100 = .ok (.iastore, 1) := by decide +kernel
theorem dT_lay_101 : decode bT_lay 101 = .ok (.iinc 3 1, 3) := by decide +kernel
theorem dT_lay_104 : decode bT_lay 104 = .ok (.goto (-73), 3) := by decide +kernel
theorem dT_lay_107 : decode bT_lay 107 = .ok (.return_, 1) := by decide +kernel
theorem dT_layStart_0 : decode bT_layStart 0 = .ok (.aload_n 0, 1) := by decide +kernel
theorem dT_layStart_1 : decode bT_layStart 1 = .ok (.getfield 28, 3) := by decide +kernel
theorem dT_layStart_4 : decode bT_layStart 4 = .ok (.iconst 0, 1) := by decide +kernel
theorem dT_layStart_5 : decode bT_layStart 5 = .ok (.aaload, 1) := by decide +kernel
theorem dT_layStart_6 : decode bT_layStart 6 = .ok (.iconst 0, 1) := by decide +kernel
theorem dT_layStart_7 : decode bT_layStart 7 = .ok (.ldc2_w 64, 3) := by decide +kernel
theorem dT_layStart_10 : decode bT_layStart 10 = .ok (.iload_n 1, 1) := by decide +kernel
theorem dT_layStart_11 : decode bT_layStart 11 = .ok (.invokestatic 66, 3) := by decide +kernel
theorem dT_layStart_14 : decode bT_layStart 14 = .ok (.i2l, 1) := by decide +kernel
theorem dT_layStart_15 : decode bT_layStart 15 = .ok (.lmul, 1) := by decide +kernel
theorem dT_layStart_16 : decode bT_layStart 16 = .ok (.lastore, 1) := by decide +kernel
theorem dT_layStart_17 : decode bT_layStart 17 = .ok (.aload_n 0, 1) := by decide +kernel
theorem dT_layStart_18 : decode bT_layStart 18 = .ok (.getfield 28, 3) := by decide +kernel
theorem dT_layStart_21 : decode bT_layStart 21 = .ok (.iconst 0, 1) := by decide +kernel
theorem dT_layStart_22 : decode bT_layStart 22 = .ok (.aaload, 1) := by decide +kernel
theorem dT_layStart_23 : decode bT_layStart 23 = .ok (.iconst 1, 1) := by decide +kernel
theorem dT_layStart_24 : decode bT_layStart 24 = .ok (.lconst 0, 1) := by decide +kernel
theorem dT_layStart_25 : decode bT_layStart 25 = .ok (.lastore, 1) := by decide +kernel
theorem dT_layStart_26 : decode bT_layStart 26 = .ok (.aload_n 0, 1) := by decide +kernel
theorem dT_layStart_27 : decode bT_layStart 27 = .ok (.getfield 28, 3) := by decide +kernel
theorem dT_layStart_30 : decode bT_layStart 30 = .ok (.iconst 1, 1) := by decide +kernel
theorem dT_layStart_31 : decode bT_layStart 31 = .ok (.aaload, 1) := by decide +kernel
theorem dT_layStart_32 : decode bT_layStart 32 = .ok (.iconst 0, 1) := by decide +kernel
theorem dT_layStart_33 : decode bT_layStart 33 = .ok (.iload_n 2, 1) := by decide +kernel
theorem dT_layStart_34 : decode bT_layStart 34 = .ok (.i2l, 1) := by decide +kernel
theorem dT_layStart_35 : decode bT_layStart 35 = .ok (.lastore, 1) := by decide +kernel
theorem dT_layStart_36 : decode bT_layStart 36 = .ok (.aload_n 0, 1) := by decide +kernel
theorem dT_layStart_37 : decode bT_layStart 37 = .ok (.getfield 28, 3) := by decide +kernel
theorem dT_layStart_40 : decode bT_layStart 40 = .ok (.iconst 1, 1) := by decide +kernel
theorem dT_layStart_41 : decode bT_layStart 41 = .ok (.aaload, 1) := by decide +kernel
theorem dT_layStart_42 : decode bT_layStart 42 = .ok (.iconst 1, 1) := by decide +kernel
theorem dT_layStart_43 : decode bT_layStart 43 = .ok (.lconst 1, 1) := by decide +kernel
theorem dT_layStart_44 : decode bT_layStart 44 = .ok (.lastore, 1) := by decide +kernel
theorem dT_layStart_45 : decode bT_layStart 45 = .ok (.aload_n 0, 1) := by decide +kernel
theorem dT_layStart_46 : decode bT_layStart 46 = .ok (.getfield 31, 3) := by decide +kernel
theorem dT_layStart_49 : decode bT_layStart 49 = .ok (.iconst 1, 1) := by decide +kernel
theorem dT_layStart_50 : decode bT_layStart 50 = .ok (.iconst 1, 1) := by decide +kernel
theorem dT_layStart_51 : decode bT_layStart 51 = .ok (.iastore, 1) := by decide +kernel
theorem dT_layStart_52 : decode bT_layStart 52 = .ok (.iconst 2, 1) := by decide +kernel
theorem dT_layStart_53 : decode bT_layStart 53 = .ok (.istore_n 3, 1) := by decide +kernel
theorem dT_layStart_54 : decode bT_layStart 54 = .ok (.iload_n 3, 1) := by decide +kernel
theorem dT_layStart_55 : decode bT_layStart 55 = .ok (.aload_n 0, 1) := by decide +kernel
theorem dT_layStart_56 : decode bT_layStart 56 = .ok (.getfield 19, 3) := by decide +kernel
theorem dT_layStart_59 : decode bT_layStart 59 = .ok (.if_icmp .ge 49, 3) := by decide +kernel
theorem dT_layStart_62 : decode bT_layStart 62 = .ok (.aload_n 0, 1) := by decide +kernel
theorem dT_layStart_63 : decode bT_layStart 63 = .ok (.getfield 28, 3) := by decide +kernel
theorem dT_layStart_66 : decode bT_layStart 66 = .ok (.iload_n 3, 1) := by decide +kernel
theorem dT_layStart_67 : decode bT_layStart 67 = .ok (.aaload, 1) := by decide +kernel
theorem dT_layStart_68 : decode bT_layStart 68 = .ok (.iconst 0, 1) := by decide +kernel
theorem dT_layStart_69 : decode bT_layStart 69 = .ok (.iload_n 1, 1) := by decide +kernel
theorem dT_layStart_70 : decode bT_layStart 70 = .ok (.iload_n 3, 1) := by decide +kernel
theorem dT_layStart_71 : decode bT_layStart 71 = .ok (.iconst 2, 1) := by decide +kernel
theorem dT_layStart_72 : decode bT_layStart 72 = .ok (.isub, 1) := by decide +kernel
theorem dT_layStart_73 : decode bT_layStart 73 = .ok (.invokestatic 72, 3) := by decide +kernel
theorem dT_layStart_76 : decode bT_layStart 76 = .ok (.ifCond .eq 7, 3) := by decide +kernel
theorem dT_layStart_79 : decode bT_layStart 79 = .ok (.lconst 1, 1) := by decide +kernel
theorem dT_layStart_80 : decode bT_layStart 80 = .ok (.goto 4, 3) := by decide +kernel
theorem dT_layStart_83 : decode bT_layStart 83 = .ok (.lconst 0, 1) := by decide +kernel
theorem dT_layStart_84 : decode bT_layStart 84 = .ok (.lastore, 1) := by decide +kernel
theorem dT_layStart_85 : decode bT_layStart 85 = .ok (.aload_n 0, 1) := by decide +kernel
theorem dT_layStart_86 : decode bT_layStart 86 = .ok (.getfield 28, 3) := by decide +kernel
theorem dT_layStart_89 : decode bT_layStart 89 = .ok (.iload_n 3, 1) := by decide +kernel
theorem dT_layStart_90 : decode bT_layStart 90 = .ok (.aaload, 1) := by decide +kernel
theorem dT_layStart_91 : decode bT_layStart 91 = .ok (.iconst 1, 1) := by decide +kernel
theorem dT_layStart_92 : decode bT_layStart 92 = .ok (.lconst 0, 1) := by decide +kernel
theorem dT_layStart_93 : decode bT_layStart 93 = .ok (.lastore, 1) := by decide +kernel
theorem dT_layStart_94 : decode bT_layStart 94 = .ok (.aload_n 0, 1) := by decide +kernel
theorem dT_layStart_95 : decode bT_layStart 95 = .ok (.getfield 31, 3) := by decide +kernel
theorem dT_layStart_98 : decode bT_layStart 98 = .ok (.iload_n 3, 1) := by decide +kernel
theorem dT_layStart_99 : decode bT_layStart 99 = .ok (.iload_n 3, 1) := by decide +kernel
theorem dT_layStart_100 : decode bT_layStart 100 = .ok (.ineg, 1) := by decide +kernel
theorem dT_layStart_101 : decode bT_layStart 101 = .ok (.iastore, 1) := by decide +kernel
theorem dT_layStart_102 : decode bT_layStart 102 = .ok (.iinc 3 1, 3) := by decide +kernel
theorem dT_layStart_105 : decode bT_layStart 105 = .ok (.goto (-51), 3) := by decide +kernel
theorem dT_layStart_108 : decode bT_layStart 108 = .ok (.return_, 1) := by decide +kernel
theorem dT_addRound_0 : decode bT_addRound 0 = .ok (.aload_n 0, 1) := by decide +kernel
theorem dT_addRound_1 : decode bT_addRound 1 = .ok (.getfield 23, 3) := by decide +kernel
theorem dT_addRound_4 : decode bT_addRound 4 = .ok (.istore 4, 2) := by decide +kernel
theorem dT_addRound_6 : decode bT_addRound 6 = .ok (.aload_n 0, 1) := by decide +kernel
theorem dT_addRound_7 : decode bT_addRound 7 = .ok (.getfield 28, 3) := by decide +kernel
theorem dT_addRound_10 : decode bT_addRound 10 = .ok (.iconst 0, 1) := by decide +kernel
theorem dT_addRound_11 : decode bT_addRound 11 = .ok (.aaload, 1) := by decide +kernel
theorem dT_addRound_12 : decode bT_addRound 12 = .ok (.iload 4, 2) := by decide +kernel
theorem dT_addRound_14 : decode bT_addRound 14 = .ok (.ldc2_w 76, 3) := by decide +kernel
theorem dT_addRound_17 : decode bT_addRound 17 = .ok (.lload_n 2, 1) := by decide +kernel
theorem dT_addRound_18 : decode bT_addRound 18 = .ok (.lmul, 1) := by decide +kernel
theorem dT_addRound_19 : decode bT_addRound 19 = .ok (.ldc2_w 78, 3) := by decide +kernel
theorem dT_addRound_22 : decode bT_addRound 22 = .ok (.iload_n 1, 1) := by decide +kernel
theorem dT_addRound_23 : decode bT_addRound 23 = .ok (.invokestatic 66, 3) := by decide +kernel
theorem dT_addRound_26 : decode bT_addRound 26 = .ok (.i2l, 1) := by decide +kernel
theorem dT_addRound_27 : decode bT_addRound 27 = .ok (.lmul, 1) := by decide +kernel
theorem dT_addRound_28 : decode bT_addRound 28 = .ok (.lsub, 1) := by decide +kernel
theorem dT_addRound_29 : decode bT_addRound 29 = .ok (.lastore, 1) := by decide +kernel
theorem dT_addRound_30 : decode bT_addRound 30 = .ok (.aload_n 0, 1) := by decide +kernel
theorem dT_addRound_31 : decode bT_addRound 31 = .ok (.getfield 28, 3) := by decide +kernel
theorem dT_addRound_34 : decode bT_addRound 34 = .ok (.iconst 1, 1) := by decide +kernel
theorem dT_addRound_35 : decode bT_addRound 35 = .ok (.aaload, 1) := by decide +kernel
theorem dT_addRound_36 : decode bT_addRound 36 = .ok (.iload 4, 2) := by decide +kernel
theorem dT_addRound_38 : decode bT_addRound 38 = .ok (.lconst 1, 1) := by decide +kernel
theorem dT_addRound_39 : decode bT_addRound 39 = .ok (.lastore, 1) := by decide +kernel
theorem dT_addRound_40 : decode bT_addRound 40 = .ok (.iconst 2, 1) := by decide +kernel
theorem dT_addRound_41 : decode bT_addRound 41 = .ok (.istore 5, 2) := by decide +kernel
theorem dT_addRound_43 : decode bT_addRound 43 = .ok (.iload 5, 2) := by decide +kernel
theorem dT_addRound_45 : decode bT_addRound 45 = .ok (.aload_n 0, 1) := by decide +kernel
theorem dT_addRound_46 : decode bT_addRound 46 = .ok (.getfield 19, 3) := by decide +kernel
theorem dT_addRound_49 : decode bT_addRound 49 = .ok (.if_icmp .ge 35, 3) := by decide +kernel
theorem dT_addRound_52 : decode bT_addRound 52 = .ok (.aload_n 0, 1) := by decide +kernel
theorem dT_addRound_53 : decode bT_addRound 53 = .ok (.getfield 28, 3) := by decide +kernel
theorem dT_addRound_56 : decode bT_addRound 56 = .ok (.iload 5, 2) := by decide +kernel
theorem dT_addRound_58 : decode bT_addRound 58 = .ok (.aaload, 1) := by decide +kernel
theorem dT_addRound_59 : decode bT_addRound 59 = .ok (.iload 4, 2) := by decide +kernel
theorem dT_addRound_61 : decode bT_addRound 61 = .ok (.iload_n 1, 1) := by decide +kernel
theorem dT_addRound_62 : decode bT_addRound 62 = .ok (.iload 5, 2) := by decide +kernel
theorem dT_addRound_64 : decode bT_addRound 64 = .ok (.iconst 2, 1) := by decide +kernel
theorem dT_addRound_65 : decode bT_addRound 65 = .ok (.isub, 1) := by decide +kernel
theorem dT_addRound_66 : decode bT_addRound 66 = .ok (.invokestatic 72, 3) := by decide +kernel
theorem dT_addRound_69 : decode bT_addRound 69 = .ok (.ifCond .eq 7, 3) := by decide +kernel
theorem dT_addRound_72 : decode bT_addRound 72 = .ok (.lconst 1, 1) := by decide +kernel
theorem dT_addRound_73 : decode bT_addRound 73 = .ok (.goto 4, 3) := by decide +kernel
theorem dT_addRound_76 : decode bT_addRound 76 = .ok (.lconst 0, 1) := by decide +kernel
theorem dT_addRound_77 : decode bT_addRound 77 = .ok (.lastore, 1) := by decide +kernel
theorem dT_addRound_78 : decode bT_addRound 78 = .ok (.iinc 5 1, 3) := by decide +kernel
theorem dT_addRound_81 : decode bT_addRound 81 = .ok (.goto (-38), 3) := by decide +kernel
theorem dT_addRound_84 : decode bT_addRound 84 = .ok (.aload_n 0, 1) := by decide +kernel
theorem dT_addRound_85 : decode bT_addRound 85 = .ok (.iload 4, 2) := by decide +kernel
theorem dT_addRound_87 : decode bT_addRound 87 = .ok (.iconst 1, 1) := by decide +kernel
theorem dT_addRound_88 : decode bT_addRound 88 = .ok (.iadd, 1) := by decide +kernel
theorem dT_addRound_89 : decode bT_addRound 89 = .ok (.putfield 23, 3) := by decide +kernel
theorem dT_addRound_92 : decode bT_addRound 92 = .ok (.iload 4, 2) := by decide +kernel
theorem dT_addRound_94 : decode bT_addRound 94 = .ok (.ireturn, 1) := by decide +kernel
theorem dT_minimise_0 : decode bT_minimise 0 = .ok (.iconst 0, 1) := by decide +kernel
theorem dT_minimise_1 : decode bT_minimise 1 = .ok (.istore_n 1, 1) := by decide +kernel
theorem dT_minimise_2 : decode bT_minimise 2 = .ok (.iload_n 1, 1) := by decide +kernel
theorem dT_minimise_3 : decode bT_minimise 3 = .ok (.ldc 89, 2) := by decide +kernel
theorem dT_minimise_5 : decode bT_minimise 5 = .ok (.if_icmp .ge 54, 3) := by decide +kernel
theorem dT_minimise_8 : decode bT_minimise 8 = .ok (.iload_n 1, 1) := by decide +kernel
theorem dT_minimise_9 : decode bT_minimise 9 = .ok (.bipush 12, 2) := by decide +kernel
theorem dT_minimise_11 : decode bT_minimise 11 = .ok (.if_icmp .ge 10, 3) := by decide +kernel
theorem dT_minimise_14 : decode bT_minimise 14 = .ok (.aload_n 0, 1) := by decide +kernel
theorem dT_minimise_15 : decode bT_minimise 15 = .ok (.invokevirtual 90, 3) := by decide +kernel
theorem dT_minimise_18 : decode bT_minimise 18 = .ok (.goto 7, 3) := by decide +kernel
theorem dT_minimise_21 : decode bT_minimise 21 = .ok (.aload_n 0, 1) := by decide +kernel
theorem dT_minimise_22 : decode bT_minimise 22 = .ok (.invokevirtual 94, 3) := by decide +kernel
theorem dT_minimise_25 : decode bT_minimise 25 = .ok (.istore_n 2, 1) := by decide +kernel
theorem dT_minimise_26 : decode bT_minimise 26 = .ok (.iload_n 2, 1) := by decide +kernel
theorem dT_minimise_27 : decode bT_minimise 27 = .ok (.iconst (-1), 1) := by decide +kernel
theorem dT_minimise_28 : decode bT_minimise 28 = .ok (.if_icmp .ne 7, 3) := by decide +kernel
theorem dT_minimise_31 : decode bT_minimise 31 = .ok (.iconst (-1), 1) := by decide +kernel
theorem dT_minimise_32 : decode bT_minimise 32 = .ok (.goto 8, 3) := by decide +kernel
theorem dT_minimise_35 : decode bT_minimise 35 = .ok (.aload_n 0, 1) := by decide +kernel
theorem dT_minimise_36 : decode bT_minimise 36 = .ok (.iload_n 2, 1) := by decide +kernel
theorem dT_minimise_37 : decode bT_minimise 37 = .ok (.invokevirtual 97, 3) := by decide +kernel
theorem dT_minimise_40 : decode bT_minimise 40 = .ok (.istore_n 3, 1) := by decide +kernel
theorem dT_minimise_41 : decode bT_minimise 41 = .ok (.iload_n 3, 1) := by decide +kernel
theorem dT_minimise_42 : decode bT_minimise 42 = .ok (.iconst (-1), 1) := by decide +kernel
theorem dT_minimise_43 : decode bT_minimise 43 = .ok (.if_icmp .ne 4, 3) := by decide +kernel
theorem dT_minimise_46 : decode bT_minimise 46 = .ok (.return_, 1) := by decide +kernel
theorem dT_minimise_47 : decode bT_minimise 47 = .ok (.aload_n 0, 1) := by decide +kernel
theorem dT_minimise_48 : decode bT_minimise 48 = .ok (.iload_n 3, 1) := by decide +kernel
theorem dT_minimise_49 : decode bT_minimise 49 = .ok (.iload_n 2, 1) := by decide +kernel
theorem dT_minimise_50 : decode bT_minimise 50 = .ok (.invokevirtual 100, 3) := by decide +kernel
theorem dT_minimise_53 : decode bT_minimise 53 = .ok (.iinc 1 1, 3) := by decide +kernel
theorem dT_minimise_56 : decode bT_minimise 56 = .ok (.goto (-54), 3) := by decide +kernel
theorem dT_minimise_59 : decode bT_minimise 59 = .ok (.return_, 1) := by decide +kernel
theorem dT_thatSavesMost_0 : decode bT_thatSavesMost 0 = .ok (.iconst (-1), 1) := by decide +kernel
theorem dT_thatSavesMost_1 : decode bT_thatSavesMost 1 = .ok (.istore_n 1, 1) := by decide +kernel
theorem dT_thatSavesMost_2 : decode bT_thatSavesMost 2 = .ok (.iconst 1, 1) := by decide +kernel
theorem dT_thatSavesMost_3 : decode bT_thatSavesMost 3 = .ok (.istore_n 2, 1) := by decide +kernel
theorem dT_thatSavesMost_4 : decode bT_thatSavesMost 4 = .ok (.iload_n 2, 1) := by decide +kernel
theorem dT_thatSavesMost_5 : decode bT_thatSavesMost 5 = .ok (.aload_n 0, 1) := by decide +kernel
theorem dT_thatSavesMost_6 : decode bT_thatSavesMost 6 = .ok (.getfield 23, 3) := by decide +kernel
theorem dT_thatSavesMost_9 : decode bT_thatSavesMost 9 = .ok (.if_icmp .ge 49, 3) := by decide +kernel
theorem dT_thatSavesMost_12 : decode bT_thatSavesMost 12 = .ok (.aload_n 0, 1) := by decide +kernel
theorem dT_thatSavesMost_13 : decode bT_thatSavesMost 13 = .ok (.getfield 28, 3) := by decide +kernel
theorem dT_thatSavesMost_16 : decode bT_thatSavesMost 16 = .ok (.iconst 0, 1) := by decide +kernel
theorem dT_thatSavesMost_17 : decode bT_thatSavesMost 17 = .ok (.aaload, 1) := by decide +kernel
theorem dT_thatSavesMost_18 : decode bT_thatSavesMost 18 = .ok (.iload_n 2, 1) := by decide +kernel
theorem dT_thatSavesMost_19 : decode bT_thatSavesMost 19 = .ok (.laload, 1) := by decide +kernel
theorem dT_thatSavesMost_20 : decode bT_thatSavesMost 20 = .ok (.lconst 0, 1) := by decide +kernel
theorem dT_thatSavesMost_21 : decode bT_thatSavesMost 21 = .ok (.lcmp, 1) := by decide +kernel
theorem dT_thatSavesMost_22 : decode bT_thatSavesMost 22 = .ok (.ifCond .ge 30, 3) := by decide +kernel
theorem dT_thatSavesMost_25 : decode bT_thatSavesMost 25 = .ok (.iload_n 1, 1) := by decide +kernel
theorem dT_thatSavesMost_26 : decode bT_thatSavesMost 26 = .ok (.iconst (-1), 1) := by decide +kernel
theorem dT_thatSavesMost_27 : decode bT_thatSavesMost 27 = .ok (.if_icmp .eq 23, 3) := by decide +kernel
theorem dT_thatSavesMost_30 : decode bT_thatSavesMost 30 = .ok (.aload_n 0, 1) := by decide +kernel
theorem dT_thatSavesMost_31 : decode bT_thatSavesMost 31 = .ok (.getfield 28, 3) := by decide +kernel
theorem dT_thatSavesMost_34 : decode bT_thatSavesMost 34 = .ok (.iconst 0, 1) := by decide +kernel
theorem dT_thatSavesMost_35 : decode bT_thatSavesMost 35 = .ok (.aaload, 1) := by decide +kernel
theorem dT_thatSavesMost_36 : decode bT_thatSavesMost 36 = .ok (.iload_n 2, 1) := by decide +kernel
theorem dT_thatSavesMost_37 : decode bT_thatSavesMost 37 = .ok (.laload, 1) := by decide +kernel
theorem dT_thatSavesMost_38 : decode bT_thatSavesMost 38 = .ok (.aload_n 0, 1) := by decide +kernel
theorem dT_thatSavesMost_39 : decode bT_thatSavesMost 39 = .ok (.getfield 28, 3) := by decide +kernel
theorem dT_thatSavesMost_42 : decode bT_thatSavesMost 42 = .ok (.iconst 0, 1) := by decide +kernel
theorem dT_thatSavesMost_43 : decode bT_thatSavesMost 43 = .ok (.aaload, 1) := by decide +kernel
theorem dT_thatSavesMost_44 : decode bT_thatSavesMost 44 = .ok (.iload_n 1, 1) := by decide +kernel
theorem dT_thatSavesMost_45 : decode bT_thatSavesMost 45 = .ok (.laload, 1) := by decide +kernel
theorem dT_thatSavesMost_46 : decode bT_thatSavesMost 46 = .ok (.lcmp, 1) := by decide +kernel
theorem dT_thatSavesMost_47 : decode bT_thatSavesMost 47 = .ok (.ifCond .ge 5, 3) := by decide +kernel
theorem dT_thatSavesMost_50 : decode bT_thatSavesMost 50 = .ok (.iload_n 2, 1) := by decide +kernel
theorem dT_thatSavesMost_51 : decode bT_thatSavesMost 51 = .ok (.istore_n 1, 1) := by decide +kernel
theorem dT_thatSavesMost_52 : decode bT_thatSavesMost 52 = .ok (.iinc 2 1, 3) := by decide +kernel
theorem dT_thatSavesMost_55 : decode bT_thatSavesMost 55 = .ok (.goto (-51), 3) := by decide +kernel
theorem dT_thatSavesMost_58 : decode bT_thatSavesMost 58 = .ok (.iload_n 1, 1) := by decide +kernel
theorem dT_thatSavesMost_59 : decode bT_thatSavesMost 59 = .ok (.ireturn, 1) := by decide +kernel
theorem dT_firstThatSaves_0 : decode bT_firstThatSaves 0 = .ok (.iconst 1, 1) := by decide +kernel
theorem dT_firstThatSaves_1 : decode bT_firstThatSaves 1 = .ok (.istore_n 1, 1) := by decide +kernel
theorem dT_firstThatSaves_2 : decode bT_firstThatSaves 2 = .ok (.iload_n 1, 1) := by decide +kernel
theorem dT_firstThatSaves_3 : decode bT_firstThatSaves 3 = .ok (.aload_n 0, 1) := by decide +kernel
theorem dT_firstThatSaves_4 : decode bT_firstThatSaves 4 = .ok (.getfield 23, 3) := by decide +kernel
theorem dT_firstThatSaves_7 : decode bT_firstThatSaves 7 = .ok (.if_icmp .ge 24, 3) := by decide +kernel
theorem dT_firstThatSaves_10 : decode bT_firstThatSaves 10 = .ok (.aload_n 0, 1) := by decide +kernel
theorem dT_firstThatSaves_11 : decode bT_firstThatSaves 11 = .ok (.getfield 28, 3) := by decide +kernel
theorem dT_firstThatSaves_14 : decode bT_firstThatSaves 14 = .ok (.iconst 0, 1) := by decide +kernel
theorem dT_firstThatSaves_15 : decode bT_firstThatSaves 15 = .ok (.aaload, 1) := by decide +kernel
theorem dT_firstThatSaves_16 : decode bT_firstThatSaves 16 = .ok (.iload_n 1, 1) := by decide +kernel
theorem dT_firstThatSaves_17 : decode bT_firstThatSaves 17 = .ok (.laload, 1) := by decide +kernel
theorem dT_firstThatSaves_18 : decode bT_firstThatSaves 18 = .ok (.lconst 0, 1) := by decide +kernel
theorem dT_firstThatSaves_19 : decode bT_firstThatSaves 19 = .ok (.lcmp, 1) := by decide +kernel
theorem dT_firstThatSaves_20 : decode bT_firstThatSaves 20 = .ok (.ifCond .ge 5, 3) := by decide +kernel
theorem dT_firstThatSaves_23 : decode bT_firstThatSaves 23 = .ok (.iload_n 1, 1) := by decide +kernel
theorem dT_firstThatSaves_24 : decode bT_firstThatSaves 24 = .ok (.ireturn, 1) := by decide +kernel
theorem dT_firstThatSaves_25 : decode bT_firstThatSaves 25 = .ok (.iinc 1 1, 3) := by decide +kernel
theorem dT_firstThatSaves_28 : decode bT_firstThatSaves 28 = .ok (.goto (-26), 3) := by decide +kernel
theorem dT_firstThatSaves_31 : decode bT_firstThatSaves 31 = .ok (.iconst (-1), 1) := by decide +kernel
theorem dT_firstThatSaves_32 : decode bT_firstThatSaves 32 = .ok (.ireturn, 1) := by decide +kernel
theorem dT_tightestRow_0 : decode bT_tightestRow 0 = .ok (.iconst (-1), 1) := by decide +kernel
theorem dT_tightestRow_1 : decode bT_tightestRow 1 = .ok (.istore_n 2, 1) := by decide +kernel
theorem dT_tightestRow_2 : decode bT_tightestRow 2 = .ok (.iconst 1, 1) := by decide +kernel
theorem dT_tightestRow_3 : decode bT_tightestRow 3 = .ok (.istore_n 3, 1) := by decide +kernel
theorem dT_tightestRow_4 : decode bT_tightestRow 4 = .ok (.iload_n 3, 1) := by decide +kernel
theorem dT_tightestRow_5 : decode bT_tightestRow 5 = .ok (.aload_n 0, 1) := by decide +kernel
theorem dT_tightestRow_6 : decode bT_tightestRow 6 = .ok (.getfield 19, 3) := by decide +kernel
theorem dT_tightestRow_9 : decode bT_tightestRow 9 = .ok (.if_icmp .ge 39, 3) := by decide +kernel
theorem dT_tightestRow_12 : decode bT_tightestRow 12 = .ok (.aload_n 0, 1) := by decide +kernel
theorem dT_tightestRow_13 : decode bT_tightestRow 13 = .ok (.getfield 28, 3) := by decide +kernel
theorem dT_tightestRow_16 : decode bT_tightestRow 16 = .ok (.iload_n 3, 1) := by decide +kernel
theorem dT_tightestRow_17 : decode bT_tightestRow 17 = .ok (.aaload, 1) := by decide +kernel
theorem dT_tightestRow_18 : decode bT_tightestRow 18 = .ok (.iload_n 1, 1) := by decide +kernel
theorem dT_tightestRow_19 : decode bT_tightestRow 19 = .ok (.laload, 1) := by decide +kernel
theorem dT_tightestRow_20 : decode bT_tightestRow 20 = .ok (.lconst 0, 1) := by decide +kernel
theorem dT_tightestRow_21 : decode bT_tightestRow 21 = .ok (.lcmp, 1) := by decide +kernel
theorem dT_tightestRow_22 : decode bT_tightestRow 22 = .ok (.ifCond .le 20, 3) := by decide +kernel
theorem dT_tightestRow_25 : decode bT_tightestRow 25 = .ok (.iload_n 2, 1) := by decide +kernel
theorem dT_tightestRow_26 : decode bT_tightestRow 26 = .ok (.iconst (-1), 1) := by decide +kernel
theorem dT_tightestRow_27 : decode bT_tightestRow 27 = .ok (.if_icmp .eq 13, 3) := by decide +kernel
theorem dT_tightestRow_30 : decode bT_tightestRow 30 = .ok (.aload_n 0, 1) := by decide +kernel
theorem dT_tightestRow_31 : decode bT_tightestRow 31 = .ok (.iload_n 3, 1) := by decide +kernel
theorem dT_tightestRow_32 : decode bT_tightestRow 32 = .ok (.iload_n 2, 1) := by decide +kernel
theorem dT_tightestRow_33 : decode bT_tightestRow 33 = .ok (.iload_n 1, 1) := by decide +kernel
theorem dT_tightestRow_34 : decode bT_tightestRow 34 = .ok (.invokevirtual 103, 3) := by decide +kernel
theorem dT_tightestRow_37 : decode bT_tightestRow 37 = .ok (.ifCond .eq 5, 3) := by decide +kernel
theorem dT_tightestRow_40 : decode bT_tightestRow 40 = .ok (.iload_n 3, 1) := by decide +kernel
theorem dT_tightestRow_41 : decode bT_tightestRow 41 = .ok (.istore_n 2, 1) := by decide +kernel
theorem dT_tightestRow_42 : decode bT_tightestRow 42 = .ok (.iinc 3 1, 3) := by decide +kernel
theorem dT_tightestRow_45 : decode bT_tightestRow 45 = .ok (.goto (-41), 3) := by decide +kernel
theorem dT_tightestRow_48 : decode bT_tightestRow 48 = .ok (.iload_n 2, 1) := by decide +kernel
theorem dT_tightestRow_49 : decode bT_tightestRow 49 = .ok (.ireturn, 1) := by decide +kernel
theorem dT_isTighter_0 : decode bT_isTighter 0 = .ok (.aload_n 0, 1) := by decide +kernel
theorem dT_isTighter_1 : decode bT_isTighter 1 = .ok (.getfield 28, 3) := by decide +kernel
theorem dT_isTighter_4 : decode bT_isTighter 4 = .ok (.iload_n 1, 1) := by decide +kernel
theorem dT_isTighter_5 : decode bT_isTighter 5 = .ok (.aaload, 1) := by decide +kernel
theorem dT_isTighter_6 : decode bT_isTighter 6 = .ok (.iconst 0, 1) := by decide +kernel
theorem dT_isTighter_7 : decode bT_isTighter 7 = .ok (.laload, 1) := by decide +kernel
theorem dT_isTighter_8 : decode bT_isTighter 8 = .ok (.aload_n 0, 1) := by decide +kernel
theorem dT_isTighter_9 : decode bT_isTighter 9 = .ok (.getfield 28, 3) := by decide +kernel
theorem dT_isTighter_12 : decode bT_isTighter 12 = .ok (.iload_n 2, 1) := by decide +kernel
theorem dT_isTighter_13 : decode bT_isTighter 13 = .ok (.aaload, 1) := by decide +kernel
theorem dT_isTighter_14 : decode bT_isTighter 14 = .ok (.iload_n 3, 1) := by decide +kernel
theorem dT_isTighter_15 : decode bT_isTighter 15 = .ok (.laload, 1) := by decide +kernel
theorem dT_isTighter_16 : decode bT_isTighter 16 = .ok (.lmul, 1) := by decide +kernel
theorem dT_isTighter_17 : decode bT_isTighter 17 = .ok (.lstore 4, 2) := by decide +kernel
theorem dT_isTighter_19 : decode bT_isTighter 19 = .ok (.aload_n 0, 1) := by decide +kernel
theorem dT_isTighter_20 : decode bT_isTighter 20 = .ok (.getfield 28, 3) := by decide +kernel
theorem dT_isTighter_23 : decode bT_isTighter 23 = .ok (.iload_n 2, 1) := by decide +kernel
theorem dT_isTighter_24 : decode bT_isTighter 24 = .ok (.aaload, 1) := by decide +kernel
theorem dT_isTighter_25 : decode bT_isTighter 25 = .ok (.iconst 0, 1) := by decide +kernel
theorem dT_isTighter_26 : decode bT_isTighter 26 = .ok (.laload, 1) := by decide +kernel
theorem dT_isTighter_27 : decode bT_isTighter 27 = .ok (.aload_n 0, 1) := by decide +kernel
theorem dT_isTighter_28 : decode bT_isTighter 28 = .ok (.getfield 28, 3) := by decide +kernel
theorem dT_isTighter_31 : decode bT_isTighter 31 = .ok (.iload_n 1, 1) := by decide +kernel
theorem dT_isTighter_32 : decode bT_isTighter 32 = .ok (.aaload, 1) := by decide +kernel
theorem dT_isTighter_33 : decode bT_isTighter 33 = .ok (.iload_n 3, 1) := by decide +kernel
theorem dT_isTighter_34 : decode bT_isTighter 34 = .ok (.laload, 1) := by decide +kernel
theorem dT_isTighter_35 : decode bT_isTighter 35 = .ok (.lmul, 1) := by decide +kernel
theorem dT_isTighter_36 : decode bT_isTighter 36 = .ok (.lstore 6, 2) := by decide +kernel
theorem dT_isTighter_38 : decode bT_isTighter 38 = .ok (.lload 4, 2) := by decide +kernel
theorem dT_isTighter_40 : decode bT_isTighter 40 = .ok (.lload 6, 2) := by decide +kernel
theorem dT_isTighter_42 : decode bT_isTighter 42 = .ok (.lcmp, 1) := by decide +kernel
theorem dT_isTighter_43 : decode bT_isTighter 43 = .ok (.ifCond .lt 26, 3) := by decide +kernel
theorem dT_isTighter_46 : decode bT_isTighter 46 = .ok (.lload 4, 2) := by decide +kernel
theorem dT_isTighter_48 : decode bT_isTighter 48 = .ok (.lload 6, 2) := by decide +kernel
theorem dT_isTighter_50 : decode bT_isTighter 50 = .ok (.lcmp, 1) := by decide +kernel
theorem dT_isTighter_51 : decode bT_isTighter 51 = .ok (.ifCond .ne 22, 3) := by decide +kernel
theorem dT_isTighter_54 : decode bT_isTighter 54 = .ok (.aload_n 0, 1) := by decide +kernel
theorem dT_isTighter_55 : decode bT_isTighter 55 = .ok (.getfield 31, 3) := by decide +kernel
theorem dT_isTighter_58 : decode bT_isTighter 58 = .ok (.iload_n 1, 1) := by decide +kernel
theorem dT_isTighter_59 : decode bT_isTighter 59 = .ok (.iaload, 1) := by decide +kernel
theorem dT_isTighter_60 : decode bT_isTighter 60 = .ok (.aload_n 0, 1) := by decide +kernel
theorem dT_isTighter_61 : decode bT_isTighter 61 = .ok (.getfield 31, 3) := by decide +kernel
theorem dT_isTighter_64 : decode bT_isTighter 64 = .ok (.iload_n 2, 1) := by decide +kernel
theorem dT_isTighter_65 : decode bT_isTighter 65 = .ok (.iaload, 1) := by decide +kernel
theorem dT_isTighter_66 : decode bT_isTighter 66 = .ok (.if_icmp .ge 7, 3) := by decide +kernel
theorem dT_isTighter_69 : decode bT_isTighter 69 = .ok (.iconst 1, 1) := by decide +kernel
theorem dT_isTighter_70 : decode bT_isTighter 70 = .ok (.goto 4, 3) := by decide +kernel
theorem dT_isTighter_73 : decode bT_isTighter 73 = .ok (.iconst 0, 1) := by decide +kernel
theorem dT_isTighter_74 : decode bT_isTighter 74 = .ok (.ireturn, 1) := by decide +kernel
theorem dT_pivot_0 : decode bT_pivot 0 = .ok (.aload_n 0, 1) := by decide +kernel
theorem dT_pivot_1 : decode bT_pivot 1 = .ok (.getfield 28, 3) := by decide +kernel
theorem dT_pivot_4 : decode bT_pivot 4 = .ok (.iload_n 1, 1) := by decide +kernel
theorem dT_pivot_5 : decode bT_pivot 5 = .ok (.aaload, 1) := by decide +kernel
theorem dT_pivot_6 : decode bT_pivot 6 = .ok (.iload_n 2, 1) := by decide +kernel
theorem dT_pivot_7 : decode bT_pivot 7 = .ok (.laload, 1) := by decide +kernel
theorem dT_pivot_8 : decode bT_pivot 8 = .ok (.lstore_n 3, 1) := by decide +kernel
theorem dT_pivot_9 : decode bT_pivot 9 = .ok (.lload_n 3, 1) := by decide +kernel
theorem dT_pivot_10 : decode bT_pivot 10 = .ok (.lconst 0, 1) := by decide +kernel
theorem dT_pivot_11 : decode bT_pivot 11 = .ok (.lcmp, 1) := by decide +kernel
theorem dT_pivot_12 : decode bT_pivot 12 = .ok (.ifCond .le 12, 3) := by decide +kernel
theorem dT_pivot_15 : decode bT_pivot 15 = .ok (.aload_n 0, 1) := by decide +kernel
theorem dT_pivot_16 : decode bT_pivot 16 = .ok (.getfield 15, 3) := by decide +kernel
theorem dT_pivot_19 : decode bT_pivot 19 = .ok (.lconst 0, 1) := by decide +kernel
theorem dT_pivot_20 : decode bT_pivot 20 = .ok (.lcmp, 1) := by decide +kernel
theorem dT_pivot_21 : decode bT_pivot 21 = .ok (.ifCond .gt 4, 3) := by decide +kernel
theorem dT_pivot_24 : decode bT_pivot 24 = .ok (.return_, 1) := by decide +kernel
theorem dT_pivot_25 : decode bT_pivot 25 = .ok (.iconst 0, 1) := by decide +kernel
theorem dT_pivot_26 : decode bT_pivot 26 = .ok (.istore 5, 2) := by decide +kernel
theorem dT_pivot_28 : decode bT_pivot 28 = .ok (.iload 5, 2) := by decide +kernel
theorem dT_pivot_30 : decode bT_pivot 30 = .ok (.aload_n 0, 1) := by decide +kernel
theorem dT_pivot_31 : decode bT_pivot 31 = .ok (.getfield 19, 3) := by decide +kernel
theorem dT_pivot_34 : decode bT_pivot 34 = .ok (.if_icmp .ge 23, 3) := by decide +kernel
theorem dT_pivot_37 : decode bT_pivot 37 = .ok (.iload 5, 2) := by decide +kernel
theorem dT_pivot_39 : decode bT_pivot 39 = .ok (.iload_n 1, 1) := by decide +kernel
theorem dT_pivot_40 : decode bT_pivot 40 = .ok (.if_icmp .eq 11, 3) := by decide +kernel
theorem dT_pivot_43 : decode bT_pivot 43 = .ok (.aload_n 0, 1) := by decide +kernel
theorem dT_pivot_44 : decode bT_pivot 44 = .ok (.iload 5, 2) := by decide +kernel
theorem dT_pivot_46 : decode bT_pivot 46 = .ok (.iload_n 1, 1) := by decide +kernel
theorem dT_pivot_47 : decode bT_pivot 47 = .ok (.iload_n 2, 1) := by decide +kernel
theorem dT_pivot_48 : decode bT_pivot 48 = .ok (.invokevirtual 107, 3) := by decide +kernel
theorem dT_pivot_51 : decode bT_pivot 51 = .ok (.iinc 5 1, 3) := by decide +kernel
theorem dT_pivot_54 : decode bT_pivot 54 = .ok (.goto (-26), 3) := by decide +kernel
theorem dT_pivot_57 : decode bT_pivot 57 = .ok (.aload_n 0, 1) := by decide +kernel
theorem dT_pivot_58 : decode bT_pivot 58 = .ok (.lload_n 3, 1) := by decide +kernel
theorem dT_pivot_59 : decode bT_pivot 59 = .ok (.putfield 15, 3) := by decide +kernel
theorem dT_pivot_62 : decode bT_pivot 62 = .ok (.aload_n 0, 1) := by decide +kernel
theorem dT_pivot_63 : decode bT_pivot 63 = .ok (.getfield 31, 3) := by decide +kernel
theorem dT_pivot_66 : decode bT_pivot 66 = .ok (.iload_n 1, 1) := by decide +kernel
theorem dT_pivot_67 : decode bT_pivot 67 = .ok (.iload_n 2, 1) := by decide +kernel
theorem dT_pivot_68 : decode bT_pivot 68 = .ok (.iastore, 1) := by decide +kernel
theorem dT_pivot_69 : decode bT_pivot 69 = .ok (.return_, 1) := by decide +kernel
theorem dT_eliminate_0 : decode bT_eliminate 0 = .ok (.aload_n 0, 1) := by decide +kernel
theorem dT_eliminate_1 : decode bT_eliminate 1 = .ok (.getfield 28, 3) := by decide +kernel
theorem dT_eliminate_4 : decode bT_eliminate 4 = .ok (.iload_n 2, 1) := by decide +kernel
theorem dT_eliminate_5 : decode bT_eliminate 5 = .ok (.aaload, 1) := by decide +kernel
theorem dT_eliminate_6 : decode bT_eliminate 6 = .ok (.iload_n 3, 1) := by decide +kernel
theorem dT_eliminate_7 : decode bT_eliminate 7 = .ok (.laload, 1) := by decide +kernel
theorem dT_eliminate_8 : decode bT_eliminate 8 = .ok (.lstore 4, 2) := by decide +kernel
theorem dT_eliminate_10 : decode bT_eliminate 10 = .ok (.aload_n 0, 1) := by decide +kernel
theorem dT_eliminate_11 : decode bT_eliminate 11 = .ok (.getfield 28, 3) := by decide +kernel
theorem dT_eliminate_14 : decode bT_eliminate 14 = .ok (.iload_n 1, 1) := by decide +kernel
theorem dT_eliminate_15 : decode bT_eliminate 15 = .ok (.aaload, 1) := by decide +kernel
theorem dT_eliminate_16 : decode bT_eliminate 16 = .ok (.iload_n 3, 1) := by decide +kernel
theorem dT_eliminate_17 : decode bT_eliminate 17 = .ok (.laload, 1) := by decide +kernel
theorem dT_eliminate_18 : decode bT_eliminate 18 = .ok (.lstore 6, 2) := by decide +kernel
theorem dT_eliminate_20 : decode bT_eliminate 20 = .ok (.lload 6, 2) := by decide +kernel
theorem dT_eliminate_22 : decode bT_eliminate 22 = .ok (.lconst 0, 1) := by decide +kernel
theorem dT_eliminate_23 : decode bT_eliminate 23 = .ok (.lcmp, 1) := by decide +kernel
theorem dT_eliminate_24 : decode bT_eliminate 24 = .ok (.ifCond .ne 14, 3) := by decide +kernel
theorem dT_eliminate_27 : decode bT_eliminate 27 = .ok (.lload 4, 2) := by decide +kernel
theorem dT_eliminate_29 : decode bT_eliminate 29 = .ok (.aload_n 0, 1) := by decide +kernel
theorem dT_eliminate_30 : decode bT_eliminate 30 = .ok (.getfield 15, 3) := by decide +kernel
theorem dT_eliminate_33 : decode bT_eliminate 33 = .ok (.lcmp, 1) := by decide +kernel
theorem dT_eliminate_34 : decode bT_eliminate 34 = .ok (.ifCond .ne 4, 3) := by decide +kernel
theorem dT_eliminate_37 : decode bT_eliminate 37 = .ok (.return_, 1) := by decide +kernel
theorem dT_eliminate_38 : decode bT_eliminate 38 = .ok (.iconst 0, 1) := by decide +kernel
theorem dT_eliminate_39 : decode bT_eliminate 39 = .ok (.istore 8, 2) := by decide +kernel
theorem dT_eliminate_41 : decode bT_eliminate 41 = .ok (.iload 8, 2) := by decide +kernel
theorem dT_eliminate_43 : decode bT_eliminate 43 = .ok (.aload_n 0, 1) := by decide +kernel
theorem dT_eliminate_44 : decode bT_eliminate 44 = .ok (.getfield 23, 3) := by decide +kernel
theorem dT_eliminate_47 : decode bT_eliminate 47 = .ok (.if_icmp .ge 52, 3) := by decide +kernel
theorem dT_eliminate_50 : decode bT_eliminate 50 = .ok (.aload_n 0, 1) := by decide +kernel
theorem dT_eliminate_51 : decode bT_eliminate 51 = .ok (.getfield 28, 3) := by decide +kernel
theorem dT_eliminate_54 : decode bT_eliminate 54 = .ok (.iload_n 1, 1) := by decide +kernel
theorem dT_eliminate_55 : decode bT_eliminate 55 = .ok (.aaload, 1) := by decide +kernel
theorem dT_eliminate_56 : decode bT_eliminate 56 = .ok (.iload 8, 2) := by decide +kernel
theorem dT_eliminate_58 : decode bT_eliminate 58 = .ok (.laload, 1) := by decide +kernel
theorem dT_eliminate_59 : decode bT_eliminate 59 = .ok (.lload 4, 2) := by decide +kernel
theorem dT_eliminate_61 : decode bT_eliminate 61 = .ok (.lmul, 1) := by decide +kernel
theorem dT_eliminate_62 : decode bT_eliminate 62 = .ok (.lload 6, 2) := by decide +kernel
theorem dT_eliminate_64 : decode bT_eliminate 64 = .ok (.aload_n 0, 1) := by decide +kernel
theorem dT_eliminate_65 : decode bT_eliminate 65 = .ok (.getfield 28, 3) := by decide +kernel
theorem dT_eliminate_68 : decode bT_eliminate 68 = .ok (.iload_n 2, 1) := by decide +kernel
theorem dT_eliminate_69 : decode bT_eliminate 69 = .ok (.aaload, 1) := by decide +kernel
theorem dT_eliminate_70 : decode bT_eliminate 70 = .ok (.iload 8, 2) := by decide +kernel
theorem dT_eliminate_72 : decode bT_eliminate 72 = .ok (.laload, 1) := by decide +kernel
theorem dT_eliminate_73 : decode bT_eliminate 73 = .ok (.lmul, 1) := by decide +kernel
theorem dT_eliminate_74 : decode bT_eliminate 74 = .ok (.lsub, 1) := by decide +kernel
theorem dT_eliminate_75 : decode bT_eliminate 75 = .ok (.lstore 9, 2) := by decide +kernel
theorem dT_eliminate_77 : decode bT_eliminate 77 = .ok (.aload_n 0, 1) := by decide +kernel
theorem dT_eliminate_78 : decode bT_eliminate 78 = .ok (.getfield 28, 3) := by decide +kernel
theorem dT_eliminate_81 : decode bT_eliminate 81 = .ok (.iload_n 1, 1) := by decide +kernel
theorem dT_eliminate_82 : decode bT_eliminate 82 = .ok (.aaload, 1) := by decide +kernel
theorem dT_eliminate_83 : decode bT_eliminate 83 = .ok (.iload 8, 2) := by decide +kernel
theorem dT_eliminate_85 : decode bT_eliminate 85 = .ok (.lload 9, 2) := by decide +kernel
theorem dT_eliminate_87 : decode bT_eliminate 87 = .ok (.aload_n 0, 1) := by decide +kernel
theorem dT_eliminate_88 : decode bT_eliminate 88 = .ok (.getfield 15, 3) := by decide +kernel
theorem dT_eliminate_91 : decode bT_eliminate 91 = .ok (.ldiv, 1) := by decide +kernel
theorem dT_eliminate_92 : decode bT_eliminate 92 = .ok (.lastore, 1) := by decide +kernel
theorem dT_eliminate_93 : decode bT_eliminate 93 = .ok (.iinc 8 1, 3) := by decide +kernel
theorem dT_eliminate_96 : decode bT_eliminate 96 = .ok (.goto (-55), 3) := by decide +kernel
theorem dT_eliminate_99 : decode bT_eliminate 99 = .ok (.return_, 1) := by decide +kernel
theorem dT_isAllServed_0 : decode bT_isAllServed 0 = .ok (.iconst 2, 1) := by decide +kernel
theorem dT_isAllServed_1 : decode bT_isAllServed 1 = .ok (.istore_n 1, 1) := by decide +kernel
theorem dT_isAllServed_2 : decode bT_isAllServed 2 = .ok (.iload_n 1, 1) := by decide +kernel
theorem dT_isAllServed_3 : decode bT_isAllServed 3 = .ok (.aload_n 0, 1) := by decide +kernel
theorem dT_isAllServed_4 : decode bT_isAllServed 4 = .ok (.getfield 19, 3) := by decide +kernel
theorem dT_isAllServed_7 : decode bT_isAllServed 7 = .ok (.if_icmp .ge 33, 3) := by decide +kernel
theorem dT_isAllServed_10 : decode bT_isAllServed 10 = .ok (.aload_n 0, 1) := by decide +kernel
theorem dT_isAllServed_11 : decode bT_isAllServed 11 = .ok (.getfield 31, 3) := by decide +kernel
theorem dT_isAllServed_14 : decode bT_isAllServed 14 = .ok (.iload_n 1, 1) := by decide +kernel
theorem dT_isAllServed_15 : decode bT_isAllServed 15 = .ok (.iaload, 1) := by decide +kernel
theorem dT_isAllServed_16 : decode bT_isAllServed 16 = .ok (.ifCond .ge 18, 3) := by decide +kernel
theorem dT_isAllServed_19 : decode bT_isAllServed 19 = .ok (.aload_n 0, 1) := by decide +kernel
theorem dT_isAllServed_20 : decode bT_isAllServed 20 = .ok (.getfield 28, 3) := by decide +kernel
theorem dT_isAllServed_23 : decode bT_isAllServed 23 = .ok (.iload_n 1, 1) := by decide +kernel
theorem dT_isAllServed_24 : decode bT_isAllServed 24 = .ok (.aaload, 1) := by decide +kernel
theorem dT_isAllServed_25 : decode bT_isAllServed 25 = .ok (.iconst 0, 1) := by decide +kernel
theorem dT_isAllServed_26 : decode bT_isAllServed 26 = .ok (.laload, 1) := by decide +kernel
theorem dT_isAllServed_27 : decode bT_isAllServed 27 = .ok (.lconst 0, 1) := by decide +kernel
theorem dT_isAllServed_28 : decode bT_isAllServed 28 = .ok (.lcmp, 1) := by decide +kernel
theorem dT_isAllServed_29 : decode bT_isAllServed 29 = .ok (.ifCond .le 5, 3) := by decide +kernel
theorem dT_isAllServed_32 : decode bT_isAllServed 32 = .ok (.iconst 0, 1) := by decide +kernel
theorem dT_isAllServed_33 : decode bT_isAllServed 33 = .ok (.ireturn, 1) := by decide +kernel
theorem dT_isAllServed_34 : decode bT_isAllServed 34 = .ok (.iinc 1 1, 3) := by decide +kernel
theorem dT_isAllServed_37 : decode bT_isAllServed 37 = .ok (.goto (-35), 3) := by decide +kernel
theorem dT_isAllServed_40 : decode bT_isAllServed 40 = .ok (.iconst 1, 1) := by decide +kernel
theorem dT_isAllServed_41 : decode bT_isAllServed 41 = .ok (.ireturn, 1) := by decide +kernel
theorem dT_costTop_0 : decode bT_costTop 0 = .ok (.aload_n 0, 1) := by decide +kernel
theorem dT_costTop_1 : decode bT_costTop 1 = .ok (.getfield 28, 3) := by decide +kernel
theorem dT_costTop_4 : decode bT_costTop 4 = .ok (.iconst 0, 1) := by decide +kernel
theorem dT_costTop_5 : decode bT_costTop 5 = .ok (.aaload, 1) := by decide +kernel
theorem dT_costTop_6 : decode bT_costTop 6 = .ok (.iconst 0, 1) := by decide +kernel
theorem dT_costTop_7 : decode bT_costTop 7 = .ok (.laload, 1) := by decide +kernel
theorem dT_costTop_8 : decode bT_costTop 8 = .ok (.lneg, 1) := by decide +kernel
theorem dT_costTop_9 : decode bT_costTop 9 = .ok (.lreturn, 1) := by decide +kernel
theorem dT_costBottom_0 : decode bT_costBottom 0 = .ok (.aload_n 0, 1) := by decide +kernel
theorem dT_costBottom_1 : decode bT_costBottom 1 = .ok (.getfield 15, 3) := by decide +kernel
theorem dT_costBottom_4 : decode bT_costBottom 4 = .ok (.ldc2_w 76, 3) := by decide +kernel
theorem dT_costBottom_7 : decode bT_costBottom 7 = .ok (.lmul, 1) := by decide +kernel
theorem dT_costBottom_8 : decode bT_costBottom 8 = .ok (.lreturn, 1) := by decide +kernel
theorem dT_copy_0 : decode bT_copy 0 = .ok (.aload_n 0, 1) := by decide +kernel
theorem dT_copy_1 : decode bT_copy 1 = .ok (.aload_n 1, 1) := by decide +kernel
theorem dT_copy_2 : decode bT_copy 2 = .ok (.getfield 19, 3) := by decide +kernel
theorem dT_copy_5 : decode bT_copy 5 = .ok (.putfield 19, 3) := by decide +kernel
theorem dT_copy_8 : decode bT_copy 8 = .ok (.aload_n 0, 1) := by decide +kernel
theorem dT_copy_9 : decode bT_copy 9 = .ok (.aload_n 1, 1) := by decide +kernel
theorem dT_copy_10 : decode bT_copy 10 = .ok (.getfield 23, 3) := by decide +kernel
theorem dT_copy_13 : decode bT_copy 13 = .ok (.putfield 23, 3) := by decide +kernel
theorem dT_copy_16 : decode bT_copy 16 = .ok (.aload_n 0, 1) := by decide +kernel
theorem dT_copy_17 : decode bT_copy 17 = .ok (.aload_n 1, 1) := by decide +kernel
theorem dT_copy_18 : decode bT_copy 18 = .ok (.getfield 15, 3) := by decide +kernel
theorem dT_copy_21 : decode bT_copy 21 = .ok (.putfield 15, 3) := by decide +kernel
theorem dT_copy_24 : decode bT_copy 24 = .ok (.iconst 0, 1) := by decide +kernel
theorem dT_copy_25 : decode bT_copy 25 = .ok (.istore_n 2, 1) := by decide +kernel
theorem dT_copy_26 : decode bT_copy 26 = .ok (.iload_n 2, 1) := by decide +kernel
theorem dT_copy_27 : decode bT_copy 27 = .ok (.aload_n 0, 1) := by decide +kernel
theorem dT_copy_28 : decode bT_copy 28 = .ok (.getfield 19, 3) := by decide +kernel
theorem dT_copy_31 : decode bT_copy 31 = .ok (.if_icmp .ge 30, 3) := by decide +kernel
theorem dT_copy_34 : decode bT_copy 34 = .ok (.aload_n 1, 1) := by decide +kernel
theorem dT_copy_35 : decode bT_copy 35 = .ok (.getfield 28, 3) := by decide +kernel
theorem dT_copy_38 : decode bT_copy 38 = .ok (.iload_n 2, 1) := by decide +kernel
theorem dT_copy_39 : decode bT_copy 39 = .ok (.aaload, 1) := by decide +kernel
theorem dT_copy_40 : decode bT_copy 40 = .ok (.iconst 0, 1) := by decide +kernel
theorem dT_copy_41 : decode bT_copy 41 = .ok (.aload_n 0, 1) := by decide +kernel
theorem dT_copy_42 : decode bT_copy 42 = .ok (.getfield 28, 3) := by decide +kernel
theorem dT_copy_45 : decode bT_copy 45 = .ok (.iload_n 2, 1) := by decide +kernel
theorem dT_copy_46 : decode bT_copy 46 = .ok (.aaload, 1) := by decide +kernel
theorem dT_copy_47 : decode bT_copy 47 = .ok (.iconst 0, 1) := by decide +kernel
theorem dT_copy_48 : decode bT_copy 48 = .ok (.aload_n 0, 1) := by decide +kernel
theorem dT_copy_49 : decode bT_copy 49 = .ok (.getfield 23, 3) := by decide +kernel
theorem dT_copy_52 : decode bT_copy 52 = .ok (.invokestatic 80, 3) := by decide +kernel
theorem dT_copy_55 : decode bT_copy 55 = .ok (.iinc 2 1, 3) := by decide +kernel
theorem dT_copy_58 : decode bT_copy 58 = .ok (.goto (-32), 3) := by decide +kernel
theorem dT_copy_61 : decode bT_copy 61 = .ok (.aload_n 1, 1) := by decide +kernel
theorem dT_copy_62 : decode bT_copy 62 = .ok (.getfield 31, 3) := by decide +kernel
theorem dT_copy_65 : decode bT_copy 65 = .ok (.iconst 0, 1) := by decide +kernel
theorem dT_copy_66 : decode bT_copy 66 = .ok (.aload_n 0, 1) := by decide +kernel
theorem dT_copy_67 : decode bT_copy 67 = .ok (.getfield 31, 3) := by decide +kernel
theorem dT_copy_70 : decode bT_copy 70 = .ok (.iconst 0, 1) := by decide +kernel
theorem dT_copy_71 : decode bT_copy 71 = .ok (.aload_n 0, 1) := by decide +kernel
theorem dT_copy_72 : decode bT_copy 72 = .ok (.getfield 19, 3) := by decide +kernel
theorem dT_copy_75 : decode bT_copy 75 = .ok (.invokestatic 80, 3) := by decide +kernel
theorem dT_copy_78 : decode bT_copy 78 = .ok (.return_, 1) := by decide +kernel
theorem dT_favour_0 : decode bT_favour 0 = .ok (.aload_n 0, 1) := by decide +kernel
theorem dT_favour_1 : decode bT_favour 1 = .ok (.getfield 28, 3) := by decide +kernel
theorem dT_favour_4 : decode bT_favour 4 = .ok (.iconst 0, 1) := by decide +kernel
theorem dT_favour_5 : decode bT_favour 5 = .ok (.aaload, 1) := by decide +kernel
theorem dT_favour_6 : decode bT_favour 6 = .ok (.iload_n 1, 1) := by decide +kernel
theorem dT_favour_7 : decode bT_favour 7 = .ok (.dup2, 1) := by decide +kernel
theorem dT_favour_8 : decode bT_favour 8 = .ok (.laload, 1) := by decide +kernel
theorem dT_favour_9 : decode bT_favour 9 = .ok (.aload_n 0, 1) := by decide +kernel
theorem dT_favour_10 : decode bT_favour 10 = .ok (.getfield 15, 3) := by decide +kernel
theorem dT_favour_13 : decode bT_favour 13 = .ok (.lsub, 1) := by decide +kernel
theorem dT_favour_14 : decode bT_favour 14 = .ok (.lastore, 1) := by decide +kernel
theorem dT_favour_15 : decode bT_favour 15 = .ok (.aload_n 0, 1) := by decide +kernel
theorem dT_favour_16 : decode bT_favour 16 = .ok (.iload_n 1, 1) := by decide +kernel
theorem dT_favour_17 : decode bT_favour 17 = .ok (.invokevirtual 86, 3) := by decide +kernel
theorem dT_favour_20 : decode bT_favour 20 = .ok (.istore_n 2, 1) := by decide +kernel
theorem dT_favour_21 : decode bT_favour 21 = .ok (.iload_n 2, 1) := by decide +kernel
theorem dT_favour_22 : decode bT_favour 22 = .ok (.iconst (-1), 1) := by decide +kernel
theorem dT_favour_23 : decode bT_favour 23 = .ok (.if_icmp .eq 38, 3) := by decide +kernel
theorem dT_favour_26 : decode bT_favour 26 = .ok (.iconst 0, 1) := by decide +kernel
theorem dT_favour_27 : decode bT_favour 27 = .ok (.istore_n 3, 1) := by decide +kernel
theorem dT_favour_28 : decode bT_favour 28 = .ok (.iload_n 3, 1) := by decide +kernel
theorem dT_favour_29 : decode bT_favour 29 = .ok (.aload_n 0, 1) := by decide +kernel
theorem dT_favour_30 : decode bT_favour 30 = .ok (.getfield 23, 3) := by decide +kernel
theorem dT_favour_33 : decode bT_favour 33 = .ok (.if_icmp .ge 28, 3) := by decide +kernel
theorem dT_favour_36 : decode bT_favour 36 = .ok (.aload_n 0, 1) := by decide +kernel
theorem dT_favour_37 : decode bT_favour 37 = .ok (.getfield 28, 3) := by decide +kernel
theorem dT_favour_40 : decode bT_favour 40 = .ok (.iconst 0, 1) := by decide +kernel
theorem dT_favour_41 : decode bT_favour 41 = .ok (.aaload, 1) := by decide +kernel
theorem dT_favour_42 : decode bT_favour 42 = .ok (.iload_n 3, 1) := by decide +kernel
theorem dT_favour_43 : decode bT_favour 43 = .ok (.dup2, 1) := by decide +kernel
theorem dT_favour_44 : decode bT_favour 44 = .ok (.laload, 1) := by decide +kernel
theorem dT_favour_45 : decode bT_favour 45 = .ok (.aload_n 0, 1) := by decide +kernel
theorem dT_favour_46 : decode bT_favour 46 = .ok (.getfield 28, 3) := by decide +kernel
theorem dT_favour_49 : decode bT_favour 49 = .ok (.iload_n 2, 1) := by decide +kernel
theorem dT_favour_50 : decode bT_favour 50 = .ok (.aaload, 1) := by decide +kernel
theorem dT_favour_51 : decode bT_favour 51 = .ok (.iload_n 3, 1) := by decide +kernel
theorem dT_favour_52 : decode bT_favour 52 = .ok (.laload, 1) := by decide +kernel
theorem dT_favour_53 : decode bT_favour 53 = .ok (.ladd, 1) := by decide +kernel
theorem dT_favour_54 : decode bT_favour 54 = .ok (.lastore, 1) := by decide +kernel
theorem dT_favour_55 : decode bT_favour 55 = .ok (.iinc 3 1, 3) := by decide +kernel
theorem dT_favour_58 : decode bT_favour 58 = .ok (.goto (-30), 3) := by decide +kernel
theorem dT_favour_61 : decode bT_favour 61 = .ok (.return_, 1) := by decide +kernel
theorem dT_rowOf_0 : decode bT_rowOf 0 = .ok (.iconst 1, 1) := by decide +kernel
theorem dT_rowOf_1 : decode bT_rowOf 1 = .ok (.istore_n 2, 1) := by decide +kernel
theorem dT_rowOf_2 : decode bT_rowOf 2 = .ok (.iload_n 2, 1) := by decide +kernel
theorem dT_rowOf_3 : decode bT_rowOf 3 = .ok (.aload_n 0, 1) := by decide +kernel
theorem dT_rowOf_4 : decode bT_rowOf 4 = .ok (.getfield 19, 3) := by decide +kernel
theorem dT_rowOf_7 : decode bT_rowOf 7 = .ok (.if_icmp .ge 21, 3) := by decide +kernel
theorem dT_rowOf_10 : decode bT_rowOf 10 = .ok (.aload_n 0, 1) := by decide +kernel
theorem dT_rowOf_11 : decode bT_rowOf 11 = .ok (.getfield 31, 3) := by decide +kernel
theorem dT_rowOf_14 : decode bT_rowOf 14 = .ok (.iload_n 2, 1) := by decide +kernel
theorem dT_rowOf_15 : decode bT_rowOf 15 = .ok (.iaload, 1) := by decide +kernel
theorem dT_rowOf_16 : decode bT_rowOf 16 = .ok (.iload_n 1, 1) := by decide +kernel
theorem dT_rowOf_17 : decode bT_rowOf 17 = .ok (.if_icmp .ne 5, 3) := by decide +kernel
theorem dT_rowOf_20 : decode bT_rowOf 20 = .ok (.iload_n 2, 1) := by decide +kernel
theorem dT_rowOf_21 : decode bT_rowOf 21 = .ok (.ireturn, 1) := by decide +kernel
theorem dT_rowOf_22 : decode bT_rowOf 22 = .ok (.iinc 2 1, 3) := by decide +kernel
theorem dT_rowOf_25 : decode bT_rowOf 25 = .ok (.goto (-23), 3) := by decide +kernel
theorem dT_rowOf_28 : decode bT_rowOf 28 = .ok (.iconst (-1), 1) := by decide +kernel
theorem dT_rowOf_29 : decode bT_rowOf 29 = .ok (.ireturn, 1) := by decide +kernel
theorem dT_amountTop_0 : decode bT_amountTop 0 = .ok (.aload_n 0, 1) := by decide +kernel
theorem dT_amountTop_1 : decode bT_amountTop 1 = .ok (.iload_n 1, 1) := by decide +kernel
theorem dT_amountTop_2 : decode bT_amountTop 2 = .ok (.invokevirtual 86, 3) := by decide +kernel
theorem dT_amountTop_5 : decode bT_amountTop 5 = .ok (.istore_n 2, 1) := by decide +kernel
theorem dT_amountTop_6 : decode bT_amountTop 6 = .ok (.iload_n 2, 1) := by decide +kernel
theorem dT_amountTop_7 : decode bT_amountTop 7 = .ok (.iconst (-1), 1) := by decide +kernel
theorem dT_amountTop_8 : decode bT_amountTop 8 = .ok (.if_icmp .ne 7, 3) := by decide +kernel
theorem dT_amountTop_11 : decode bT_amountTop 11 = .ok (.lconst 0, 1) := by decide +kernel
theorem dT_amountTop_12 : decode bT_amountTop 12 = .ok (.goto 11, 3) := by decide +kernel
theorem dT_amountTop_15 : decode bT_amountTop 15 = .ok (.aload_n 0, 1) := by decide +kernel
theorem dT_amountTop_16 : decode bT_amountTop 16 = .ok (.getfield 28, 3) := by decide +kernel
theorem dT_amountTop_19 : decode bT_amountTop 19 = .ok (.iload_n 2, 1) := by decide +kernel
theorem dT_amountTop_20 : decode bT_amountTop 20 = .ok (.aaload, 1) := by decide +kernel
theorem dT_amountTop_21 : decode bT_amountTop 21 = .ok (.iconst 0, 1) := by decide +kernel
theorem dT_amountTop_22 : decode bT_amountTop 22 = .ok (.laload, 1) := by decide +kernel
theorem dT_amountTop_23 : decode bT_amountTop 23 = .ok (.lreturn, 1) := by decide +kernel
theorem dJA_fill_0 : decode bJA_fill 0 = .ok (.iconst 0, 1) := by decide +kernel
theorem dJA_fill_1 : decode bJA_fill 1 = .ok (.istore_n 2, 1) := by decide +kernel
theorem dJA_fill_2 : decode bJA_fill 2 = .ok (.aload_n 0, 1) := by decide +kernel
theorem dJA_fill_3 : decode bJA_fill 3 = .ok (.arraylength, 1) := by decide +kernel
theorem dJA_fill_4 : decode bJA_fill 4 = .ok (.istore_n 3, 1) := by decide +kernel
theorem dJA_fill_5 : decode bJA_fill 5 = .ok (.iload_n 2, 1) := by decide +kernel
theorem dJA_fill_6 : decode bJA_fill 6 = .ok (.iload_n 3, 1) := by decide +kernel
theorem dJA_fill_7 : decode bJA_fill 7 = .ok (.if_icmp .ge 13, 3) := by decide +kernel
theorem dJA_fill_10 : decode bJA_fill 10 = .ok (.aload_n 0, 1) := by decide +kernel
theorem dJA_fill_11 : decode bJA_fill 11 = .ok (.iload_n 2, 1) := by decide +kernel
theorem dJA_fill_12 : decode bJA_fill 12 = .ok (.iload_n 1, 1) := by decide +kernel
theorem dJA_fill_13 : decode bJA_fill 13 = .ok (.iastore, 1) := by decide +kernel
theorem dJA_fill_14 : decode bJA_fill 14 = .ok (.iinc 2 1, 3) := by decide +kernel
theorem dJA_fill_17 : decode bJA_fill 17 = .ok (.goto (-12), 3) := by decide +kernel
theorem dJA_fill_20 : decode bJA_fill 20 = .ok (.return_, 1) := by decide +kernel
theorem dJI_bitCount_0 : decode bJI_bitCount 0 = .ok (.iload_n 0, 1) := by decide +kernel
theorem dJI_bitCount_1 : decode bJI_bitCount 1 = .ok (.iload_n 0, 1) := by decide +kernel
theorem dJI_bitCount_2 : decode bJI_bitCount 2 = .ok (.iconst 1, 1) := by decide +kernel
theorem dJI_bitCount_3 : decode bJI_bitCount 3 = .ok (.iushr, 1) := by decide +kernel
theorem dJI_bitCount_4 : decode bJI_bitCount 4 = .ok (.ldc_w 265, 3) := by decide +kernel
theorem dJI_bitCount_7 : decode bJI_bitCount 7 = .ok (.iand, 1) := by decide +kernel
theorem dJI_bitCount_8 : decode bJI_bitCount 8 = .ok (.isub, 1) := by decide +kernel
theorem dJI_bitCount_9 : decode bJI_bitCount 9 = .ok (.istore_n 0, 1) := by decide +kernel
theorem dJI_bitCount_10 : decode bJI_bitCount 10 = .ok (.iload_n 0, 1) := by decide +kernel
theorem dJI_bitCount_11 : decode bJI_bitCount 11 = .ok (.ldc_w 266, 3) := by decide +kernel
theorem dJI_bitCount_14 : decode bJI_bitCount 14 = .ok (.iand, 1) := by decide +kernel
theorem dJI_bitCount_15 : decode bJI_bitCount 15 = .ok (.iload_n 0, 1) := by decide +kernel
theorem dJI_bitCount_16 : decode bJI_bitCount 16 = .ok (.iconst 2, 1) := by decide +kernel
theorem dJI_bitCount_17 : decode bJI_bitCount 17 = .ok (.iushr, 1) := by decide +kernel
theorem dJI_bitCount_18 : decode bJI_bitCount 18 = .ok (.ldc_w 266, 3) := by decide +kernel
theorem dJI_bitCount_21 : decode bJI_bitCount 21 = .ok (.iand, 1) := by decide +kernel
theorem dJI_bitCount_22 : decode bJI_bitCount 22 = .ok (.iadd, 1) := by decide +kernel
theorem dJI_bitCount_23 : decode bJI_bitCount 23 = .ok (.istore_n 0, 1) := by decide +kernel
theorem dJI_bitCount_24 : decode bJI_bitCount 24 = .ok (.iload_n 0, 1) := by decide +kernel
theorem dJI_bitCount_25 : decode bJI_bitCount 25 = .ok (.iload_n 0, 1) := by decide +kernel
theorem dJI_bitCount_26 : decode bJI_bitCount 26 = .ok (.iconst 4, 1) := by decide +kernel
theorem dJI_bitCount_27 : decode bJI_bitCount 27 = .ok (.iushr, 1) := by decide +kernel
theorem dJI_bitCount_28 : decode bJI_bitCount 28 = .ok (.iadd, 1) := by decide +kernel
theorem dJI_bitCount_29 : decode bJI_bitCount 29 = .ok (.ldc_w 267, 3) := by decide +kernel
theorem dJI_bitCount_32 : decode bJI_bitCount 32 = .ok (.iand, 1) := by decide +kernel
theorem dJI_bitCount_33 : decode bJI_bitCount 33 = .ok (.istore_n 0, 1) := by decide +kernel
theorem dJI_bitCount_34 : decode bJI_bitCount 34 = .ok (.iload_n 0, 1) := by decide +kernel
theorem dJI_bitCount_35 : decode bJI_bitCount 35 = .ok (.iload_n 0, 1) := by decide +kernel
theorem dJI_bitCount_36 : decode bJI_bitCount 36 = .ok (.bipush 8, 2) := by decide +kernel
theorem dJI_bitCount_38 : decode bJI_bitCount 38 = .ok (.iushr, 1) := by decide +kernel
theorem dJI_bitCount_39 : decode bJI_bitCount 39 = .ok (.iadd, 1) := by decide +kernel
theorem dJI_bitCount_40 : decode bJI_bitCount 40 = .ok (.istore_n 0, 1) := by decide +kernel
theorem dJI_bitCount_41 : decode bJI_bitCount 41 = .ok (.iload_n 0, 1) := by decide +kernel
theorem dJI_bitCount_42 : decode bJI_bitCount 42 = .ok (.iload_n 0, 1) := by decide +kernel
theorem dJI_bitCount_43 : decode bJI_bitCount 43 = .ok (.bipush 16, 2) := by decide +kernel
theorem dJI_bitCount_45 : decode bJI_bitCount 45 = .ok (.iushr, 1) := by decide +kernel
theorem dJI_bitCount_46 : decode bJI_bitCount 46 = .ok (.iadd, 1) := by decide +kernel
theorem dJI_bitCount_47 : decode bJI_bitCount 47 = .ok (.istore_n 0, 1) := by decide +kernel
theorem dJI_bitCount_48 : decode bJI_bitCount 48 = .ok (.iload_n 0, 1) := by decide +kernel
theorem dJI_bitCount_49 : decode bJI_bitCount 49 = .ok (.bipush 63, 2) := by decide +kernel
theorem dJI_bitCount_51 : decode bJI_bitCount 51 = .ok (.iand, 1) := by decide +kernel
theorem dJI_bitCount_52 : decode bJI_bitCount 52 = .ok (.ireturn, 1) := by decide +kernel
theorem dJM_abs_0 : decode bJM_abs 0 = .ok (.lload_n 0, 1) := by decide +kernel
theorem dJM_abs_1 : decode bJM_abs 1 = .ok (.lconst 0, 1) := by decide +kernel
theorem dJM_abs_2 : decode bJM_abs 2 = .ok (.lcmp, 1) := by decide +kernel
theorem dJM_abs_3 : decode bJM_abs 3 = .ok (.ifCond .ge 8, 3) := by decide +kernel
theorem dJM_abs_6 : decode bJM_abs 6 = .ok (.lload_n 0, 1) := by decide +kernel
theorem dJM_abs_7 : decode bJM_abs 7 = .ok (.lneg, 1) := by decide +kernel
theorem dJM_abs_8 : decode bJM_abs 8 = .ok (.goto 4, 3) := by decide +kernel
theorem dJM_abs_11 : decode bJM_abs 11 = .ok (.lload_n 0, 1) := by decide +kernel
theorem dJM_abs_12 : decode bJM_abs 12 = .ok (.lreturn, 1) := by decide +kernel
theorem dJS_init_0 : decode bJS_init 0 = .ok (.aload_n 0, 1) := by decide +kernel
theorem dJS_init_1 : decode bJS_init 1 = .ok (.aload_n 1, 1) := by decide +kernel
theorem dJS_init_2 : decode bJS_init 2 = .ok (.invokespecial 7, 3) := by decide +kernel
theorem dJS_init_5 : decode bJS_init 5 = .ok (.return_, 1) := by decide +kernel
theorem dJR_init_0 : decode bJR_init 0 = .ok (.aload_n 0, 1) := by decide +kernel
theorem dJR_init_1 : decode bJR_init 1 = .ok (.aload_n 1, 1) := by decide +kernel
theorem dJR_init_2 : decode bJR_init 2 = .ok (.invokespecial 7, 3) := by decide +kernel
theorem dJR_init_5 : decode bJR_init 5 = .ok (.return_, 1) := by decide +kernel
theorem dJE_init_0 : decode bJE_init 0 = .ok (.aload_n 0, 1) := by decide +kernel
theorem dJE_init_1 : decode bJE_init 1 = .ok (.aload_n 1, 1) := by decide +kernel
theorem dJE_init_2 : decode bJE_init 2 = .ok (.invokespecial 7, 3) := by decide +kernel
theorem dJE_init_5 : decode bJE_init 5 = .ok (.return_, 1) := by decide +kernel
theorem dJT_init_0 : decode bJT_init 0 = .ok (.aload_n 0, 1) := by decide +kernel
theorem dJT_init_1 : decode bJT_init 1 = .ok (.invokespecial 1, 3) := by decide +kernel
theorem dJT_init_4 : decode bJT_init 4 = .ok (.aload_n 0, 1) := by decide +kernel
theorem dJT_init_5 : decode bJT_init 5 = .ok (.aload_n 0, 1) := by decide +kernel
theorem dJT_init_6 : decode bJT_init 6 = .ok (.putfield 7, 3) := by decide +kernel
theorem dJT_init_9 : decode bJT_init 9 = .ok (.aload_n 0, 1) := by decide +kernel
theorem dJT_init_10 : decode bJT_init 10 = .ok (.getstatic 13, 3) := by decide +kernel
theorem dJT_init_13 : decode bJT_init 13 = .ok (.putfield 17, 3) := by decide +kernel
theorem dJT_init_16 : decode bJT_init 16 = .ok (.aload_n 0, 1) := by decide +kernel
theorem dJT_init_17 : decode bJT_init 17 = .ok (.getstatic 20, 3) := by decide +kernel
theorem dJT_init_20 : decode bJT_init 20 = .ok (.putfield 24, 3) := by decide +kernel
theorem dJT_init_23 : decode bJT_init 23 = .ok (.aload_n 0, 1) := by decide +kernel
theorem dJT_init_24 : decode bJT_init 24 = .ok (.invokevirtual 27, 3) := by decide +kernel
theorem dJT_init_27 : decode bJT_init 27 = .ok (.pop, 1) := by decide +kernel
theorem dJT_init_28 : decode bJT_init 28 = .ok (.return_, 1) := by decide +kernel
theorem dJT_init_b_0 : decode bJT_init_b 0 = .ok (.aload_n 0, 1) := by decide +kernel
theorem dJT_init_b_1 : decode bJT_init_b 1 = .ok (.invokespecial 1, 3) := by decide +kernel
theorem dJT_init_b_4 : decode bJT_init_b 4 = .ok (.aload_n 0, 1) := by decide +kernel
theorem dJT_init_b_5 : decode bJT_init_b 5 = .ok (.aload_n 0, 1) := by decide +kernel
theorem dJT_init_b_6 : decode bJT_init_b 6 = .ok (.putfield 7, 3) := by decide +kernel
theorem dJT_init_b_9 : decode bJT_init_b 9 = .ok (.aload_n 0, 1) := by decide +kernel
theorem dJT_init_b_10 : decode bJT_init_b 10 = .ok (.getstatic 13, 3) := by decide +kernel
theorem dJT_init_b_13 : decode bJT_init_b 13 = .ok (.putfield 17, 3) := by decide +kernel
theorem dJT_init_b_16 : decode bJT_init_b 16 = .ok (.aload_n 0, 1) := by decide +kernel
theorem dJT_init_b_17 : decode bJT_init_b 17 = .ok (.getstatic 20, 3) := by decide +kernel
theorem dJT_init_b_20 : decode bJT_init_b 20 = .ok (.putfield 24, 3) := by decide +kernel
theorem dJT_init_b_23 : decode bJT_init_b 23 = .ok (.aload_n 0, 1) := by decide +kernel
theorem dJT_init_b_24 : decode bJT_init_b 24 = .ok (.invokevirtual 27, 3) := by decide +kernel
theorem dJT_init_b_27 : decode bJT_init_b 27 = .ok (.pop, 1) := by decide +kernel
theorem dJT_init_b_28 : decode bJT_init_b 28 = .ok (.aload_n 0, 1) := by decide +kernel
theorem dJT_init_b_29 : decode bJT_init_b 29 = .ok (.aload_n 1, 1) := by decide +kernel
theorem dJT_init_b_30 : decode bJT_init_b 30 = .ok (.putfield 31, 3) := by decide +kernel
theorem dJT_init_b_33 : decode bJT_init_b 33 = .ok (.return_, 1) := by decide +kernel
