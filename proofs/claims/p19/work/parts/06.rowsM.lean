/-! decode rows of the reference -/
theorem dM_init_0 : decode bM_init 0 = .ok (.aload_n 0, 1) := by decide +kernel
theorem dM_init_1 : decode bM_init 1 = .ok (.invokespecial 1, 3) := by decide +kernel
theorem dM_init_4 : decode bM_init 4 = .ok (.aload_n 0, 1) := by decide +kernel
theorem dM_init_5 : decode bM_init 5 = .ok (.bipush 6, 2) := by decide +kernel
theorem dM_init_7 : decode bM_init 7 = .ok (.newarray .int, 2) := by decide +kernel
theorem dM_init_9 : decode bM_init 9 = .ok (.putfield 7, 3) := by decide +kernel
theorem dM_init_12 : decode bM_init 12 = .ok (.aload_n 0, 1) := by decide +kernel
theorem dM_init_13 : decode bM_init 13 = .ok (.bipush 6, 2) := by decide +kernel
theorem dM_init_15 : decode bM_init 15 = .ok (.newarray .int, 2) := by decide +kernel
theorem dM_init_17 : decode bM_init 17 = .ok (.putfield 13, 3) := by decide +kernel
theorem dM_init_20 : decode bM_init 20 = .ok (.aload_n 0, 1) := by decide +kernel
theorem dM_init_21 : decode bM_init 21 = .ok (.bipush 49, 2) := by decide +kernel
theorem dM_init_23 : decode bM_init 23 = .ok (.newarray .int, 2) := by decide +kernel
theorem dM_init_25 : decode bM_init 25 = .ok (.putfield 16, 3) := by decide +kernel
theorem dM_init_28 : decode bM_init 28 = .ok (.aload_n 0, 1) := by decide +kernel
theorem dM_init_29 : decode bM_init 29 = .ok (.bipush 49, 2) := by decide +kernel
theorem dM_init_31 : decode bM_init 31 = .ok (.newarray .int, 2) := by decide +kernel
theorem dM_init_33 : decode bM_init 33 = .ok (.putfield 19, 3) := by decide +kernel
theorem dM_init_36 : decode bM_init 36 = .ok (.aload_n 0, 1) := by decide +kernel
theorem dM_init_37 : decode bM_init 37 = .ok (.bipush 36, 2) := by decide +kernel
theorem dM_init_39 : decode bM_init 39 = .ok (.newarray .int, 2) := by decide +kernel
theorem dM_init_41 : decode bM_init 41 = .ok (.putfield 22, 3) := by decide +kernel
theorem dM_init_44 : decode bM_init 44 = .ok (.aload_n 0, 1) := by decide +kernel
theorem dM_init_45 : decode bM_init 45 = .ok (.bipush 6, 2) := by decide +kernel
theorem dM_init_47 : decode bM_init 47 = .ok (.newarray .int, 2) := by decide +kernel
theorem dM_init_49 : decode bM_init 49 = .ok (.putfield 25, 3) := by decide +kernel
theorem dM_init_52 : decode bM_init 52 = .ok (.aload_n 0, 1) := by decide +kernel
theorem dM_init_53 : decode bM_init 53 = .ok (.sipush 384, 3) := by decide +kernel
theorem dM_init_56 : decode bM_init 56 = .ok (.newarray .boolean, 2) := by decide +kernel
theorem dM_init_58 : decode bM_init 58 = .ok (.putfield 28, 3) := by decide +kernel
theorem dM_init_61 : decode bM_init 61 = .ok (.aload_n 0, 1) := by decide +kernel
theorem dM_init_62 : decode bM_init 62 = .ok (.sipush 384, 3) := by decide +kernel
theorem dM_init_65 : decode bM_init 65 = .ok (.newarray .boolean, 2) := by decide +kernel
theorem dM_init_67 : decode bM_init 67 = .ok (.putfield 32, 3) := by decide +kernel
theorem dM_init_70 : decode bM_init 70 = .ok (.aload_n 0, 1) := by decide +kernel
theorem dM_init_71 : decode bM_init 71 = .ok (.bipush 64, 2) := by decide +kernel
theorem dM_init_73 : decode bM_init 73 = .ok (.newarray .int, 2) := by decide +kernel
theorem dM_init_75 : decode bM_init 75 = .ok (.putfield 35, 3) := by decide +kernel
theorem dM_init_78 : decode bM_init 78 = .ok (.aload_n 0, 1) := by decide +kernel
theorem dM_init_79 : decode bM_init 79 = .ok (.sipush 384, 3) := by decide +kernel
theorem dM_init_82 : decode bM_init 82 = .ok (.newarray .int, 2) := by decide +kernel
theorem dM_init_84 : decode bM_init 84 = .ok (.putfield 38, 3) := by decide +kernel
theorem dM_init_87 : decode bM_init 87 = .ok (.aload_n 0, 1) := by decide +kernel
theorem dM_init_88 : decode bM_init 88 = .ok (.bipush 64, 2) := by decide +kernel
theorem dM_init_90 : decode bM_init 90 = .ok (.newarray .boolean, 2) := by decide +kernel
theorem dM_init_92 : decode bM_init 92 = .ok (.putfield 41, 3) := by decide +kernel
theorem dM_init_95 : decode bM_init 95 = .ok (.aload_n 0, 1) := by decide +kernel
theorem dM_init_96 : decode bM_init 96 = .ok (.bipush 6, 2) := by decide +kernel
theorem dM_init_98 : decode bM_init 98 = .ok (.newarray .int, 2) := by decide +kernel
theorem dM_init_100 : decode bM_init 100 = .ok (.putfield 44, 3) := by decide +kernel
theorem dM_init_103 : decode bM_init 103 = .ok (.aload_n 0, 1) := by decide +kernel
theorem dM_init_104 : decode bM_init 104 = .ok (.sipush 384, 3) := by decide +kernel
theorem dM_init_107 : decode bM_init 107 = .ok (.newarray .boolean, 2) := by decide +kernel
theorem dM_init_109 : decode bM_init 109 = .ok (.putfield 47, 3) := by decide +kernel
theorem dM_init_112 : decode bM_init 112 = .ok (.aload_n 0, 1) := by decide +kernel
theorem dM_init_113 : decode bM_init 113 = .ok (.sipush 384, 3) := by decide +kernel
theorem dM_init_116 : decode bM_init 116 = .ok (.newarray .boolean, 2) := by decide +kernel
theorem dM_init_118 : decode bM_init 118 = .ok (.putfield 50, 3) := by decide +kernel
theorem dM_init_121 : decode bM_init 121 = .ok (.aload_n 0, 1) := by decide +kernel
theorem dM_init_122 : decode bM_init 122 = .ok (.bipush 64, 2) := by decide +kernel
theorem dM_init_124 : decode bM_init 124 = .ok (.newarray .int, 2) := by decide +kernel
theorem dM_init_126 : decode bM_init 126 = .ok (.putfield 53, 3) := by decide +kernel
theorem dM_init_129 : decode bM_init 129 = .ok (.aload_n 0, 1) := by decide +kernel
theorem dM_init_130 : decode bM_init 130 = .ok (.sipush 384, 3) := by decide +kernel
theorem dM_init_133 : decode bM_init 133 = .ok (.newarray .int, 2) := by decide +kernel
theorem dM_init_135 : decode bM_init 135 = .ok (.putfield 56, 3) := by decide +kernel
theorem dM_init_138 : decode bM_init 138 = .ok (.aload_n 0, 1) := by decide +kernel
theorem dM_init_139 : decode bM_init 139 = .ok (.sipush 576, 3) := by decide +kernel
theorem dM_init_142 : decode bM_init 142 = .ok (.newarray .long, 2) := by decide +kernel
theorem dM_init_144 : decode bM_init 144 = .ok (.putfield 59, 3) := by decide +kernel
theorem dM_init_147 : decode bM_init 147 = .ok (.aload_n 0, 1) := by decide +kernel
theorem dM_init_148 : decode bM_init 148 = .ok (.sipush 576, 3) := by decide +kernel
theorem dM_init_151 : decode bM_init 151 = .ok (.newarray .long, 2) := by decide +kernel
theorem dM_init_153 : decode bM_init 153 = .ok (.putfield 63, 3) := by decide +kernel
theorem dM_init_156 : decode bM_init 156 = .ok (.aload_n 0, 1) := by decide +kernel
theorem dM_init_157 : decode bM_init 157 = .ok (.bipush 7, 2) := by decide +kernel
theorem dM_init_159 : decode bM_init 159 = .ok (.newarray .int, 2) := by decide +kernel
theorem dM_init_161 : decode bM_init 161 = .ok (.putfield 66, 3) := by decide +kernel
theorem dM_init_164 : decode bM_init 164 = .ok (.aload_n 0, 1) := by decide +kernel
theorem dM_init_165 : decode bM_init 165 = .ok (.bipush 64, 2) := by decide +kernel
theorem dM_init_167 : decode bM_init 167 = .ok (.newarray .boolean, 2) := by decide +kernel
theorem dM_init_169 : decode bM_init 169 = .ok (.putfield 69, 3) := by decide +kernel
theorem dM_init_172 : decode bM_init 172 = .ok (.iconst 0, 1) := by decide +kernel
theorem dM_init_173 : decode bM_init 173 = .ok (.istore_n 1, 1) := by decide +kernel
theorem dM_init_174 : decode bM_init 174 = .ok (.iload_n 1, 1) := by decide +kernel
theorem dM_init_175 : decode bM_init 175 = .ok (.bipush 49, 2) := by decide +kernel
theorem dM_init_177 : decode bM_init 177 = .ok (.if_icmp .ge 16, 3) := by decide +kernel
theorem dM_init_180 : decode bM_init 180 = .ok (.aload_n 0, 1) := by decide +kernel
theorem dM_init_181 : decode bM_init 181 = .ok (.getfield 16, 3) := by decide +kernel
theorem dM_init_184 : decode bM_init 184 = .ok (.iload_n 1, 1) := by decide +kernel
theorem dM_init_185 : decode bM_init 185 = .ok (.iconst (-1), 1) := by decide +kernel
theorem dM_init_186 : decode bM_init 186 = .ok (.iastore, 1) := by decide +kernel
theorem dM_init_187 : decode bM_init 187 = .ok (.iinc 1 1, 3) := by decide +kernel
theorem dM_init_190 : decode bM_init 190 = .ok (.goto (-16), 3) := by decide +kernel
theorem dM_init_193 : decode bM_init 193 = .ok (.iconst 0, 1) := by decide +kernel
theorem dM_init_194 : decode bM_init 194 = .ok (.istore_n 1, 1) := by decide +kernel
theorem dM_init_195 : decode bM_init 195 = .ok (.iload_n 1, 1) := by decide +kernel
theorem dM_init_196 : decode bM_init 196 = .ok (.bipush 64, 2) := by decide +kernel
theorem dM_init_198 : decode bM_init 198 = .ok (.if_icmp .ge 16, 3) := by decide +kernel
theorem dM_init_201 : decode bM_init 201 = .ok (.aload_n 0, 1) := by decide +kernel
theorem dM_init_202 : decode bM_init 202 = .ok (.getfield 35, 3) := by decide +kernel
theorem dM_init_205 : decode bM_init 205 = .ok (.iload_n 1, 1) := by decide +kernel
theorem dM_init_206 : decode bM_init 206 = .ok (.iconst (-1), 1) := by decide +kernel
theorem dM_init_207 : decode bM_init 207 = .ok (.iastore, 1) := by decide +kernel
theorem dM_init_208 : decode bM_init 208 = .ok (.iinc 1 1, 3) := by decide +kernel
theorem dM_init_211 : decode bM_init 211 = .ok (.goto (-16), 3) := by decide +kernel
theorem dM_init_214 : decode bM_init 214 = .ok (.return_, 1) := by decide +kernel
theorem dM_bin_0 : decode bM_bin 0 = .ok (.aload_n 0, 1) := by decide +kernel
theorem dM_bin_1 : decode bM_bin 1 = .ok (.iconst 0, 1) := by decide +kernel
theorem dM_bin_2 : decode bM_bin 2 = .ok (.putfield 72, 3) := by decide +kernel
theorem dM_bin_5 : decode bM_bin 5 = .ok (.aload_n 0, 1) := by decide +kernel
theorem dM_bin_6 : decode bM_bin 6 = .ok (.getfield 76, 3) := by decide +kernel
theorem dM_bin_9 : decode bM_bin 9 = .ok (.bipush 6, 2) := by decide +kernel
theorem dM_bin_11 : decode bM_bin 11 = .ok (.if_icmp .eq 24, 3) := by decide +kernel
theorem dM_bin_14 : decode bM_bin 14 = .ok (.lload_n 1, 1) := by decide +kernel
theorem dM_bin_15 : decode bM_bin 15 = .ok (.ldc2_w 79, 3) := by decide +kernel
theorem dM_bin_18 : decode bM_bin 18 = .ok (.invokestatic 81, 3) := by decide +kernel
theorem dM_bin_21 : decode bM_bin 21 = .ok (.ifCond .eq 14, 3) := by decide +kernel
theorem dM_bin_24 : decode bM_bin 24 = .ok (.iload_n 3, 1) := by decide +kernel
theorem dM_bin_25 : decode bM_bin 25 = .ok (.i2l, 1) := by decide +kernel
theorem dM_bin_26 : decode bM_bin 26 = .ok (.ldc2_w 79, 3) := by decide +kernel
theorem dM_bin_29 : decode bM_bin 29 = .ok (.invokestatic 81, 3) := by decide +kernel
theorem dM_bin_32 : decode bM_bin 32 = .ok (.ifCond .ne 5, 3) := by decide +kernel
theorem dM_bin_35 : decode bM_bin 35 = .ok (.iconst (-1), 1) := by decide +kernel
theorem dM_bin_36 : decode bM_bin 36 = .ok (.ireturn, 1) := by decide +kernel
theorem dM_bin_37 : decode bM_bin 37 = .ok (.aload_n 0, 1) := by decide +kernel
theorem dM_bin_38 : decode bM_bin 38 = .ok (.getfield 7, 3) := by decide +kernel
theorem dM_bin_41 : decode bM_bin 41 = .ok (.aload_n 0, 1) := by decide +kernel
theorem dM_bin_42 : decode bM_bin 42 = .ok (.getfield 76, 3) := by decide +kernel
theorem dM_bin_45 : decode bM_bin 45 = .ok (.lload_n 1, 1) := by decide +kernel
theorem dM_bin_46 : decode bM_bin 46 = .ok (.l2i, 1) := by decide +kernel
theorem dM_bin_47 : decode bM_bin 47 = .ok (.iastore, 1) := by decide +kernel
theorem dM_bin_48 : decode bM_bin 48 = .ok (.aload_n 0, 1) := by decide +kernel
theorem dM_bin_49 : decode bM_bin 49 = .ok (.getfield 13, 3) := by decide +kernel
theorem dM_bin_52 : decode bM_bin 52 = .ok (.aload_n 0, 1) := by decide +kernel
theorem dM_bin_53 : decode bM_bin 53 = .ok (.getfield 76, 3) := by decide +kernel
theorem dM_bin_56 : decode bM_bin 56 = .ok (.iload_n 3, 1) := by decide +kernel
theorem dM_bin_57 : decode bM_bin 57 = .ok (.iastore, 1) := by decide +kernel
theorem dM_bin_58 : decode bM_bin 58 = .ok (.aload_n 0, 1) := by decide +kernel
theorem dM_bin_59 : decode bM_bin 59 = .ok (.dup, 1) := by decide +kernel
theorem dM_bin_60 : decode bM_bin 60 = .ok (.getfield 76, 3) := by decide +kernel
theorem dM_bin_63 : decode bM_bin 63 = .ok (.iconst 1, 1) := by decide +kernel
theorem dM_bin_64 : decode bM_bin 64 = .ok (.iadd, 1) := by decide +kernel
theorem dM_bin_65 : decode bM_bin 65 = .ok (.putfield 76, 3) := by decide +kernel
theorem dM_bin_68 : decode bM_bin 68 = .ok (.aload_n 0, 1) := by decide +kernel
theorem dM_bin_69 : decode bM_bin 69 = .ok (.getfield 76, 3) := by decide +kernel
theorem dM_bin_72 : decode bM_bin 72 = .ok (.iconst 1, 1) := by decide +kernel
theorem dM_bin_73 : decode bM_bin 73 = .ok (.isub, 1) := by decide +kernel
theorem dM_bin_74 : decode bM_bin 74 = .ok (.ireturn, 1) := by decide +kernel
theorem dM_isIn_0 : decode bM_isIn 0 = .ok (.lload_n 0, 1) := by decide +kernel
theorem dM_isIn_1 : decode bM_isIn 1 = .ok (.lconst 0, 1) := by decide +kernel
theorem dM_isIn_2 : decode bM_isIn 2 = .ok (.lcmp, 1) := by decide +kernel
theorem dM_isIn_3 : decode bM_isIn 3 = .ok (.ifCond .lt 13, 3) := by decide +kernel
theorem dM_isIn_6 : decode bM_isIn 6 = .ok (.lload_n 0, 1) := by decide +kernel
theorem dM_isIn_7 : decode bM_isIn 7 = .ok (.lload_n 2, 1) := by decide +kernel
theorem dM_isIn_8 : decode bM_isIn 8 = .ok (.lcmp, 1) := by decide +kernel
theorem dM_isIn_9 : decode bM_isIn 9 = .ok (.ifCond .gt 7, 3) := by decide +kernel
theorem dM_isIn_12 : decode bM_isIn 12 = .ok (.iconst 1, 1) := by decide +kernel
theorem dM_isIn_13 : decode bM_isIn 13 = .ok (.goto 4, 3) := by decide +kernel
theorem dM_isIn_16 : decode bM_isIn 16 = .ok (.iconst 0, 1) := by decide +kernel
theorem dM_isIn_17 : decode bM_isIn 17 = .ok (.ireturn, 1) := by decide +kernel
theorem dM_way_0 : decode bM_way 0 = .ok (.aload_n 0, 1) := by decide +kernel
theorem dM_way_1 : decode bM_way 1 = .ok (.iconst 0, 1) := by decide +kernel
theorem dM_way_2 : decode bM_way 2 = .ok (.putfield 72, 3) := by decide +kernel
theorem dM_way_5 : decode bM_way 5 = .ok (.iload_n 1, 1) := by decide +kernel
theorem dM_way_6 : decode bM_way 6 = .ok (.i2l, 1) := by decide +kernel
theorem dM_way_7 : decode bM_way 7 = .ok (.aload_n 0, 1) := by decide +kernel
theorem dM_way_8 : decode bM_way 8 = .ok (.getfield 76, 3) := by decide +kernel
theorem dM_way_11 : decode bM_way 11 = .ok (.i2l, 1) := by decide +kernel
theorem dM_way_12 : decode bM_way 12 = .ok (.invokestatic 81, 3) := by decide +kernel
theorem dM_way_15 : decode bM_way 15 = .ok (.ifCond .eq 43, 3) := by decide +kernel
theorem dM_way_18 : decode bM_way 18 = .ok (.iload_n 2, 1) := by decide +kernel
theorem dM_way_19 : decode bM_way 19 = .ok (.i2l, 1) := by decide +kernel
theorem dM_way_20 : decode bM_way 20 = .ok (.aload_n 0, 1) := by decide +kernel
theorem dM_way_21 : decode bM_way 21 = .ok (.getfield 76, 3) := by decide +kernel
theorem dM_way_24 : decode bM_way 24 = .ok (.i2l, 1) := by decide +kernel
theorem dM_way_25 : decode bM_way 25 = .ok (.invokestatic 81, 3) := by decide +kernel
theorem dM_way_28 : decode bM_way 28 = .ok (.ifCond .eq 30, 3) := by decide +kernel
theorem dM_way_31 : decode bM_way 31 = .ok (.iload_n 1, 1) := by decide +kernel
theorem dM_way_32 : decode bM_way 32 = .ok (.iload_n 2, 1) := by decide +kernel
theorem dM_way_33 : decode bM_way 33 = .ok (.if_icmp .eq 25, 3) := by decide +kernel
theorem dM_way_36 : decode bM_way 36 = .ok (.iload_n 3, 1) := by decide +kernel
theorem dM_way_37 : decode bM_way 37 = .ok (.i2l, 1) := by decide +kernel
theorem dM_way_38 : decode bM_way 38 = .ok (.ldc2_w 79, 3) := by decide +kernel
theorem dM_way_41 : decode bM_way 41 = .ok (.invokestatic 81, 3) := by decide +kernel
theorem dM_way_44 : decode bM_way 44 = .ok (.ifCond .eq 14, 3) := by decide +kernel
theorem dM_way_47 : decode bM_way 47 = .ok (.lload 4, 2) := by decide +kernel
theorem dM_way_49 : decode bM_way 49 = .ok (.ldc2_w 85, 3) := by decide +kernel
theorem dM_way_52 : decode bM_way 52 = .ok (.invokestatic 81, 3) := by decide +kernel
theorem dM_way_55 : decode bM_way 55 = .ok (.ifCond .ne 5, 3) := by decide +kernel
theorem dM_way_58 : decode bM_way 58 = .ok (.iconst 0, 1) := by decide +kernel
theorem dM_way_59 : decode bM_way 59 = .ok (.ireturn, 1) := by decide +kernel
theorem dM_way_60 : decode bM_way 60 = .ok (.aload_n 0, 1) := by decide +kernel
theorem dM_way_61 : decode bM_way 61 = .ok (.getfield 16, 3) := by decide +kernel
theorem dM_way_64 : decode bM_way 64 = .ok (.bipush 7, 2) := by decide +kernel
theorem dM_way_66 : decode bM_way 66 = .ok (.iload_n 1, 1) := by decide +kernel
theorem dM_way_67 : decode bM_way 67 = .ok (.imul, 1) := by decide +kernel
theorem dM_way_68 : decode bM_way 68 = .ok (.iload_n 2, 1) := by decide +kernel
theorem dM_way_69 : decode bM_way 69 = .ok (.iadd, 1) := by decide +kernel
theorem dM_way_70 : decode bM_way 70 = .ok (.iload_n 3, 1) := by decide +kernel
theorem dM_way_71 : decode bM_way 71 = .ok (.iastore, 1) := by decide +kernel
theorem dM_way_72 : decode bM_way 72 = .ok (.aload_n 0, 1) := by decide +kernel
theorem dM_way_73 : decode bM_way 73 = .ok (.getfield 19, 3) := by decide +kernel
theorem dM_way_76 : decode bM_way 76 = .ok (.bipush 7, 2) := by decide +kernel
theorem dM_way_78 : decode bM_way 78 = .ok (.iload_n 1, 1) := by decide +kernel
theorem dM_way_79 : decode bM_way 79 = .ok (.imul, 1) := by decide +kernel
theorem dM_way_80 : decode bM_way 80 = .ok (.iload_n 2, 1) := by decide +kernel
theorem dM_way_81 : decode bM_way 81 = .ok (.iadd, 1) := by decide +kernel
theorem dM_way_82 : decode bM_way 82 = .ok (.lload 4, 2) := by decide +kernel
theorem dM_way_84 : decode bM_way 84 = .ok (.l2i, 1) := by decide +kernel
theorem dM_way_85 : decode bM_way 85 = .ok (.iastore, 1) := by decide +kernel
theorem dM_way_86 : decode bM_way 86 = .ok (.iconst 1, 1) := by decide +kernel
theorem dM_way_87 : decode bM_way 87 = .ok (.ireturn, 1) := by decide +kernel
theorem dM_vehicle_0 : decode bM_vehicle 0 = .ok (.aload_n 0, 1) := by decide +kernel
theorem dM_vehicle_1 : decode bM_vehicle 1 = .ok (.iconst 0, 1) := by decide +kernel
theorem dM_vehicle_2 : decode bM_vehicle 2 = .ok (.putfield 72, 3) := by decide +kernel
theorem dM_vehicle_5 : decode bM_vehicle 5 = .ok (.lload_n 1, 1) := by decide +kernel
theorem dM_vehicle_6 : decode bM_vehicle 6 = .ok (.ldc2_w 87, 3) := by decide +kernel
theorem dM_vehicle_9 : decode bM_vehicle 9 = .ok (.invokestatic 81, 3) := by decide +kernel
theorem dM_vehicle_12 : decode bM_vehicle 12 = .ok (.ifCond .eq 26, 3) := by decide +kernel
theorem dM_vehicle_15 : decode bM_vehicle 15 = .ok (.iload_n 3, 1) := by decide +kernel
theorem dM_vehicle_16 : decode bM_vehicle 16 = .ok (.i2l, 1) := by decide +kernel
theorem dM_vehicle_17 : decode bM_vehicle 17 = .ok (.ldc2_w 89, 3) := by decide +kernel
theorem dM_vehicle_20 : decode bM_vehicle 20 = .ok (.invokestatic 81, 3) := by decide +kernel
theorem dM_vehicle_23 : decode bM_vehicle 23 = .ok (.ifCond .eq 15, 3) := by decide +kernel
theorem dM_vehicle_26 : decode bM_vehicle 26 = .ok (.iload 4, 2) := by decide +kernel
theorem dM_vehicle_28 : decode bM_vehicle 28 = .ok (.i2l, 1) := by decide +kernel
theorem dM_vehicle_29 : decode bM_vehicle 29 = .ok (.ldc2_w 91, 3) := by decide +kernel
theorem dM_vehicle_32 : decode bM_vehicle 32 = .ok (.invokestatic 81, 3) := by decide +kernel
theorem dM_vehicle_35 : decode bM_vehicle 35 = .ok (.ifCond .ne 5, 3) := by decide +kernel
theorem dM_vehicle_38 : decode bM_vehicle 38 = .ok (.iconst 0, 1) := by decide +kernel
theorem dM_vehicle_39 : decode bM_vehicle 39 = .ok (.ireturn, 1) := by decide +kernel
theorem dM_vehicle_40 : decode bM_vehicle 40 = .ok (.aload_n 0, 1) := by decide +kernel
theorem dM_vehicle_41 : decode bM_vehicle 41 = .ok (.lload_n 1, 1) := by decide +kernel
theorem dM_vehicle_42 : decode bM_vehicle 42 = .ok (.l2i, 1) := by decide +kernel
theorem dM_vehicle_43 : decode bM_vehicle 43 = .ok (.putfield 93, 3) := by decide +kernel
theorem dM_vehicle_46 : decode bM_vehicle 46 = .ok (.aload_n 0, 1) := by decide +kernel
theorem dM_vehicle_47 : decode bM_vehicle 47 = .ok (.iload_n 3, 1) := by decide +kernel
theorem dM_vehicle_48 : decode bM_vehicle 48 = .ok (.putfield 96, 3) := by decide +kernel
theorem dM_vehicle_51 : decode bM_vehicle 51 = .ok (.aload_n 0, 1) := by decide +kernel
theorem dM_vehicle_52 : decode bM_vehicle 52 = .ok (.iload 4, 2) := by decide +kernel
theorem dM_vehicle_54 : decode bM_vehicle 54 = .ok (.putfield 99, 3) := by decide +kernel
theorem dM_vehicle_57 : decode bM_vehicle 57 = .ok (.iconst 1, 1) := by decide +kernel
theorem dM_vehicle_58 : decode bM_vehicle 58 = .ok (.ireturn, 1) := by decide +kernel
theorem dM_branch_0 : decode bM_branch 0 = .ok (.aload_n 0, 1) := by decide +kernel
theorem dM_branch_1 : decode bM_branch 1 = .ok (.iconst 0, 1) := by decide +kernel
theorem dM_branch_2 : decode bM_branch 2 = .ok (.putfield 72, 3) := by decide +kernel
theorem dM_branch_5 : decode bM_branch 5 = .ok (.iload_n 1, 1) := by decide +kernel
theorem dM_branch_6 : decode bM_branch 6 = .ok (.i2l, 1) := by decide +kernel
theorem dM_branch_7 : decode bM_branch 7 = .ok (.aload_n 0, 1) := by decide +kernel
theorem dM_branch_8 : decode bM_branch 8 = .ok (.getfield 76, 3) := by decide +kernel
theorem dM_branch_11 : decode bM_branch 11 = .ok (.iconst 1, 1) := by decide +kernel
theorem dM_branch_12 : decode bM_branch 12 = .ok (.isub, 1) := by decide +kernel
theorem dM_branch_13 : decode bM_branch 13 = .ok (.i2l, 1) := by decide +kernel
theorem dM_branch_14 : decode bM_branch 14 = .ok (.invokestatic 81, 3) := by decide +kernel
theorem dM_branch_17 : decode bM_branch 17 = .ok (.ifCond .eq 23, 3) := by decide +kernel
theorem dM_branch_20 : decode bM_branch 20 = .ok (.iload_n 2, 1) := by decide +kernel
theorem dM_branch_21 : decode bM_branch 21 = .ok (.i2l, 1) := by decide +kernel
theorem dM_branch_22 : decode bM_branch 22 = .ok (.aload_n 0, 1) := by decide +kernel
theorem dM_branch_23 : decode bM_branch 23 = .ok (.getfield 76, 3) := by decide +kernel
theorem dM_branch_26 : decode bM_branch 26 = .ok (.iconst 1, 1) := by decide +kernel
theorem dM_branch_27 : decode bM_branch 27 = .ok (.isub, 1) := by decide +kernel
theorem dM_branch_28 : decode bM_branch 28 = .ok (.i2l, 1) := by decide +kernel
theorem dM_branch_29 : decode bM_branch 29 = .ok (.invokestatic 81, 3) := by decide +kernel
theorem dM_branch_32 : decode bM_branch 32 = .ok (.ifCond .eq 8, 3) := by decide +kernel
theorem dM_branch_35 : decode bM_branch 35 = .ok (.iload_n 1, 1) := by decide +kernel
theorem dM_branch_36 : decode bM_branch 36 = .ok (.iload_n 2, 1) := by decide +kernel
theorem dM_branch_37 : decode bM_branch 37 = .ok (.if_icmp .ne 5, 3) := by decide +kernel
theorem dM_branch_40 : decode bM_branch 40 = .ok (.iconst 0, 1) := by decide +kernel
theorem dM_branch_41 : decode bM_branch 41 = .ok (.ireturn, 1) := by decide +kernel
theorem dM_branch_42 : decode bM_branch 42 = .ok (.aload_n 0, 1) := by decide +kernel
theorem dM_branch_43 : decode bM_branch 43 = .ok (.getfield 22, 3) := by decide +kernel
theorem dM_branch_46 : decode bM_branch 46 = .ok (.bipush 6, 2) := by decide +kernel
theorem dM_branch_48 : decode bM_branch 48 = .ok (.iload_n 1, 1) := by decide +kernel
theorem dM_branch_49 : decode bM_branch 49 = .ok (.imul, 1) := by decide +kernel
theorem dM_branch_50 : decode bM_branch 50 = .ok (.iload_n 2, 1) := by decide +kernel
theorem dM_branch_51 : decode bM_branch 51 = .ok (.iadd, 1) := by decide +kernel
theorem dM_branch_52 : decode bM_branch 52 = .ok (.iload_n 3, 1) := by decide +kernel
theorem dM_branch_53 : decode bM_branch 53 = .ok (.ifCond .eq 7, 3) := by decide +kernel
theorem dM_branch_56 : decode bM_branch 56 = .ok (.iconst 1, 1) := by decide +kernel
theorem dM_branch_57 : decode bM_branch 57 = .ok (.goto 4, 3) := by decide +kernel
theorem dM_branch_60 : decode bM_branch 60 = .ok (.iconst 2, 1) := by decide +kernel
theorem dM_branch_61 : decode bM_branch 61 = .ok (.iastore, 1) := by decide +kernel
theorem dM_branch_62 : decode bM_branch 62 = .ok (.aload_n 0, 1) := by decide +kernel
theorem dM_branch_63 : decode bM_branch 63 = .ok (.getfield 22, 3) := by decide +kernel
theorem dM_branch_66 : decode bM_branch 66 = .ok (.bipush 6, 2) := by decide +kernel
theorem dM_branch_68 : decode bM_branch 68 = .ok (.iload_n 2, 1) := by decide +kernel
theorem dM_branch_69 : decode bM_branch 69 = .ok (.imul, 1) := by decide +kernel
theorem dM_branch_70 : decode bM_branch 70 = .ok (.iload_n 1, 1) := by decide +kernel
theorem dM_branch_71 : decode bM_branch 71 = .ok (.iadd, 1) := by decide +kernel
theorem dM_branch_72 : decode bM_branch 72 = .ok (.iload_n 3, 1) := by decide +kernel
theorem dM_branch_73 : decode bM_branch 73 = .ok (.ifCond .eq 7, 3) := by decide +kernel
theorem dM_branch_76 : decode bM_branch 76 = .ok (.iconst 1, 1) := by decide +kernel
theorem dM_branch_77 : decode bM_branch 77 = .ok (.goto 4, 3) := by decide +kernel
theorem dM_branch_80 : decode bM_branch 80 = .ok (.iconst 2, 1) := by decide +kernel
theorem dM_branch_81 : decode bM_branch 81 = .ok (.iastore, 1) := by decide +kernel
theorem dM_branch_82 : decode bM_branch 82 = .ok (.iconst 1, 1) := by decide +kernel
theorem dM_branch_83 : decode bM_branch 83 = .ok (.ireturn, 1) := by decide +kernel
theorem dM_clear_0 : decode bM_clear 0 = .ok (.aload_n 0, 1) := by decide +kernel
theorem dM_clear_1 : decode bM_clear 1 = .ok (.iconst 0, 1) := by decide +kernel
theorem dM_clear_2 : decode bM_clear 2 = .ok (.putfield 72, 3) := by decide +kernel
theorem dM_clear_5 : decode bM_clear 5 = .ok (.iconst 0, 1) := by decide +kernel
theorem dM_clear_6 : decode bM_clear 6 = .ok (.istore_n 1, 1) := by decide +kernel
theorem dM_clear_7 : decode bM_clear 7 = .ok (.iload_n 1, 1) := by decide +kernel
theorem dM_clear_8 : decode bM_clear 8 = .ok (.bipush 36, 2) := by decide +kernel
theorem dM_clear_10 : decode bM_clear 10 = .ok (.if_icmp .ge 16, 3) := by decide +kernel
theorem dM_clear_13 : decode bM_clear 13 = .ok (.aload_n 0, 1) := by decide +kernel
theorem dM_clear_14 : decode bM_clear 14 = .ok (.getfield 22, 3) := by decide +kernel
theorem dM_clear_17 : decode bM_clear 17 = .ok (.iload_n 1, 1) := by decide +kernel
theorem dM_clear_18 : decode bM_clear 18 = .ok (.iconst 0, 1) := by decide +kernel
theorem dM_clear_19 : decode bM_clear 19 = .ok (.iastore, 1) := by decide +kernel
theorem dM_clear_20 : decode bM_clear 20 = .ok (.iinc 1 1, 3) := by decide +kernel
theorem dM_clear_23 : decode bM_clear 23 = .ok (.goto (-16), 3) := by decide +kernel
theorem dM_clear_26 : decode bM_clear 26 = .ok (.return_, 1) := by decide +kernel
theorem dM_run_0 : decode bM_run 0 = .ok (.aload_n 0, 1) := by decide +kernel
theorem dM_run_1 : decode bM_run 1 = .ok (.invokevirtual 130, 3) := by decide +kernel
theorem dM_run_4 : decode bM_run 4 = .ok (.istore_n 2, 1) := by decide +kernel
theorem dM_run_5 : decode bM_run 5 = .ok (.aload_n 0, 1) := by decide +kernel
theorem dM_run_6 : decode bM_run 6 = .ok (.iload_n 2, 1) := by decide +kernel
theorem dM_run_7 : decode bM_run 7 = .ok (.iload_n 1, 1) := by decide +kernel
theorem dM_run_8 : decode bM_run 8 = .ok (.if_icmp .le 7, 3) := by decide +kernel
theorem dM_run_11 : decode bM_run 11 = .ok (.iconst 1, 1) := by decide +kernel
theorem dM_run_12 : decode bM_run 12 = .ok (.goto 4, 3) := by decide +kernel
theorem dM_run_15 : decode bM_run 15 = .ok (.iconst 0, 1) := by decide +kernel
theorem dM_run_16 : decode bM_run 16 = .ok (.putfield 72, 3) := by decide +kernel
theorem dM_run_19 : decode bM_run 19 = .ok (.aload_n 0, 1) := by decide +kernel
theorem dM_run_20 : decode bM_run 20 = .ok (.getfield 72, 3) := by decide +kernel
theorem dM_run_23 : decode bM_run 23 = .ok (.ifCond .le 5, 3) := by decide +kernel
theorem dM_run_26 : decode bM_run 26 = .ok (.iconst 0, 1) := by decide +kernel
theorem dM_run_27 : decode bM_run 27 = .ok (.ireturn, 1) := by decide +kernel
theorem dM_run_28 : decode bM_run 28 = .ok (.aload_n 0, 1) := by decide +kernel
theorem dM_run_29 : decode bM_run 29 = .ok (.iconst 1, 1) := by decide +kernel
theorem dM_run_30 : decode bM_run 30 = .ok (.putfield 133, 3) := by decide +kernel
theorem dM_run_33 : decode bM_run 33 = .ok (.aload_n 0, 1) := by decide +kernel
theorem dM_run_34 : decode bM_run 34 = .ok (.aload_n 0, 1) := by decide +kernel
theorem dM_run_35 : decode bM_run 35 = .ok (.getfield 76, 3) := by decide +kernel
theorem dM_run_38 : decode bM_run 38 = .ok (.putfield 137, 3) := by decide +kernel
theorem dM_run_41 : decode bM_run 41 = .ok (.aload_n 0, 1) := by decide +kernel
theorem dM_run_42 : decode bM_run 42 = .ok (.aload_n 0, 1) := by decide +kernel
theorem dM_run_43 : decode bM_run 43 = .ok (.getfield 93, 3) := by decide +kernel
theorem dM_run_46 : decode bM_run 46 = .ok (.putfield 140, 3) := by decide +kernel
theorem dM_run_49 : decode bM_run 49 = .ok (.aload_n 0, 1) := by decide +kernel
theorem dM_run_50 : decode bM_run 50 = .ok (.aload_n 0, 1) := by decide +kernel
theorem dM_run_51 : decode bM_run 51 = .ok (.getfield 99, 3) := by decide +kernel
theorem dM_run_54 : decode bM_run 54 = .ok (.putfield 143, 3) := by decide +kernel
theorem dM_run_57 : decode bM_run 57 = .ok (.iconst 0, 1) := by decide +kernel
theorem dM_run_58 : decode bM_run 58 = .ok (.istore_n 3, 1) := by decide +kernel
theorem dM_run_59 : decode bM_run 59 = .ok (.iload_n 3, 1) := by decide +kernel
theorem dM_run_60 : decode bM_run 60 = .ok (.bipush 6, 2) := by decide +kernel
theorem dM_run_62 : decode bM_run 62 = .ok (.if_icmp .ge 21, 3) := by decide +kernel
theorem dM_run_65 : decode bM_run 65 = .ok (.aload_n 0, 1) := by decide +kernel
theorem dM_run_66 : decode bM_run 66 = .ok (.getfield 25, 3) := by decide +kernel
theorem dM_run_69 : decode bM_run 69 = .ok (.iload_n 3, 1) := by decide +kernel
theorem dM_run_70 : decode bM_run 70 = .ok (.aload_n 0, 1) := by decide +kernel
theorem dM_run_71 : decode bM_run 71 = .ok (.getfield 7, 3) := by decide +kernel
theorem dM_run_74 : decode bM_run 74 = .ok (.iload_n 3, 1) := by decide +kernel
theorem dM_run_75 : decode bM_run 75 = .ok (.iaload, 1) := by decide +kernel
theorem dM_run_76 : decode bM_run 76 = .ok (.iastore, 1) := by decide +kernel
theorem dM_run_77 : decode bM_run 77 = .ok (.iinc 3 1, 3) := by decide +kernel
theorem dM_run_80 : decode bM_run 80 = .ok (.goto (-21), 3) := by decide +kernel
theorem dM_run_83 : decode bM_run 83 = .ok (.iconst 0, 1) := by decide +kernel
theorem dM_run_84 : decode bM_run 84 = .ok (.istore_n 3, 1) := by decide +kernel
theorem dM_run_85 : decode bM_run 85 = .ok (.iload_n 3, 1) := by decide +kernel
theorem dM_run_86 : decode bM_run 86 = .ok (.sipush 384, 3) := by decide +kernel
theorem dM_run_89 : decode bM_run 89 = .ok (.if_icmp .ge 45, 3) := by decide +kernel
theorem dM_run_92 : decode bM_run 92 = .ok (.aload_n 0, 1) := by decide +kernel
theorem dM_run_93 : decode bM_run 93 = .ok (.getfield 28, 3) := by decide +kernel
theorem dM_run_96 : decode bM_run 96 = .ok (.iload_n 3, 1) := by decide +kernel
theorem dM_run_97 : decode bM_run 97 = .ok (.aload_n 0, 1) := by decide +kernel
theorem dM_run_98 : decode bM_run 98 = .ok (.getfield 47, 3) := by decide +kernel
theorem dM_run_101 : decode bM_run 101 = .ok (.iload_n 3, 1) := by decide +kernel
theorem dM_run_102 : decode bM_run 102 = .ok (.baload, 1) := by decide +kernel
theorem dM_run_103 : decode bM_run 103 = .ok (.bastore, 1) := by decide +kernel
theorem dM_run_104 : decode bM_run 104 = .ok (.aload_n 0, 1) := by decide +kernel
theorem dM_run_105 : decode bM_run 105 = .ok (.getfield 32, 3) := by decide +kernel
theorem dM_run_108 : decode bM_run 108 = .ok (.iload_n 3, 1) := by decide +kernel
theorem dM_run_109 : decode bM_run 109 = .ok (.aload_n 0, 1) := by decide +kernel
theorem dM_run_110 : decode bM_run 110 = .ok (.getfield 50, 3) := by decide +kernel
theorem dM_run_113 : decode bM_run 113 = .ok (.iload_n 3, 1) := by decide +kernel
theorem dM_run_114 : decode bM_run 114 = .ok (.baload, 1) := by decide +kernel
theorem dM_run_115 : decode bM_run 115 = .ok (.bastore, 1) := by decide +kernel
theorem dM_run_116 : decode bM_run 116 = .ok (.aload_n 0, 1) := by decide +kernel
theorem dM_run_117 : decode bM_run 117 = .ok (.getfield 38, 3) := by decide +kernel
theorem dM_run_120 : decode bM_run 120 = .ok (.iload_n 3, 1) := by decide +kernel
theorem dM_run_121 : decode bM_run 121 = .ok (.aload_n 0, 1) := by decide +kernel
theorem dM_run_122 : decode bM_run 122 = .ok (.getfield 56, 3) := by decide +kernel
theorem dM_run_125 : decode bM_run 125 = .ok (.iload_n 3, 1) := by decide +kernel
theorem dM_run_126 : decode bM_run 126 = .ok (.iaload, 1) := by decide +kernel
theorem dM_run_127 : decode bM_run 127 = .ok (.iastore, 1) := by decide +kernel
theorem dM_run_128 : decode bM_run 128 = .ok (.iinc 3 1, 3) := by decide +kernel
theorem dM_run_131 : decode bM_run 131 = .ok (.goto (-46), 3) := by decide +kernel
theorem dM_run_134 : decode bM_run 134 = .ok (.iconst 0, 1) := by decide +kernel
theorem dM_run_135 : decode bM_run 135 = .ok (.istore_n 3, 1) := by decide +kernel
theorem dM_run_136 : decode bM_run 136 = .ok (.iload_n 3, 1) := by decide +kernel
theorem dM_run_137 : decode bM_run 137 = .ok (.bipush 64, 2) := by decide +kernel
theorem dM_run_139 : decode bM_run 139 = .ok (.if_icmp .ge 32, 3) := by decide +kernel
theorem dM_run_142 : decode bM_run 142 = .ok (.aload_n 0, 1) := by decide +kernel
theorem dM_run_143 : decode bM_run 143 = .ok (.getfield 35, 3) := by decide +kernel
theorem dM_run_146 : decode bM_run 146 = .ok (.iload_n 3, 1) := by decide +kernel
theorem dM_run_147 : decode bM_run 147 = .ok (.aload_n 0, 1) := by decide +kernel
theorem dM_run_148 : decode bM_run 148 = .ok (.getfield 53, 3) := by decide +kernel
theorem dM_run_151 : decode bM_run 151 = .ok (.iload_n 3, 1) := by decide +kernel
theorem dM_run_152 : decode bM_run 152 = .ok (.iaload, 1) := by decide +kernel
theorem dM_run_153 : decode bM_run 153 = .ok (.iastore, 1) := by decide +kernel
theorem dM_run_154 : decode bM_run 154 = .ok (.aload_n 0, 1) := by decide +kernel
theorem dM_run_155 : decode bM_run 155 = .ok (.getfield 41, 3) := by decide +kernel
theorem dM_run_158 : decode bM_run 158 = .ok (.iload_n 3, 1) := by decide +kernel
theorem dM_run_159 : decode bM_run 159 = .ok (.aload_n 0, 1) := by decide +kernel
theorem dM_run_160 : decode bM_run 160 = .ok (.iload_n 3, 1) := by decide +kernel
theorem dM_run_161 : decode bM_run 161 = .ok (.invokevirtual 146, 3) := by decide +kernel
theorem dM_run_164 : decode bM_run 164 = .ok (.bastore, 1) := by decide +kernel
theorem dM_run_165 : decode bM_run 165 = .ok (.iinc 3 1, 3) := by decide +kernel
theorem dM_run_168 : decode bM_run 168 = .ok (.goto (-32), 3) := by decide +kernel
theorem dM_run_171 : decode bM_run 171 = .ok (.aload_n 0, 1) := by decide +kernel
theorem dM_run_172 : decode bM_run 172 = .ok (.aload_n 0, 1) := by decide +kernel
theorem dM_run_173 : decode bM_run 173 = .ok (.invokevirtual 150, 3) := by decide +kernel
theorem dM_run_176 : decode bM_run 176 = .ok (.iconst 0, 1) := by decide +kernel
theorem dM_run_177 : decode bM_run 177 = .ok (.invokevirtual 153, 3) := by decide +kernel
theorem dM_run_180 : decode bM_run 180 = .ok (.ifCond .eq 7, 3) := by decide +kernel
theorem dM_run_183 : decode bM_run 183 = .ok (.iconst 0, 1) := by decide +kernel
theorem dM_run_184 : decode bM_run 184 = .ok (.goto 4, 3) := by decide +kernel
theorem dM_run_187 : decode bM_run 187 = .ok (.iconst 1, 1) := by decide +kernel
theorem dM_run_188 : decode bM_run 188 = .ok (.ireturn, 1) := by decide +kernel
theorem dM_search_0 : decode bM_search 0 = .ok (.iconst 0, 1) := by decide +kernel
theorem dM_search_1 : decode bM_search 1 = .ok (.istore_n 1, 1) := by decide +kernel
theorem dM_search_2 : decode bM_search 2 = .ok (.iload_n 1, 1) := by decide +kernel
theorem dM_search_3 : decode bM_search 3 = .ok (.sipush 384, 3) := by decide +kernel
theorem dM_search_6 : decode bM_search 6 = .ok (.if_icmp .ge 23, 3) := by decide +kernel
theorem dM_search_9 : decode bM_search 9 = .ok (.aload_n 0, 1) := by decide +kernel
theorem dM_search_10 : decode bM_search 10 = .ok (.getfield 47, 3) := by decide +kernel
theorem dM_search_13 : decode bM_search 13 = .ok (.iload_n 1, 1) := by decide +kernel
theorem dM_search_14 : decode bM_search 14 = .ok (.iconst 0, 1) := by decide +kernel
theorem dM_search_15 : decode bM_search 15 = .ok (.bastore, 1) := by decide +kernel
theorem dM_search_16 : decode bM_search 16 = .ok (.aload_n 0, 1) := by decide +kernel
theorem dM_search_17 : decode bM_search 17 = .ok (.getfield 50, 3) := by decide +kernel
theorem dM_search_20 : decode bM_search 20 = .ok (.iload_n 1, 1) := by decide +kernel
theorem dM_search_21 : decode bM_search 21 = .ok (.iconst 0, 1) := by decide +kernel
theorem dM_search_22 : decode bM_search 22 = .ok (.bastore, 1) := by decide +kernel
theorem dM_search_23 : decode bM_search 23 = .ok (.iinc 1 1, 3) := by decide +kernel
theorem dM_search_26 : decode bM_search 26 = .ok (.goto (-24), 3) := by decide +kernel
theorem dM_search_29 : decode bM_search 29 = .ok (.iconst 0, 1) := by decide +kernel
theorem dM_search_30 : decode bM_search 30 = .ok (.istore_n 1, 1) := by decide +kernel
theorem dM_search_31 : decode bM_search 31 = .ok (.iload_n 1, 1) := by decide +kernel
theorem dM_search_32 : decode bM_search 32 = .ok (.bipush 64, 2) := by decide +kernel
theorem dM_search_34 : decode bM_search 34 = .ok (.if_icmp .ge 16, 3) := by decide +kernel
theorem dM_search_37 : decode bM_search 37 = .ok (.aload_n 0, 1) := by decide +kernel
theorem dM_search_38 : decode bM_search 38 = .ok (.getfield 53, 3) := by decide +kernel
theorem dM_search_41 : decode bM_search 41 = .ok (.iload_n 1, 1) := by decide +kernel
theorem dM_search_42 : decode bM_search 42 = .ok (.iconst (-1), 1) := by decide +kernel
theorem dM_search_43 : decode bM_search 43 = .ok (.iastore, 1) := by decide +kernel
theorem dM_search_44 : decode bM_search 44 = .ok (.iinc 1 1, 3) := by decide +kernel
theorem dM_search_47 : decode bM_search 47 = .ok (.goto (-16), 3) := by decide +kernel
theorem dM_search_50 : decode bM_search 50 = .ok (.iconst 0, 1) := by decide +kernel
theorem dM_search_51 : decode bM_search 51 = .ok (.istore_n 1, 1) := by decide +kernel
theorem dM_search_52 : decode bM_search 52 = .ok (.aload_n 0, 1) := by decide +kernel
theorem dM_search_53 : decode bM_search 53 = .ok (.iconst 0, 1) := by decide +kernel
theorem dM_search_54 : decode bM_search 54 = .ok (.putfield 102, 3) := by decide +kernel
theorem dM_search_57 : decode bM_search 57 = .ok (.aload_n 0, 1) := by decide +kernel
theorem dM_search_58 : decode bM_search 58 = .ok (.iconst 1, 1) := by decide +kernel
theorem dM_search_59 : decode bM_search 59 = .ok (.invokevirtual 120, 3) := by decide +kernel
theorem dM_search_62 : decode bM_search 62 = .ok (.istore_n 2, 1) := by decide +kernel
theorem dM_search_63 : decode bM_search 63 = .ok (.iload_n 2, 1) := by decide +kernel
theorem dM_search_64 : decode bM_search 64 = .ok (.ifCond .eq 171, 3) := by decide +kernel
theorem dM_search_67 : decode bM_search 67 = .ok (.aload_n 0, 1) := by decide +kernel
theorem dM_search_68 : decode bM_search 68 = .ok (.invokevirtual 109, 3) := by decide +kernel
theorem dM_search_71 : decode bM_search 71 = .ok (.istore_n 3, 1) := by decide +kernel
theorem dM_search_72 : decode bM_search 72 = .ok (.iload_n 3, 1) := by decide +kernel
theorem dM_search_73 : decode bM_search 73 = .ok (.ifCond .eq 153, 3) := by decide +kernel
theorem dM_search_76 : decode bM_search 76 = .ok (.aload_n 0, 1) := by decide +kernel
theorem dM_search_77 : decode bM_search 77 = .ok (.invokevirtual 113, 3) := by decide +kernel
theorem dM_search_80 : decode bM_search 80 = .ok (.istore 4, 2) := by decide +kernel
theorem dM_search_82 : decode bM_search 82 = .ok (.bipush 6, 2) := by decide +kernel
theorem dM_search_84 : decode bM_search 84 = .ok (.iload 4, 2) := by decide +kernel
theorem dM_search_86 : decode bM_search 86 = .ok (.imul, 1) := by decide +kernel
theorem dM_search_87 : decode bM_search 87 = .ok (.aload_n 0, 1) := by decide +kernel
theorem dM_search_88 : decode bM_search 88 = .ok (.getfield 44, 3) := by decide +kernel
theorem dM_search_91 : decode bM_search 91 = .ok (.aload_n 0, 1) := by decide +kernel
theorem dM_search_92 : decode bM_search 92 = .ok (.getfield 102, 3) := by decide +kernel
theorem dM_search_95 : decode bM_search 95 = .ok (.iconst 1, 1) := by decide +kernel
theorem dM_search_96 : decode bM_search 96 = .ok (.isub, 1) := by decide +kernel
theorem dM_search_97 : decode bM_search 97 = .ok (.iaload, 1) := by decide +kernel
theorem dM_search_98 : decode bM_search 98 = .ok (.iadd, 1) := by decide +kernel
theorem dM_search_99 : decode bM_search 99 = .ok (.istore 5, 2) := by decide +kernel
theorem dM_search_101 : decode bM_search 101 = .ok (.iload_n 1, 1) := by decide +kernel
theorem dM_search_102 : decode bM_search 102 = .ok (.aload_n 0, 1) := by decide +kernel
theorem dM_search_103 : decode bM_search 103 = .ok (.getfield 47, 3) := by decide +kernel
theorem dM_search_106 : decode bM_search 106 = .ok (.iload 5, 2) := by decide +kernel
theorem dM_search_108 : decode bM_search 108 = .ok (.baload, 1) := by decide +kernel
theorem dM_search_109 : decode bM_search 109 = .ok (.ifCond .eq 7, 3) := by decide +kernel
theorem dM_search_112 : decode bM_search 112 = .ok (.iconst 0, 1) := by decide +kernel
theorem dM_search_113 : decode bM_search 113 = .ok (.goto 4, 3) := by decide +kernel
theorem dM_search_116 : decode bM_search 116 = .ok (.iconst 1, 1) := by decide +kernel
theorem dM_search_117 : decode bM_search 117 = .ok (.iadd, 1) := by decide +kernel
theorem dM_search_118 : decode bM_search 118 = .ok (.istore_n 1, 1) := by decide +kernel
theorem dM_search_119 : decode bM_search 119 = .ok (.aload_n 0, 1) := by decide +kernel
theorem dM_search_120 : decode bM_search 120 = .ok (.getfield 47, 3) := by decide +kernel
theorem dM_search_123 : decode bM_search 123 = .ok (.iload 5, 2) := by decide +kernel
theorem dM_search_125 : decode bM_search 125 = .ok (.iconst 1, 1) := by decide +kernel
theorem dM_search_126 : decode bM_search 126 = .ok (.bastore, 1) := by decide +kernel
theorem dM_search_127 : decode bM_search 127 = .ok (.aload_n 0, 1) := by decide +kernel
theorem dM_search_128 : decode bM_search 128 = .ok (.invokevirtual 124, 3) := by decide +kernel
theorem dM_search_131 : decode bM_search 131 = .ok (.ifCond .eq 95, 3) := by decide +kernel
theorem dM_search_134 : decode bM_search 134 = .ok (.aload_n 0, 1) := by decide +kernel
theorem dM_search_135 : decode bM_search 135 = .ok (.getfield 50, 3) := by decide +kernel
theorem dM_search_138 : decode bM_search 138 = .ok (.iload 5, 2) := by decide +kernel
theorem dM_search_140 : decode bM_search 140 = .ok (.iconst 1, 1) := by decide +kernel
theorem dM_search_141 : decode bM_search 141 = .ok (.bastore, 1) := by decide +kernel
theorem dM_search_142 : decode bM_search 142 = .ok (.aload_n 0, 1) := by decide +kernel
theorem dM_search_143 : decode bM_search 143 = .ok (.getfield 53, 3) := by decide +kernel
theorem dM_search_146 : decode bM_search 146 = .ok (.iload 4, 2) := by decide +kernel
theorem dM_search_148 : decode bM_search 148 = .ok (.iaload, 1) := by decide +kernel
theorem dM_search_149 : decode bM_search 149 = .ok (.ifCond .lt 17, 3) := by decide +kernel
theorem dM_search_152 : decode bM_search 152 = .ok (.aload_n 0, 1) := by decide +kernel
theorem dM_search_153 : decode bM_search 153 = .ok (.invokevirtual 127, 3) := by decide +kernel
theorem dM_search_156 : decode bM_search 156 = .ok (.aload_n 0, 1) := by decide +kernel
theorem dM_search_157 : decode bM_search 157 = .ok (.getfield 53, 3) := by decide +kernel
theorem dM_search_160 : decode bM_search 160 = .ok (.iload 4, 2) := by decide +kernel
theorem dM_search_162 : decode bM_search 162 = .ok (.iaload, 1) := by decide +kernel
theorem dM_search_163 : decode bM_search 163 = .ok (.if_icmp .ge 63, 3) := by decide +kernel
theorem dM_search_166 : decode bM_search 166 = .ok (.aload_n 0, 1) := by decide +kernel
theorem dM_search_167 : decode bM_search 167 = .ok (.getfield 53, 3) := by decide +kernel
theorem dM_search_170 : decode bM_search 170 = .ok (.iload 4, 2) := by decide +kernel
theorem dM_search_172 : decode bM_search 172 = .ok (.aload_n 0, 1) := by decide +kernel
theorem dM_search_173 : decode bM_search 173 = .ok (.invokevirtual 127, 3) := by decide +kernel
theorem dM_search_176 : decode bM_search 176 = .ok (.iastore, 1) := by decide +kernel
theorem dM_search_177 : decode bM_search 177 = .ok (.iconst 0, 1) := by decide +kernel
theorem dM_search_178 : decode bM_search 178 = .ok (.istore 6, 2) := by decide +kernel
theorem dM_search_180 : decode bM_search 180 = .ok (.iload 6, 2) := by decide +kernel
theorem dM_search_182 : decode bM_search 182 = .ok (.bipush 6, 2) := by decide +kernel
theorem dM_search_184 : decode bM_search 184 = .ok (.if_icmp .ge 42, 3) := by decide +kernel
theorem dM_search_187 : decode bM_search 187 = .ok (.aload_n 0, 1) := by decide +kernel
theorem dM_search_188 : decode bM_search 188 = .ok (.getfield 56, 3) := by decide +kernel
theorem dM_search_191 : decode bM_search 191 = .ok (.bipush 6, 2) := by decide +kernel
theorem dM_search_193 : decode bM_search 193 = .ok (.iload 4, 2) := by decide +kernel
theorem dM_search_195 : decode bM_search 195 = .ok (.imul, 1) := by decide +kernel
theorem dM_search_196 : decode bM_search 196 = .ok (.iload 6, 2) := by decide +kernel
theorem dM_search_198 : decode bM_search 198 = .ok (.iadd, 1) := by decide +kernel
theorem dM_search_199 : decode bM_search 199 = .ok (.iload 6, 2) := by decide +kernel
theorem dM_search_201 : decode bM_search 201 = .ok (.aload_n 0, 1) := by decide +kernel
theorem dM_search_202 : decode bM_search 202 = .ok (.getfield 102, 3) := by decide +kernel
theorem dM_search_205 : decode bM_search 205 = .ok (.if_icmp .ge 13, 3) := by decide +kernel
theorem dM_search_208 : decode bM_search 208 = .ok (.aload_n 0, 1) := by decide +kernel
theorem dM_search_209 : decode bM_search 209 = .ok (.getfield 44, 3) := by decide +kernel
theorem dM_search_212 : decode bM_search 212 = .ok (.iload 6, 2) := by decide +kernel
theorem dM_search_214 : decode bM_search 214 = .ok (.iaload, 1) := by decide +kernel
theorem dM_search_215 : decode bM_search 215 = .ok (.goto 4, 3) := by decide +kernel
theorem dM_search_218 : decode bM_search 218 = .ok (.iconst (-1), 1) := by decide +kernel
theorem dM_search_219 : decode bM_search 219 = .ok (.iastore, 1) := by decide +kernel
theorem dM_search_220 : decode bM_search 220 = .ok (.iinc 6 1, 3) := by decide +kernel
theorem dM_search_223 : decode bM_search 223 = .ok (.goto (-43), 3) := by decide +kernel
theorem dM_search_226 : decode bM_search 226 = .ok (.aload_n 0, 1) := by decide +kernel
theorem dM_search_227 : decode bM_search 227 = .ok (.iload_n 3, 1) := by decide +kernel
theorem dM_search_228 : decode bM_search 228 = .ok (.invokevirtual 120, 3) := by decide +kernel
theorem dM_search_231 : decode bM_search 231 = .ok (.istore_n 2, 1) := by decide +kernel
theorem dM_search_232 : decode bM_search 232 = .ok (.goto (-169), 3) := by decide +kernel
theorem dM_search_235 : decode bM_search 235 = .ok (.iload_n 1, 1) := by decide +kernel
theorem dM_search_236 : decode bM_search 236 = .ok (.ireturn, 1) := by decide +kernel
theorem dM_next_0 : decode bM_next 0 = .ok (.iconst 0, 1) := by decide +kernel
theorem dM_next_1 : decode bM_next 1 = .ok (.istore_n 2, 1) := by decide +kernel
theorem dM_next_2 : decode bM_next 2 = .ok (.iload_n 1, 1) := by decide +kernel
theorem dM_next_3 : decode bM_next 3 = .ok (.ifCond .ne 32, 3) := by decide +kernel
theorem dM_next_6 : decode bM_next 6 = .ok (.aload_n 0, 1) := by decide +kernel
theorem dM_next_7 : decode bM_next 7 = .ok (.getfield 102, 3) := by decide +kernel
theorem dM_next_10 : decode bM_next 10 = .ok (.ifCond .le 25, 3) := by decide +kernel
theorem dM_next_13 : decode bM_next 13 = .ok (.aload_n 0, 1) := by decide +kernel
theorem dM_next_14 : decode bM_next 14 = .ok (.dup, 1) := by decide +kernel
theorem dM_next_15 : decode bM_next 15 = .ok (.getfield 102, 3) := by decide +kernel
theorem dM_next_18 : decode bM_next 18 = .ok (.iconst 1, 1) := by decide +kernel
theorem dM_next_19 : decode bM_next 19 = .ok (.isub, 1) := by decide +kernel
theorem dM_next_20 : decode bM_next 20 = .ok (.putfield 102, 3) := by decide +kernel
theorem dM_next_23 : decode bM_next 23 = .ok (.aload_n 0, 1) := by decide +kernel
theorem dM_next_24 : decode bM_next 24 = .ok (.getfield 44, 3) := by decide +kernel
theorem dM_next_27 : decode bM_next 27 = .ok (.aload_n 0, 1) := by decide +kernel
theorem dM_next_28 : decode bM_next 28 = .ok (.getfield 102, 3) := by decide +kernel
theorem dM_next_31 : decode bM_next 31 = .ok (.iaload, 1) := by decide +kernel
theorem dM_next_32 : decode bM_next 32 = .ok (.iconst 1, 1) := by decide +kernel
theorem dM_next_33 : decode bM_next 33 = .ok (.iadd, 1) := by decide +kernel
theorem dM_next_34 : decode bM_next 34 = .ok (.istore_n 2, 1) := by decide +kernel
theorem dM_next_35 : decode bM_next 35 = .ok (.aload_n 0, 1) := by decide +kernel
theorem dM_next_36 : decode bM_next 36 = .ok (.invokevirtual 113, 3) := by decide +kernel
theorem dM_next_39 : decode bM_next 39 = .ok (.istore_n 3, 1) := by decide +kernel
theorem dM_next_40 : decode bM_next 40 = .ok (.iload_n 2, 1) := by decide +kernel
theorem dM_next_41 : decode bM_next 41 = .ok (.istore 4, 2) := by decide +kernel
theorem dM_next_43 : decode bM_next 43 = .ok (.iload 4, 2) := by decide +kernel
theorem dM_next_45 : decode bM_next 45 = .ok (.aload_n 0, 1) := by decide +kernel
theorem dM_next_46 : decode bM_next 46 = .ok (.getfield 76, 3) := by decide +kernel
theorem dM_next_49 : decode bM_next 49 = .ok (.if_icmp .ge 41, 3) := by decide +kernel
theorem dM_next_52 : decode bM_next 52 = .ok (.iload_n 3, 1) := by decide +kernel
theorem dM_next_53 : decode bM_next 53 = .ok (.iload 4, 2) := by decide +kernel
theorem dM_next_55 : decode bM_next 55 = .ok (.invokestatic 116, 3) := by decide +kernel
theorem dM_next_58 : decode bM_next 58 = .ok (.ifCond .ne 26, 3) := by decide +kernel
theorem dM_next_61 : decode bM_next 61 = .ok (.aload_n 0, 1) := by decide +kernel
theorem dM_next_62 : decode bM_next 62 = .ok (.getfield 44, 3) := by decide +kernel
theorem dM_next_65 : decode bM_next 65 = .ok (.aload_n 0, 1) := by decide +kernel
theorem dM_next_66 : decode bM_next 66 = .ok (.getfield 102, 3) := by decide +kernel
theorem dM_next_69 : decode bM_next 69 = .ok (.iload 4, 2) := by decide +kernel
theorem dM_next_71 : decode bM_next 71 = .ok (.iastore, 1) := by decide +kernel
theorem dM_next_72 : decode bM_next 72 = .ok (.aload_n 0, 1) := by decide +kernel
theorem dM_next_73 : decode bM_next 73 = .ok (.dup, 1) := by decide +kernel
theorem dM_next_74 : decode bM_next 74 = .ok (.getfield 102, 3) := by decide +kernel
theorem dM_next_77 : decode bM_next 77 = .ok (.iconst 1, 1) := by decide +kernel
theorem dM_next_78 : decode bM_next 78 = .ok (.iadd, 1) := by decide +kernel
theorem dM_next_79 : decode bM_next 79 = .ok (.putfield 102, 3) := by decide +kernel
theorem dM_next_82 : decode bM_next 82 = .ok (.iconst 1, 1) := by decide +kernel
theorem dM_next_83 : decode bM_next 83 = .ok (.ireturn, 1) := by decide +kernel
theorem dM_next_84 : decode bM_next 84 = .ok (.iinc 4 1, 3) := by decide +kernel
theorem dM_next_87 : decode bM_next 87 = .ok (.goto (-44), 3) := by decide +kernel
theorem dM_next_90 : decode bM_next 90 = .ok (.aload_n 0, 1) := by decide +kernel
theorem dM_next_91 : decode bM_next 91 = .ok (.getfield 102, 3) := by decide +kernel
theorem dM_next_94 : decode bM_next 94 = .ok (.ifCond .ne 5, 3) := by decide +kernel
theorem dM_next_97 : decode bM_next 97 = .ok (.iconst 0, 1) := by decide +kernel
theorem dM_next_98 : decode bM_next 98 = .ok (.ireturn, 1) := by decide +kernel
theorem dM_next_99 : decode bM_next 99 = .ok (.aload_n 0, 1) := by decide +kernel
theorem dM_next_100 : decode bM_next 100 = .ok (.dup, 1) := by decide +kernel
theorem dM_next_101 : decode bM_next 101 = .ok (.getfield 102, 3) := by decide +kernel
theorem dM_next_104 : decode bM_next 104 = .ok (.iconst 1, 1) := by decide +kernel
theorem dM_next_105 : decode bM_next 105 = .ok (.isub, 1) := by decide +kernel
theorem dM_next_106 : decode bM_next 106 = .ok (.putfield 102, 3) := by decide +kernel
theorem dM_next_109 : decode bM_next 109 = .ok (.aload_n 0, 1) := by decide +kernel
theorem dM_next_110 : decode bM_next 110 = .ok (.getfield 44, 3) := by decide +kernel
theorem dM_next_113 : decode bM_next 113 = .ok (.aload_n 0, 1) := by decide +kernel
theorem dM_next_114 : decode bM_next 114 = .ok (.getfield 102, 3) := by decide +kernel
theorem dM_next_117 : decode bM_next 117 = .ok (.iaload, 1) := by decide +kernel
theorem dM_next_118 : decode bM_next 118 = .ok (.iconst 1, 1) := by decide +kernel
theorem dM_next_119 : decode bM_next 119 = .ok (.iadd, 1) := by decide +kernel
theorem dM_next_120 : decode bM_next 120 = .ok (.istore_n 2, 1) := by decide +kernel
theorem dM_next_121 : decode bM_next 121 = .ok (.goto (-86), 3) := by decide +kernel
theorem dM_setOf_0 : decode bM_setOf 0 = .ok (.iconst 0, 1) := by decide +kernel
theorem dM_setOf_1 : decode bM_setOf 1 = .ok (.istore_n 1, 1) := by decide +kernel
theorem dM_setOf_2 : decode bM_setOf 2 = .ok (.iconst 0, 1) := by decide +kernel
theorem dM_setOf_3 : decode bM_setOf 3 = .ok (.istore_n 2, 1) := by decide +kernel
theorem dM_setOf_4 : decode bM_setOf 4 = .ok (.iload_n 2, 1) := by decide +kernel
theorem dM_setOf_5 : decode bM_setOf 5 = .ok (.aload_n 0, 1) := by decide +kernel
theorem dM_setOf_6 : decode bM_setOf 6 = .ok (.getfield 102, 3) := by decide +kernel
theorem dM_setOf_9 : decode bM_setOf 9 = .ok (.if_icmp .ge 20, 3) := by decide +kernel
theorem dM_setOf_12 : decode bM_setOf 12 = .ok (.iload_n 1, 1) := by decide +kernel
theorem dM_setOf_13 : decode bM_setOf 13 = .ok (.iconst 1, 1) := by decide +kernel
theorem dM_setOf_14 : decode bM_setOf 14 = .ok (.aload_n 0, 1) := by decide +kernel
theorem dM_setOf_15 : decode bM_setOf 15 = .ok (.getfield 44, 3) := by decide +kernel
theorem dM_setOf_18 : decode bM_setOf 18 = .ok (.iload_n 2, 1) := by decide +kernel
theorem dM_setOf_19 : decode bM_setOf 19 = .ok (.iaload, 1) := by decide +kernel
theorem dM_setOf_20 : decode bM_setOf 20 = .ok (.ishl, 1) := by decide +kernel
theorem dM_setOf_21 : decode bM_setOf 21 = .ok (.ior, 1) := by decide +kernel
theorem dM_setOf_22 : decode bM_setOf 22 = .ok (.istore_n 1, 1) := by decide +kernel
theorem dM_setOf_23 : decode bM_setOf 23 = .ok (.iinc 2 1, 3) := by decide +kernel
theorem dM_setOf_26 : decode bM_setOf 26 = .ok (.goto (-22), 3) := by decide +kernel
theorem dM_setOf_29 : decode bM_setOf 29 = .ok (.iload_n 1, 1) := by decide +kernel
theorem dM_setOf_30 : decode bM_setOf 30 = .ok (.ireturn, 1) := by decide +kernel
theorem dM_has_0 : decode bM_has 0 = .ok (.iload_n 0, 1) := by decide +kernel
theorem dM_has_1 : decode bM_has 1 = .ok (.iload_n 1, 1) := by decide +kernel
theorem dM_has_2 : decode bM_has 2 = .ok (.ishr, 1) := by decide +kernel
theorem dM_has_3 : decode bM_has 3 = .ok (.iconst 1, 1) := by decide +kernel
theorem dM_has_4 : decode bM_has 4 = .ok (.iand, 1) := by decide +kernel
theorem dM_has_5 : decode bM_has 5 = .ok (.iconst 1, 1) := by decide +kernel
theorem dM_has_6 : decode bM_has 6 = .ok (.if_icmp .ne 7, 3) := by decide +kernel
theorem dM_has_9 : decode bM_has 9 = .ok (.iconst 1, 1) := by decide +kernel
theorem dM_has_10 : decode bM_has 10 = .ok (.goto 4, 3) := by decide +kernel
theorem dM_has_13 : decode bM_has 13 = .ok (.iconst 0, 1) := by decide +kernel
theorem dM_has_14 : decode bM_has 14 = .ok (.ireturn, 1) := by decide +kernel
theorem dM_isRow_0 : decode bM_isRow 0 = .ok (.iconst 0, 1) := by decide +kernel
theorem dM_isRow_1 : decode bM_isRow 1 = .ok (.istore_n 1, 1) := by decide +kernel
theorem dM_isRow_2 : decode bM_isRow 2 = .ok (.iconst 0, 1) := by decide +kernel
theorem dM_isRow_3 : decode bM_isRow 3 = .ok (.istore_n 2, 1) := by decide +kernel
theorem dM_isRow_4 : decode bM_isRow 4 = .ok (.iload_n 2, 1) := by decide +kernel
theorem dM_isRow_5 : decode bM_isRow 5 = .ok (.aload_n 0, 1) := by decide +kernel
theorem dM_isRow_6 : decode bM_isRow 6 = .ok (.getfield 102, 3) := by decide +kernel
theorem dM_isRow_9 : decode bM_isRow 9 = .ok (.if_icmp .ge 23, 3) := by decide +kernel
theorem dM_isRow_12 : decode bM_isRow 12 = .ok (.iload_n 1, 1) := by decide +kernel
theorem dM_isRow_13 : decode bM_isRow 13 = .ok (.aload_n 0, 1) := by decide +kernel
theorem dM_isRow_14 : decode bM_isRow 14 = .ok (.getfield 7, 3) := by decide +kernel
theorem dM_isRow_17 : decode bM_isRow 17 = .ok (.aload_n 0, 1) := by decide +kernel
theorem dM_isRow_18 : decode bM_isRow 18 = .ok (.getfield 44, 3) := by decide +kernel
theorem dM_isRow_21 : decode bM_isRow 21 = .ok (.iload_n 2, 1) := by decide +kernel
theorem dM_isRow_22 : decode bM_isRow 22 = .ok (.iaload, 1) := by decide +kernel
theorem dM_isRow_23 : decode bM_isRow 23 = .ok (.iaload, 1) := by decide +kernel
theorem dM_isRow_24 : decode bM_isRow 24 = .ok (.iadd, 1) := by decide +kernel
theorem dM_isRow_25 : decode bM_isRow 25 = .ok (.istore_n 1, 1) := by decide +kernel
theorem dM_isRow_26 : decode bM_isRow 26 = .ok (.iinc 2 1, 3) := by decide +kernel
theorem dM_isRow_29 : decode bM_isRow 29 = .ok (.goto (-25), 3) := by decide +kernel
theorem dM_isRow_32 : decode bM_isRow 32 = .ok (.aload_n 0, 1) := by decide +kernel
theorem dM_isRow_33 : decode bM_isRow 33 = .ok (.invokevirtual 105, 3) := by decide +kernel
theorem dM_isRow_36 : decode bM_isRow 36 = .ok (.istore_n 2, 1) := by decide +kernel
theorem dM_isRow_37 : decode bM_isRow 37 = .ok (.iload_n 1, 1) := by decide +kernel
theorem dM_isRow_38 : decode bM_isRow 38 = .ok (.aload_n 0, 1) := by decide +kernel
theorem dM_isRow_39 : decode bM_isRow 39 = .ok (.getfield 93, 3) := by decide +kernel
theorem dM_isRow_42 : decode bM_isRow 42 = .ok (.if_icmp .gt 19, 3) := by decide +kernel
theorem dM_isRow_45 : decode bM_isRow 45 = .ok (.iload_n 2, 1) := by decide +kernel
theorem dM_isRow_46 : decode bM_isRow 46 = .ok (.ifCond .lt 15, 3) := by decide +kernel
theorem dM_isRow_49 : decode bM_isRow 49 = .ok (.iload_n 2, 1) := by decide +kernel
theorem dM_isRow_50 : decode bM_isRow 50 = .ok (.aload_n 0, 1) := by decide +kernel
theorem dM_isRow_51 : decode bM_isRow 51 = .ok (.getfield 96, 3) := by decide +kernel
theorem dM_isRow_54 : decode bM_isRow 54 = .ok (.if_icmp .gt 7, 3) := by decide +kernel
theorem dM_isRow_57 : decode bM_isRow 57 = .ok (.iconst 1, 1) := by decide +kernel
theorem dM_isRow_58 : decode bM_isRow 58 = .ok (.goto 4, 3) := by decide +kernel
theorem dM_isRow_61 : decode bM_isRow 61 = .ok (.iconst 0, 1) := by decide +kernel
theorem dM_isRow_62 : decode bM_isRow 62 = .ok (.ireturn, 1) := by decide +kernel
theorem dM_secondsOf_0 : decode bM_secondsOf 0 = .ok (.iconst 0, 1) := by decide +kernel
theorem dM_secondsOf_1 : decode bM_secondsOf 1 = .ok (.istore_n 1, 1) := by decide +kernel
theorem dM_secondsOf_2 : decode bM_secondsOf 2 = .ok (.iconst 0, 1) := by decide +kernel
theorem dM_secondsOf_3 : decode bM_secondsOf 3 = .ok (.istore_n 2, 1) := by decide +kernel
theorem dM_secondsOf_4 : decode bM_secondsOf 4 = .ok (.iload_n 2, 1) := by decide +kernel
theorem dM_secondsOf_5 : decode bM_secondsOf 5 = .ok (.aload_n 0, 1) := by decide +kernel
theorem dM_secondsOf_6 : decode bM_secondsOf 6 = .ok (.getfield 102, 3) := by decide +kernel
theorem dM_secondsOf_9 : decode bM_secondsOf 9 = .ok (.if_icmp .ge 67, 3) := by decide +kernel
theorem dM_secondsOf_12 : decode bM_secondsOf 12 = .ok (.aload_n 0, 1) := by decide +kernel
theorem dM_secondsOf_13 : decode bM_secondsOf 13 = .ok (.getfield 16, 3) := by decide +kernel
theorem dM_secondsOf_16 : decode bM_secondsOf 16 = .ok (.bipush 7, 2) := by decide +kernel
theorem dM_secondsOf_18 : decode bM_secondsOf 18 = .ok (.iload_n 2, 1) := by decide +kernel
theorem dM_secondsOf_19 : decode bM_secondsOf 19 = .ok (.ifCond .ne 7, 3) := by decide +kernel
theorem dM_secondsOf_22 : decode bM_secondsOf 22 = .ok (.iconst 0, 1) := by decide +kernel
theorem dM_secondsOf_23 : decode bM_secondsOf 23 = .ok (.goto 13, 3) := by decide +kernel
theorem dM_secondsOf_26 : decode bM_secondsOf 26 = .ok (.aload_n 0, 1) := by decide +kernel
theorem dM_secondsOf_27 : decode bM_secondsOf 27 = .ok (.getfield 44, 3) := by decide +kernel
theorem dM_secondsOf_30 : decode bM_secondsOf 30 = .ok (.iload_n 2, 1) := by decide +kernel
theorem dM_secondsOf_31 : decode bM_secondsOf 31 = .ok (.iconst 1, 1) := by decide +kernel
theorem dM_secondsOf_32 : decode bM_secondsOf 32 = .ok (.isub, 1) := by decide +kernel
theorem dM_secondsOf_33 : decode bM_secondsOf 33 = .ok (.iaload, 1) := by decide +kernel
theorem dM_secondsOf_34 : decode bM_secondsOf 34 = .ok (.iconst 1, 1) := by decide +kernel
theorem dM_secondsOf_35 : decode bM_secondsOf 35 = .ok (.iadd, 1) := by decide +kernel
theorem dM_secondsOf_36 : decode bM_secondsOf 36 = .ok (.imul, 1) := by decide +kernel
theorem dM_secondsOf_37 : decode bM_secondsOf 37 = .ok (.aload_n 0, 1) := by decide +kernel
theorem dM_secondsOf_38 : decode bM_secondsOf 38 = .ok (.getfield 44, 3) := by decide +kernel
theorem dM_secondsOf_41 : decode bM_secondsOf 41 = .ok (.iload_n 2, 1) := by decide +kernel
theorem dM_secondsOf_42 : decode bM_secondsOf 42 = .ok (.iaload, 1) := by decide +kernel
theorem dM_secondsOf_43 : decode bM_secondsOf 43 = .ok (.iadd, 1) := by decide +kernel
theorem dM_secondsOf_44 : decode bM_secondsOf 44 = .ok (.iconst 1, 1) := by decide +kernel
theorem dM_secondsOf_45 : decode bM_secondsOf 45 = .ok (.iadd, 1) := by decide +kernel
theorem dM_secondsOf_46 : decode bM_secondsOf 46 = .ok (.iaload, 1) := by decide +kernel
theorem dM_secondsOf_47 : decode bM_secondsOf 47 = .ok (.istore_n 3, 1) := by decide +kernel
theorem dM_secondsOf_48 : decode bM_secondsOf 48 = .ok (.iload_n 3, 1) := by decide +kernel
theorem dM_secondsOf_49 : decode bM_secondsOf 49 = .ok (.ifCond .ge 5, 3) := by decide +kernel
theorem dM_secondsOf_52 : decode bM_secondsOf 52 = .ok (.iconst (-1), 1) := by decide +kernel
theorem dM_secondsOf_53 : decode bM_secondsOf 53 = .ok (.ireturn, 1) := by decide +kernel
theorem dM_secondsOf_54 : decode bM_secondsOf 54 = .ok (.iload_n 1, 1) := by decide +kernel
theorem dM_secondsOf_55 : decode bM_secondsOf 55 = .ok (.iload_n 3, 1) := by decide +kernel
theorem dM_secondsOf_56 : decode bM_secondsOf 56 = .ok (.aload_n 0, 1) := by decide +kernel
theorem dM_secondsOf_57 : decode bM_secondsOf 57 = .ok (.getfield 13, 3) := by decide +kernel
theorem dM_secondsOf_60 : decode bM_secondsOf 60 = .ok (.aload_n 0, 1) := by decide +kernel
theorem dM_secondsOf_61 : decode bM_secondsOf 61 = .ok (.getfield 44, 3) := by decide +kernel
theorem dM_secondsOf_64 : decode bM_secondsOf 64 = .ok (.iload_n 2, 1) := by decide +kernel
theorem dM_secondsOf_65 : decode bM_secondsOf 65 = .ok (.iaload, 1) := by decide +kernel
theorem dM_secondsOf_66 : decode bM_secondsOf 66 = .ok (.iaload, 1) := by decide +kernel
theorem dM_secondsOf_67 : decode bM_secondsOf 67 = .ok (.iadd, 1) := by decide +kernel
theorem dM_secondsOf_68 : decode bM_secondsOf 68 = .ok (.iadd, 1) := by decide +kernel
theorem dM_secondsOf_69 : decode bM_secondsOf 69 = .ok (.istore_n 1, 1) := by decide +kernel
theorem dM_secondsOf_70 : decode bM_secondsOf 70 = .ok (.iinc 2 1, 3) := by decide +kernel
theorem dM_secondsOf_73 : decode bM_secondsOf 73 = .ok (.goto (-69), 3) := by decide +kernel
theorem dM_secondsOf_76 : decode bM_secondsOf 76 = .ok (.iload_n 1, 1) := by decide +kernel
theorem dM_secondsOf_77 : decode bM_secondsOf 77 = .ok (.ireturn, 1) := by decide +kernel
theorem dM_isRound_0 : decode bM_isRound 0 = .ok (.aload_n 0, 1) := by decide +kernel
theorem dM_isRound_1 : decode bM_isRound 1 = .ok (.getfield 16, 3) := by decide +kernel
theorem dM_isRound_4 : decode bM_isRound 4 = .ok (.bipush 7, 2) := by decide +kernel
theorem dM_isRound_6 : decode bM_isRound 6 = .ok (.aload_n 0, 1) := by decide +kernel
theorem dM_isRound_7 : decode bM_isRound 7 = .ok (.getfield 44, 3) := by decide +kernel
theorem dM_isRound_10 : decode bM_isRound 10 = .ok (.aload_n 0, 1) := by decide +kernel
theorem dM_isRound_11 : decode bM_isRound 11 = .ok (.getfield 102, 3) := by decide +kernel
theorem dM_isRound_14 : decode bM_isRound 14 = .ok (.iconst 1, 1) := by decide +kernel
theorem dM_isRound_15 : decode bM_isRound 15 = .ok (.isub, 1) := by decide +kernel
theorem dM_isRound_16 : decode bM_isRound 16 = .ok (.iaload, 1) := by decide +kernel
theorem dM_isRound_17 : decode bM_isRound 17 = .ok (.iconst 1, 1) := by decide +kernel
theorem dM_isRound_18 : decode bM_isRound 18 = .ok (.iadd, 1) := by decide +kernel
theorem dM_isRound_19 : decode bM_isRound 19 = .ok (.imul, 1) := by decide +kernel
theorem dM_isRound_20 : decode bM_isRound 20 = .ok (.iaload, 1) := by decide +kernel
theorem dM_isRound_21 : decode bM_isRound 21 = .ok (.istore_n 1, 1) := by decide +kernel
theorem dM_isRound_22 : decode bM_isRound 22 = .ok (.aload_n 0, 1) := by decide +kernel
theorem dM_isRound_23 : decode bM_isRound 23 = .ok (.invokevirtual 109, 3) := by decide +kernel
theorem dM_isRound_26 : decode bM_isRound 26 = .ok (.ifCond .eq 24, 3) := by decide +kernel
theorem dM_isRound_29 : decode bM_isRound 29 = .ok (.iload_n 1, 1) := by decide +kernel
theorem dM_isRound_30 : decode bM_isRound 30 = .ok (.ifCond .lt 20, 3) := by decide +kernel
theorem dM_isRound_33 : decode bM_isRound 33 = .ok (.aload_n 0, 1) := by decide +kernel
theorem dM_isRound_34 : decode bM_isRound 34 = .ok (.invokevirtual 105, 3) := by decide +kernel
theorem dM_isRound_37 : decode bM_isRound 37 = .ok (.iload_n 1, 1) := by decide +kernel
theorem dM_isRound_38 : decode bM_isRound 38 = .ok (.iadd, 1) := by decide +kernel
theorem dM_isRound_39 : decode bM_isRound 39 = .ok (.aload_n 0, 1) := by decide +kernel
theorem dM_isRound_40 : decode bM_isRound 40 = .ok (.getfield 96, 3) := by decide +kernel
theorem dM_isRound_43 : decode bM_isRound 43 = .ok (.if_icmp .gt 7, 3) := by decide +kernel
theorem dM_isRound_46 : decode bM_isRound 46 = .ok (.iconst 1, 1) := by decide +kernel
theorem dM_isRound_47 : decode bM_isRound 47 = .ok (.goto 4, 3) := by decide +kernel
theorem dM_isRound_50 : decode bM_isRound 50 = .ok (.iconst 0, 1) := by decide +kernel
theorem dM_isRound_51 : decode bM_isRound 51 = .ok (.ireturn, 1) := by decide +kernel
theorem dM_costOf_0 : decode bM_costOf 0 = .ok (.aload_n 0, 1) := by decide +kernel
theorem dM_costOf_1 : decode bM_costOf 1 = .ok (.getfield 19, 3) := by decide +kernel
theorem dM_costOf_4 : decode bM_costOf 4 = .ok (.bipush 7, 2) := by decide +kernel
theorem dM_costOf_6 : decode bM_costOf 6 = .ok (.aload_n 0, 1) := by decide +kernel
theorem dM_costOf_7 : decode bM_costOf 7 = .ok (.getfield 44, 3) := by decide +kernel
theorem dM_costOf_10 : decode bM_costOf 10 = .ok (.aload_n 0, 1) := by decide +kernel
theorem dM_costOf_11 : decode bM_costOf 11 = .ok (.getfield 102, 3) := by decide +kernel
theorem dM_costOf_14 : decode bM_costOf 14 = .ok (.iconst 1, 1) := by decide +kernel
theorem dM_costOf_15 : decode bM_costOf 15 = .ok (.isub, 1) := by decide +kernel
theorem dM_costOf_16 : decode bM_costOf 16 = .ok (.iaload, 1) := by decide +kernel
theorem dM_costOf_17 : decode bM_costOf 17 = .ok (.iconst 1, 1) := by decide +kernel
theorem dM_costOf_18 : decode bM_costOf 18 = .ok (.iadd, 1) := by decide +kernel
theorem dM_costOf_19 : decode bM_costOf 19 = .ok (.imul, 1) := by decide +kernel
theorem dM_costOf_20 : decode bM_costOf 20 = .ok (.iaload, 1) := by decide +kernel
theorem dM_costOf_21 : decode bM_costOf 21 = .ok (.istore_n 1, 1) := by decide +kernel
theorem dM_costOf_22 : decode bM_costOf 22 = .ok (.iconst 0, 1) := by decide +kernel
theorem dM_costOf_23 : decode bM_costOf 23 = .ok (.istore_n 2, 1) := by decide +kernel
theorem dM_costOf_24 : decode bM_costOf 24 = .ok (.iload_n 2, 1) := by decide +kernel
theorem dM_costOf_25 : decode bM_costOf 25 = .ok (.aload_n 0, 1) := by decide +kernel
theorem dM_costOf_26 : decode bM_costOf 26 = .ok (.getfield 102, 3) := by decide +kernel
theorem dM_costOf_29 : decode bM_costOf 29 = .ok (.if_icmp .ge 47, 3) := by decide +kernel
theorem dM_costOf_32 : decode bM_costOf 32 = .ok (.iload_n 1, 1) := by decide +kernel
theorem dM_costOf_33 : decode bM_costOf 33 = .ok (.aload_n 0, 1) := by decide +kernel
theorem dM_costOf_34 : decode bM_costOf 34 = .ok (.getfield 19, 3) := by decide +kernel
theorem dM_costOf_37 : decode bM_costOf 37 = .ok (.bipush 7, 2) := by decide +kernel
theorem dM_costOf_39 : decode bM_costOf 39 = .ok (.iload_n 2, 1) := by decide +kernel
theorem dM_costOf_40 : decode bM_costOf 40 = .ok (.ifCond .ne 7, 3) := by decide +kernel
theorem dM_costOf_43 : decode bM_costOf 43 = .ok (.iconst 0, 1) := by decide +kernel
theorem dM_costOf_44 : decode bM_costOf 44 = .ok (.goto 13, 3) := by decide +kernel
theorem dM_costOf_47 : decode bM_costOf 47 = .ok (.aload_n 0, 1) := by decide +kernel
theorem dM_costOf_48 : decode bM_costOf 48 = .ok (.getfield 44, 3) := by decide +kernel
theorem dM_costOf_51 : decode bM_costOf 51 = .ok (.iload_n 2, 1) := by decide +kernel
theorem dM_costOf_52 : decode bM_costOf 52 = .ok (.iconst 1, 1) := by decide +kernel
theorem dM_costOf_53 : decode bM_costOf 53 = .ok (.isub, 1) := by decide +kernel
theorem dM_costOf_54 : decode bM_costOf 54 = .ok (.iaload, 1) := by decide +kernel
theorem dM_costOf_55 : decode bM_costOf 55 = .ok (.iconst 1, 1) := by decide +kernel
theorem dM_costOf_56 : decode bM_costOf 56 = .ok (.iadd, 1) := by decide +kernel
theorem dM_costOf_57 : decode bM_costOf 57 = .ok (.imul, 1) := by decide +kernel
theorem dM_costOf_58 : decode bM_costOf 58 = .ok (.aload_n 0, 1) := by decide +kernel
theorem dM_costOf_59 : decode bM_costOf 59 = .ok (.getfield 44, 3) := by decide +kernel
theorem dM_costOf_62 : decode bM_costOf 62 = .ok (.iload_n 2, 1) := by decide +kernel
theorem dM_costOf_63 : decode bM_costOf 63 = .ok (.iaload, 1) := by decide +kernel
theorem dM_costOf_64 : decode bM_costOf 64 = .ok (.iadd, 1) := by decide +kernel
theorem dM_costOf_65 : decode bM_costOf 65 = .ok (.iconst 1, 1) := by decide +kernel
theorem dM_costOf_66 : decode bM_costOf 66 = .ok (.iadd, 1) := by decide +kernel
theorem dM_costOf_67 : decode bM_costOf 67 = .ok (.iaload, 1) := by decide +kernel
theorem dM_costOf_68 : decode bM_costOf 68 = .ok (.iadd, 1) := by decide +kernel
theorem dM_costOf_69 : decode bM_costOf 69 = .ok (.istore_n 1, 1) := by decide +kernel
theorem dM_costOf_70 : decode bM_costOf 70 = .ok (.iinc 2 1, 3) := by decide +kernel
theorem dM_costOf_73 : decode bM_costOf 73 = .ok (.goto (-49), 3) := by decide +kernel
theorem dM_costOf_76 : decode bM_costOf 76 = .ok (.iload_n 1, 1) := by decide +kernel
theorem dM_costOf_77 : decode bM_costOf 77 = .ok (.ireturn, 1) := by decide +kernel
theorem dM_isBarred_0 : decode bM_isBarred 0 = .ok (.iconst 0, 1) := by decide +kernel
theorem dM_isBarred_1 : decode bM_isBarred 1 = .ok (.istore_n 2, 1) := by decide +kernel
theorem dM_isBarred_2 : decode bM_isBarred 2 = .ok (.iconst 0, 1) := by decide +kernel
theorem dM_isBarred_3 : decode bM_isBarred 3 = .ok (.istore_n 3, 1) := by decide +kernel
theorem dM_isBarred_4 : decode bM_isBarred 4 = .ok (.iload_n 3, 1) := by decide +kernel
theorem dM_isBarred_5 : decode bM_isBarred 5 = .ok (.aload_n 0, 1) := by decide +kernel
theorem dM_isBarred_6 : decode bM_isBarred 6 = .ok (.getfield 76, 3) := by decide +kernel
theorem dM_isBarred_9 : decode bM_isBarred 9 = .ok (.if_icmp .ge 91, 3) := by decide +kernel
theorem dM_isBarred_12 : decode bM_isBarred 12 = .ok (.iconst 0, 1) := by decide +kernel
theorem dM_isBarred_13 : decode bM_isBarred 13 = .ok (.istore 4, 2) := by decide +kernel
theorem dM_isBarred_15 : decode bM_isBarred 15 = .ok (.iload 4, 2) := by decide +kernel
theorem dM_isBarred_17 : decode bM_isBarred 17 = .ok (.iload_n 3, 1) := by decide +kernel
theorem dM_isBarred_18 : decode bM_isBarred 18 = .ok (.if_icmp .ge 76, 3) := by decide +kernel
theorem dM_isBarred_21 : decode bM_isBarred 21 = .ok (.aload_n 0, 1) := by decide +kernel
theorem dM_isBarred_22 : decode bM_isBarred 22 = .ok (.getfield 22, 3) := by decide +kernel
theorem dM_isBarred_25 : decode bM_isBarred 25 = .ok (.bipush 6, 2) := by decide +kernel
theorem dM_isBarred_27 : decode bM_isBarred 27 = .ok (.iload_n 3, 1) := by decide +kernel
theorem dM_isBarred_28 : decode bM_isBarred 28 = .ok (.imul, 1) := by decide +kernel
theorem dM_isBarred_29 : decode bM_isBarred 29 = .ok (.iload 4, 2) := by decide +kernel
theorem dM_isBarred_31 : decode bM_isBarred 31 = .ok (.iadd, 1) := by decide +kernel
theorem dM_isBarred_32 : decode bM_isBarred 32 = .ok (.iaload, 1) := by decide +kernel
theorem dM_isBarred_33 : decode bM_isBarred 33 = .ok (.istore 5, 2) := by decide +kernel
theorem dM_isBarred_35 : decode bM_isBarred 35 = .ok (.iload_n 2, 1) := by decide +kernel
theorem dM_isBarred_36 : decode bM_isBarred 36 = .ok (.ifCond .ne 46, 3) := by decide +kernel
theorem dM_isBarred_39 : decode bM_isBarred 39 = .ok (.iload 5, 2) := by decide +kernel
theorem dM_isBarred_41 : decode bM_isBarred 41 = .ok (.iconst 1, 1) := by decide +kernel
theorem dM_isBarred_42 : decode bM_isBarred 42 = .ok (.if_icmp .ne 17, 3) := by decide +kernel
theorem dM_isBarred_45 : decode bM_isBarred 45 = .ok (.iload_n 1, 1) := by decide +kernel
theorem dM_isBarred_46 : decode bM_isBarred 46 = .ok (.iload_n 3, 1) := by decide +kernel
theorem dM_isBarred_47 : decode bM_isBarred 47 = .ok (.invokestatic 116, 3) := by decide +kernel
theorem dM_isBarred_50 : decode bM_isBarred 50 = .ok (.iload_n 1, 1) := by decide +kernel
theorem dM_isBarred_51 : decode bM_isBarred 51 = .ok (.iload 4, 2) := by decide +kernel
theorem dM_isBarred_53 : decode bM_isBarred 53 = .ok (.invokestatic 116, 3) := by decide +kernel
theorem dM_isBarred_56 : decode bM_isBarred 56 = .ok (.if_icmp .ne 26, 3) := by decide +kernel
theorem dM_isBarred_59 : decode bM_isBarred 59 = .ok (.iload 5, 2) := by decide +kernel
theorem dM_isBarred_61 : decode bM_isBarred 61 = .ok (.iconst 2, 1) := by decide +kernel
theorem dM_isBarred_62 : decode bM_isBarred 62 = .ok (.if_icmp .ne 24, 3) := by decide +kernel
theorem dM_isBarred_65 : decode bM_isBarred 65 = .ok (.iload_n 1, 1) := by decide +kernel
theorem dM_isBarred_66 : decode bM_isBarred 66 = .ok (.iload_n 3, 1) := by decide +kernel
theorem dM_isBarred_67 : decode bM_isBarred 67 = .ok (.invokestatic 116, 3) := by decide +kernel
theorem dM_isBarred_70 : decode bM_isBarred 70 = .ok (.ifCond .eq 16, 3) := by decide +kernel
theorem dM_isBarred_73 : decode bM_isBarred 73 = .ok (.iload_n 1, 1) := by decide +kernel
theorem dM_isBarred_74 : decode bM_isBarred 74 = .ok (.iload 4, 2) := by decide +kernel
theorem dM_isBarred_76 : decode bM_isBarred 76 = .ok (.invokestatic 116, 3) := by decide +kernel
theorem dM_isBarred_79 : decode bM_isBarred 79 = .ok (.ifCond .eq 7, 3) := by decide +kernel
theorem dM_isBarred_82 : decode bM_isBarred 82 = .ok (.iconst 1, 1) := by decide +kernel
theorem dM_isBarred_83 : decode bM_isBarred 83 = .ok (.goto 4, 3) := by decide +kernel
theorem dM_isBarred_86 : decode bM_isBarred 86 = .ok (.iconst 0, 1) := by decide +kernel
theorem dM_isBarred_87 : decode bM_isBarred 87 = .ok (.istore_n 2, 1) := by decide +kernel
theorem dM_isBarred_88 : decode bM_isBarred 88 = .ok (.iinc 4 1, 3) := by decide +kernel
theorem dM_isBarred_91 : decode bM_isBarred 91 = .ok (.goto (-76), 3) := by decide +kernel
theorem dM_isBarred_94 : decode bM_isBarred 94 = .ok (.iinc 3 1, 3) := by decide +kernel
theorem dM_isBarred_97 : decode bM_isBarred 97 = .ok (.goto (-93), 3) := by decide +kernel
theorem dM_isBarred_100 : decode bM_isBarred 100 = .ok (.iload_n 2, 1) := by decide +kernel
theorem dM_isBarred_101 : decode bM_isBarred 101 = .ok (.ireturn, 1) := by decide +kernel
theorem dM_all_0 : decode bM_all 0 = .ok (.iconst 1, 1) := by decide +kernel
theorem dM_all_1 : decode bM_all 1 = .ok (.aload_n 0, 1) := by decide +kernel
theorem dM_all_2 : decode bM_all 2 = .ok (.getfield 137, 3) := by decide +kernel
theorem dM_all_5 : decode bM_all 5 = .ok (.ishl, 1) := by decide +kernel
theorem dM_all_6 : decode bM_all 6 = .ok (.iconst 1, 1) := by decide +kernel
theorem dM_all_7 : decode bM_all 7 = .ok (.isub, 1) := by decide +kernel
theorem dM_all_8 : decode bM_all 8 = .ok (.ireturn, 1) := by decide +kernel
theorem dM_solve_0 : decode bM_solve 0 = .ok (.iconst 0, 1) := by decide +kernel
theorem dM_solve_1 : decode bM_solve 1 = .ok (.istore_n 3, 1) := by decide +kernel
theorem dM_solve_2 : decode bM_solve 2 = .ok (.iload_n 3, 1) := by decide +kernel
theorem dM_solve_3 : decode bM_solve 3 = .ok (.bipush 64, 2) := by decide +kernel
theorem dM_solve_5 : decode bM_solve 5 = .ok (.if_icmp .ge 48, 3) := by decide +kernel
theorem dM_solve_8 : decode bM_solve 8 = .ok (.aload_n 0, 1) := by decide +kernel
theorem dM_solve_9 : decode bM_solve 9 = .ok (.getfield 69, 3) := by decide +kernel
theorem dM_solve_12 : decode bM_solve 12 = .ok (.iload_n 3, 1) := by decide +kernel
theorem dM_solve_13 : decode bM_solve 13 = .ok (.iload_n 3, 1) := by decide +kernel
theorem dM_solve_14 : decode bM_solve 14 = .ok (.ifCond .eq 27, 3) := by decide +kernel
theorem dM_solve_17 : decode bM_solve 17 = .ok (.aload_n 0, 1) := by decide +kernel
theorem dM_solve_18 : decode bM_solve 18 = .ok (.getfield 35, 3) := by decide +kernel
theorem dM_solve_21 : decode bM_solve 21 = .ok (.iload_n 3, 1) := by decide +kernel
theorem dM_solve_22 : decode bM_solve 22 = .ok (.iaload, 1) := by decide +kernel
theorem dM_solve_23 : decode bM_solve 23 = .ok (.ifCond .lt 22, 3) := by decide +kernel
theorem dM_solve_26 : decode bM_solve 26 = .ok (.aload_n 0, 1) := by decide +kernel
theorem dM_solve_27 : decode bM_solve 27 = .ok (.getfield 41, 3) := by decide +kernel
theorem dM_solve_30 : decode bM_solve 30 = .ok (.iload_n 3, 1) := by decide +kernel
theorem dM_solve_31 : decode bM_solve 31 = .ok (.baload, 1) := by decide +kernel
theorem dM_solve_32 : decode bM_solve 32 = .ok (.ifCond .ne 13, 3) := by decide +kernel
theorem dM_solve_35 : decode bM_solve 35 = .ok (.iload_n 3, 1) := by decide +kernel
theorem dM_solve_36 : decode bM_solve 36 = .ok (.iload_n 2, 1) := by decide +kernel
theorem dM_solve_37 : decode bM_solve 37 = .ok (.iand, 1) := by decide +kernel
theorem dM_solve_38 : decode bM_solve 38 = .ok (.ifCond .ne 7, 3) := by decide +kernel
theorem dM_solve_41 : decode bM_solve 41 = .ok (.iconst 1, 1) := by decide +kernel
theorem dM_solve_42 : decode bM_solve 42 = .ok (.goto 4, 3) := by decide +kernel
theorem dM_solve_45 : decode bM_solve 45 = .ok (.iconst 0, 1) := by decide +kernel
theorem dM_solve_46 : decode bM_solve 46 = .ok (.bastore, 1) := by decide +kernel
theorem dM_solve_47 : decode bM_solve 47 = .ok (.iinc 3 1, 3) := by decide +kernel
theorem dM_solve_50 : decode bM_solve 50 = .ok (.goto (-48), 3) := by decide +kernel
theorem dM_solve_53 : decode bM_solve 53 = .ok (.aload_n 0, 1) := by decide +kernel
theorem dM_solve_54 : decode bM_solve 54 = .ok (.iload_n 1, 1) := by decide +kernel
theorem dM_solve_55 : decode bM_solve 55 = .ok (.invokevirtual 181, 3) := by decide +kernel
theorem dM_solve_58 : decode bM_solve 58 = .ok (.aload_n 0, 1) := by decide +kernel
theorem dM_solve_59 : decode bM_solve 59 = .ok (.invokevirtual 185, 3) := by decide +kernel
theorem dM_solve_62 : decode bM_solve 62 = .ok (.aload_n 0, 1) := by decide +kernel
theorem dM_solve_63 : decode bM_solve 63 = .ok (.getfield 59, 3) := by decide +kernel
theorem dM_solve_66 : decode bM_solve 66 = .ok (.sipush 575, 3) := by decide +kernel
theorem dM_solve_69 : decode bM_solve 69 = .ok (.laload, 1) := by decide +kernel
theorem dM_solve_70 : decode bM_solve 70 = .ok (.lconst 0, 1) := by decide +kernel
theorem dM_solve_71 : decode bM_solve 71 = .ok (.lcmp, 1) := by decide +kernel
theorem dM_solve_72 : decode bM_solve 72 = .ok (.ifCond .eq 5, 3) := by decide +kernel
theorem dM_solve_75 : decode bM_solve 75 = .ok (.iconst 0, 1) := by decide +kernel
theorem dM_solve_76 : decode bM_solve 76 = .ok (.ireturn, 1) := by decide +kernel
theorem dM_solve_77 : decode bM_solve 77 = .ok (.aload_n 0, 1) := by decide +kernel
theorem dM_solve_78 : decode bM_solve 78 = .ok (.invokevirtual 188, 3) := by decide +kernel
theorem dM_solve_81 : decode bM_solve 81 = .ok (.aload_n 0, 1) := by decide +kernel
theorem dM_solve_82 : decode bM_solve 82 = .ok (.iconst 0, 1) := by decide +kernel
theorem dM_solve_83 : decode bM_solve 83 = .ok (.invokevirtual 191, 3) := by decide +kernel
theorem dM_solve_86 : decode bM_solve 86 = .ok (.aload_n 0, 1) := by decide +kernel
theorem dM_solve_87 : decode bM_solve 87 = .ok (.invokevirtual 185, 3) := by decide +kernel
theorem dM_solve_90 : decode bM_solve 90 = .ok (.iconst 1, 1) := by decide +kernel
theorem dM_solve_91 : decode bM_solve 91 = .ok (.ireturn, 1) := by decide +kernel
theorem dM_layOut_0 : decode bM_layOut 0 = .ok (.iconst 0, 1) := by decide +kernel
theorem dM_layOut_1 : decode bM_layOut 1 = .ok (.istore_n 2, 1) := by decide +kernel
theorem dM_layOut_2 : decode bM_layOut 2 = .ok (.iload_n 2, 1) := by decide +kernel
theorem dM_layOut_3 : decode bM_layOut 3 = .ok (.bipush 7, 2) := by decide +kernel
theorem dM_layOut_5 : decode bM_layOut 5 = .ok (.if_icmp .gt 199, 3) := by decide +kernel
theorem dM_layOut_8 : decode bM_layOut 8 = .ok (.iconst 0, 1) := by decide +kernel
theorem dM_layOut_9 : decode bM_layOut 9 = .ok (.istore_n 3, 1) := by decide +kernel
theorem dM_layOut_10 : decode bM_layOut 10 = .ok (.iload_n 3, 1) := by decide +kernel
theorem dM_layOut_11 : decode bM_layOut 11 = .ok (.bipush 72, 2) := by decide +kernel
theorem dM_layOut_13 : decode bM_layOut 13 = .ok (.if_icmp .ge 169, 3) := by decide +kernel
theorem dM_layOut_16 : decode bM_layOut 16 = .ok (.iload_n 2, 1) := by decide +kernel
theorem dM_layOut_17 : decode bM_layOut 17 = .ok (.bipush 6, 2) := by decide +kernel
theorem dM_layOut_19 : decode bM_layOut 19 = .ok (.if_icmp .ge 43, 3) := by decide +kernel
theorem dM_layOut_22 : decode bM_layOut 22 = .ok (.iload_n 1, 1) := by decide +kernel
theorem dM_layOut_23 : decode bM_layOut 23 = .ok (.iload_n 2, 1) := by decide +kernel
theorem dM_layOut_24 : decode bM_layOut 24 = .ok (.invokestatic 116, 3) := by decide +kernel
theorem dM_layOut_27 : decode bM_layOut 27 = .ok (.ifCond .eq 35, 3) := by decide +kernel
theorem dM_layOut_30 : decode bM_layOut 30 = .ok (.iload_n 3, 1) := by decide +kernel
theorem dM_layOut_31 : decode bM_layOut 31 = .ok (.bipush 64, 2) := by decide +kernel
theorem dM_layOut_33 : decode bM_layOut 33 = .ok (.if_icmp .ge 11, 3) := by decide +kernel
theorem dM_layOut_36 : decode bM_layOut 36 = .ok (.iload_n 3, 1) := by decide +kernel
theorem dM_layOut_37 : decode bM_layOut 37 = .ok (.iload_n 2, 1) := by decide +kernel
theorem dM_layOut_38 : decode bM_layOut 38 = .ok (.invokestatic 116, 3) := by decide +kernel
theorem dM_layOut_41 : decode bM_layOut 41 = .ok (.ifCond .ne 17, 3) := by decide +kernel
theorem dM_layOut_44 : decode bM_layOut 44 = .ok (.iload_n 3, 1) := by decide +kernel
theorem dM_layOut_45 : decode bM_layOut 45 = .ok (.bipush 64, 2) := by decide +kernel
theorem dM_layOut_47 : decode bM_layOut 47 = .ok (.iload_n 2, 1) := by decide +kernel
theorem dM_layOut_48 : decode bM_layOut 48 = .ok (.iadd, 1) := by decide +kernel
theorem dM_layOut_49 : decode bM_layOut 49 = .ok (.if_icmp .eq 9, 3) := by decide +kernel
theorem dM_layOut_52 : decode bM_layOut 52 = .ok (.iload_n 3, 1) := by decide +kernel
theorem dM_layOut_53 : decode bM_layOut 53 = .ok (.bipush 71, 2) := by decide +kernel
theorem dM_layOut_55 : decode bM_layOut 55 = .ok (.if_icmp .ne 7, 3) := by decide +kernel
theorem dM_layOut_58 : decode bM_layOut 58 = .ok (.iconst 1, 1) := by decide +kernel
theorem dM_layOut_59 : decode bM_layOut 59 = .ok (.goto 4, 3) := by decide +kernel
theorem dM_layOut_62 : decode bM_layOut 62 = .ok (.iconst 0, 1) := by decide +kernel
theorem dM_layOut_63 : decode bM_layOut 63 = .ok (.istore 4, 2) := by decide +kernel
theorem dM_layOut_65 : decode bM_layOut 65 = .ok (.iload 4, 2) := by decide +kernel
theorem dM_layOut_67 : decode bM_layOut 67 = .ok (.ifCond .ne 25, 3) := by decide +kernel
theorem dM_layOut_70 : decode bM_layOut 70 = .ok (.iload_n 2, 1) := by decide +kernel
theorem dM_layOut_71 : decode bM_layOut 71 = .ok (.bipush 6, 2) := by decide +kernel
theorem dM_layOut_73 : decode bM_layOut 73 = .ok (.if_icmp .ge 23, 3) := by decide +kernel
theorem dM_layOut_76 : decode bM_layOut 76 = .ok (.iload_n 1, 1) := by decide +kernel
theorem dM_layOut_77 : decode bM_layOut 77 = .ok (.iload_n 2, 1) := by decide +kernel
theorem dM_layOut_78 : decode bM_layOut 78 = .ok (.invokestatic 116, 3) := by decide +kernel
theorem dM_layOut_81 : decode bM_layOut 81 = .ok (.ifCond .ne 15, 3) := by decide +kernel
theorem dM_layOut_84 : decode bM_layOut 84 = .ok (.iload_n 3, 1) := by decide +kernel
theorem dM_layOut_85 : decode bM_layOut 85 = .ok (.bipush 64, 2) := by decide +kernel
theorem dM_layOut_87 : decode bM_layOut 87 = .ok (.iload_n 2, 1) := by decide +kernel
theorem dM_layOut_88 : decode bM_layOut 88 = .ok (.iadd, 1) := by decide +kernel
theorem dM_layOut_89 : decode bM_layOut 89 = .ok (.if_icmp .ne 7, 3) := by decide +kernel
theorem dM_layOut_92 : decode bM_layOut 92 = .ok (.iconst 1, 1) := by decide +kernel
theorem dM_layOut_93 : decode bM_layOut 93 = .ok (.goto 4, 3) := by decide +kernel
theorem dM_layOut_96 : decode bM_layOut 96 = .ok (.iconst 0, 1) := by decide +kernel
theorem dM_layOut_97 : decode bM_layOut 97 = .ok (.istore 4, 2) := by decide +kernel
theorem dM_layOut_99 : decode bM_layOut 99 = .ok (.iload 4, 2) := by decide +kernel
theorem dM_layOut_101 : decode bM_layOut 101 = .ok (.ifCond .ne 23, 3) := by decide +kernel
theorem dM_layOut_104 : decode bM_layOut 104 = .ok (.iload_n 2, 1) := by decide +kernel
theorem dM_layOut_105 : decode bM_layOut 105 = .ok (.bipush 6, 2) := by decide +kernel
theorem dM_layOut_107 : decode bM_layOut 107 = .ok (.if_icmp .ne 21, 3) := by decide +kernel
theorem dM_layOut_110 : decode bM_layOut 110 = .ok (.iload_n 3, 1) := by decide +kernel
theorem dM_layOut_111 : decode bM_layOut 111 = .ok (.bipush 64, 2) := by decide +kernel
theorem dM_layOut_113 : decode bM_layOut 113 = .ok (.if_icmp .lt 11, 3) := by decide +kernel
theorem dM_layOut_116 : decode bM_layOut 116 = .ok (.iload_n 3, 1) := by decide +kernel
theorem dM_layOut_117 : decode bM_layOut 117 = .ok (.bipush 64, 2) := by decide +kernel
theorem dM_layOut_119 : decode bM_layOut 119 = .ok (.iload_n 2, 1) := by decide +kernel
theorem dM_layOut_120 : decode bM_layOut 120 = .ok (.iadd, 1) := by decide +kernel
theorem dM_layOut_121 : decode bM_layOut 121 = .ok (.if_icmp .ne 7, 3) := by decide +kernel
theorem dM_layOut_124 : decode bM_layOut 124 = .ok (.iconst 1, 1) := by decide +kernel
theorem dM_layOut_125 : decode bM_layOut 125 = .ok (.goto 4, 3) := by decide +kernel
theorem dM_layOut_128 : decode bM_layOut 128 = .ok (.iconst 0, 1) := by decide +kernel
theorem dM_layOut_129 : decode bM_layOut 129 = .ok (.istore 4, 2) := by decide +kernel
theorem dM_layOut_131 : decode bM_layOut 131 = .ok (.iload_n 2, 1) := by decide +kernel
theorem dM_layOut_132 : decode bM_layOut 132 = .ok (.bipush 6, 2) := by decide +kernel
theorem dM_layOut_134 : decode bM_layOut 134 = .ok (.if_icmp .ne 17, 3) := by decide +kernel
theorem dM_layOut_137 : decode bM_layOut 137 = .ok (.iload_n 3, 1) := by decide +kernel
theorem dM_layOut_138 : decode bM_layOut 138 = .ok (.bipush 71, 2) := by decide +kernel
theorem dM_layOut_140 : decode bM_layOut 140 = .ok (.if_icmp .ne 11, 3) := by decide +kernel
theorem dM_layOut_143 : decode bM_layOut 143 = .ok (.aload_n 0, 1) := by decide +kernel
theorem dM_layOut_144 : decode bM_layOut 144 = .ok (.getfield 143, 3) := by decide +kernel
theorem dM_layOut_147 : decode bM_layOut 147 = .ok (.i2l, 1) := by decide +kernel
theorem dM_layOut_148 : decode bM_layOut 148 = .ok (.goto 13, 3) := by decide +kernel
theorem dM_layOut_151 : decode bM_layOut 151 = .ok (.iload 4, 2) := by decide +kernel
theorem dM_layOut_153 : decode bM_layOut 153 = .ok (.ifCond .eq 7, 3) := by decide +kernel
theorem dM_layOut_156 : decode bM_layOut 156 = .ok (.lconst 1, 1) := by decide +kernel
theorem dM_layOut_157 : decode bM_layOut 157 = .ok (.goto 4, 3) := by decide +kernel
theorem dM_layOut_160 : decode bM_layOut 160 = .ok (.lconst 0, 1) := by decide +kernel
theorem dM_layOut_161 : decode bM_layOut 161 = .ok (.lstore 5, 2) := by decide +kernel
theorem dM_layOut_163 : decode bM_layOut 163 = .ok (.aload_n 0, 1) := by decide +kernel
theorem dM_layOut_164 : decode bM_layOut 164 = .ok (.bipush 72, 2) := by decide +kernel
theorem dM_layOut_166 : decode bM_layOut 166 = .ok (.iload_n 2, 1) := by decide +kernel
theorem dM_layOut_167 : decode bM_layOut 167 = .ok (.imul, 1) := by decide +kernel
theorem dM_layOut_168 : decode bM_layOut 168 = .ok (.iload_n 3, 1) := by decide +kernel
theorem dM_layOut_169 : decode bM_layOut 169 = .ok (.iadd, 1) := by decide +kernel
theorem dM_layOut_170 : decode bM_layOut 170 = .ok (.lload 5, 2) := by decide +kernel
theorem dM_layOut_172 : decode bM_layOut 172 = .ok (.lconst 1, 1) := by decide +kernel
theorem dM_layOut_173 : decode bM_layOut 173 = .ok (.invokevirtual 160, 3) := by decide +kernel
theorem dM_layOut_176 : decode bM_layOut 176 = .ok (.iinc 3 1, 3) := by decide +kernel
theorem dM_layOut_179 : decode bM_layOut 179 = .ok (.goto (-169), 3) := by decide +kernel
theorem dM_layOut_182 : decode bM_layOut 182 = .ok (.iload_n 2, 1) := by decide +kernel
theorem dM_layOut_183 : decode bM_layOut 183 = .ok (.bipush 7, 2) := by decide +kernel
theorem dM_layOut_185 : decode bM_layOut 185 = .ok (.if_icmp .ge 13, 3) := by decide +kernel
theorem dM_layOut_188 : decode bM_layOut 188 = .ok (.aload_n 0, 1) := by decide +kernel
theorem dM_layOut_189 : decode bM_layOut 189 = .ok (.getfield 66, 3) := by decide +kernel
theorem dM_layOut_192 : decode bM_layOut 192 = .ok (.iload_n 2, 1) := by decide +kernel
theorem dM_layOut_193 : decode bM_layOut 193 = .ok (.bipush 64, 2) := by decide +kernel
theorem dM_layOut_195 : decode bM_layOut 195 = .ok (.iload_n 2, 1) := by decide +kernel
theorem dM_layOut_196 : decode bM_layOut 196 = .ok (.iadd, 1) := by decide +kernel
theorem dM_layOut_197 : decode bM_layOut 197 = .ok (.iastore, 1) := by decide +kernel
theorem dM_layOut_198 : decode bM_layOut 198 = .ok (.iinc 2 1, 3) := by decide +kernel
theorem dM_layOut_201 : decode bM_layOut 201 = .ok (.goto (-199), 3) := by decide +kernel
theorem dM_layOut_204 : decode bM_layOut 204 = .ok (.iconst 0, 1) := by decide +kernel
theorem dM_layOut_205 : decode bM_layOut 205 = .ok (.istore_n 2, 1) := by decide +kernel
theorem dM_layOut_206 : decode bM_layOut 206 = .ok (.iload_n 2, 1) := by decide +kernel
theorem dM_layOut_207 : decode bM_layOut 207 = .ok (.bipush 7, 2) := by decide +kernel
theorem dM_layOut_209 : decode bM_layOut 209 = .ok (.if_icmp .ge 67, 3) := by decide +kernel
theorem dM_layOut_212 : decode bM_layOut 212 = .ok (.iconst 0, 1) := by decide +kernel
theorem dM_layOut_213 : decode bM_layOut 213 = .ok (.istore_n 3, 1) := by decide +kernel
theorem dM_layOut_214 : decode bM_layOut 214 = .ok (.iload_n 3, 1) := by decide +kernel
theorem dM_layOut_215 : decode bM_layOut 215 = .ok (.bipush 72, 2) := by decide +kernel
theorem dM_layOut_217 : decode bM_layOut 217 = .ok (.if_icmp .ge 53, 3) := by decide +kernel
theorem dM_layOut_220 : decode bM_layOut 220 = .ok (.iload_n 3, 1) := by decide +kernel
theorem dM_layOut_221 : decode bM_layOut 221 = .ok (.bipush 64, 2) := by decide +kernel
theorem dM_layOut_223 : decode bM_layOut 223 = .ok (.if_icmp .lt 9, 3) := by decide +kernel
theorem dM_layOut_226 : decode bM_layOut 226 = .ok (.iload_n 3, 1) := by decide +kernel
theorem dM_layOut_227 : decode bM_layOut 227 = .ok (.bipush 71, 2) := by decide +kernel
theorem dM_layOut_229 : decode bM_layOut 229 = .ok (.if_icmp .ne 35, 3) := by decide +kernel
theorem dM_layOut_232 : decode bM_layOut 232 = .ok (.aload_n 0, 1) := by decide +kernel
theorem dM_layOut_233 : decode bM_layOut 233 = .ok (.sipush 504, 3) := by decide +kernel
theorem dM_layOut_236 : decode bM_layOut 236 = .ok (.iload_n 3, 1) := by decide +kernel
theorem dM_layOut_237 : decode bM_layOut 237 = .ok (.iadd, 1) := by decide +kernel
theorem dM_layOut_238 : decode bM_layOut 238 = .ok (.aload_n 0, 1) := by decide +kernel
theorem dM_layOut_239 : decode bM_layOut 239 = .ok (.getfield 59, 3) := by decide +kernel
theorem dM_layOut_242 : decode bM_layOut 242 = .ok (.sipush 504, 3) := by decide +kernel
theorem dM_layOut_245 : decode bM_layOut 245 = .ok (.iload_n 3, 1) := by decide +kernel
theorem dM_layOut_246 : decode bM_layOut 246 = .ok (.iadd, 1) := by decide +kernel
theorem dM_layOut_247 : decode bM_layOut 247 = .ok (.laload, 1) := by decide +kernel
theorem dM_layOut_248 : decode bM_layOut 248 = .ok (.aload_n 0, 1) := by decide +kernel
theorem dM_layOut_249 : decode bM_layOut 249 = .ok (.getfield 59, 3) := by decide +kernel
theorem dM_layOut_252 : decode bM_layOut 252 = .ok (.bipush 72, 2) := by decide +kernel
theorem dM_layOut_254 : decode bM_layOut 254 = .ok (.iload_n 2, 1) := by decide +kernel
theorem dM_layOut_255 : decode bM_layOut 255 = .ok (.imul, 1) := by decide +kernel
theorem dM_layOut_256 : decode bM_layOut 256 = .ok (.iload_n 3, 1) := by decide +kernel
theorem dM_layOut_257 : decode bM_layOut 257 = .ok (.iadd, 1) := by decide +kernel
theorem dM_layOut_258 : decode bM_layOut 258 = .ok (.laload, 1) := by decide +kernel
theorem dM_layOut_259 : decode bM_layOut 259 = .ok (.lsub, 1) := by decide +kernel
theorem dM_layOut_260 : decode bM_layOut 260 = .ok (.lconst 1, 1) := by decide +kernel
theorem dM_layOut_261 : decode bM_layOut 261 = .ok (.invokevirtual 160, 3) := by decide +kernel
theorem dM_layOut_264 : decode bM_layOut 264 = .ok (.iinc 3 1, 3) := by decide +kernel
theorem dM_layOut_267 : decode bM_layOut 267 = .ok (.goto (-53), 3) := by decide +kernel
theorem dM_layOut_270 : decode bM_layOut 270 = .ok (.iinc 2 1, 3) := by decide +kernel
theorem dM_layOut_273 : decode bM_layOut 273 = .ok (.goto (-67), 3) := by decide +kernel
theorem dM_layOut_276 : decode bM_layOut 276 = .ok (.return_, 1) := by decide +kernel
theorem dM_put_0 : decode bM_put 0 = .ok (.lload_n 2, 1) := by decide +kernel
theorem dM_put_1 : decode bM_put 1 = .ok (.lload 4, 2) := by decide +kernel
theorem dM_put_3 : decode bM_put 3 = .ok (.invokestatic 156, 3) := by decide +kernel
theorem dM_put_6 : decode bM_put 6 = .ok (.lstore 6, 2) := by decide +kernel
theorem dM_put_8 : decode bM_put 8 = .ok (.aload_n 0, 1) := by decide +kernel
theorem dM_put_9 : decode bM_put 9 = .ok (.getfield 59, 3) := by decide +kernel
theorem dM_put_12 : decode bM_put 12 = .ok (.iload_n 1, 1) := by decide +kernel
theorem dM_put_13 : decode bM_put 13 = .ok (.lload_n 2, 1) := by decide +kernel
theorem dM_put_14 : decode bM_put 14 = .ok (.lload 6, 2) := by decide +kernel
theorem dM_put_16 : decode bM_put 16 = .ok (.ldiv, 1) := by decide +kernel
theorem dM_put_17 : decode bM_put 17 = .ok (.lastore, 1) := by decide +kernel
theorem dM_put_18 : decode bM_put 18 = .ok (.aload_n 0, 1) := by decide +kernel
theorem dM_put_19 : decode bM_put 19 = .ok (.getfield 63, 3) := by decide +kernel
theorem dM_put_22 : decode bM_put 22 = .ok (.iload_n 1, 1) := by decide +kernel
theorem dM_put_23 : decode bM_put 23 = .ok (.lload 4, 2) := by decide +kernel
theorem dM_put_25 : decode bM_put 25 = .ok (.lload 6, 2) := by decide +kernel
theorem dM_put_27 : decode bM_put 27 = .ok (.ldiv, 1) := by decide +kernel
theorem dM_put_28 : decode bM_put 28 = .ok (.lastore, 1) := by decide +kernel
theorem dM_put_29 : decode bM_put 29 = .ok (.return_, 1) := by decide +kernel
theorem dM_common_0 : decode bM_common 0 = .ok (.lload_n 0, 1) := by decide +kernel
theorem dM_common_1 : decode bM_common 1 = .ok (.lconst 0, 1) := by decide +kernel
theorem dM_common_2 : decode bM_common 2 = .ok (.lcmp, 1) := by decide +kernel
theorem dM_common_3 : decode bM_common 3 = .ok (.ifCond .ge 8, 3) := by decide +kernel
theorem dM_common_6 : decode bM_common 6 = .ok (.lload_n 0, 1) := by decide +kernel
theorem dM_common_7 : decode bM_common 7 = .ok (.lneg, 1) := by decide +kernel
theorem dM_common_8 : decode bM_common 8 = .ok (.goto 4, 3) := by decide +kernel
theorem dM_common_11 : decode bM_common 11 = .ok (.lload_n 0, 1) := by decide +kernel
theorem dM_common_12 : decode bM_common 12 = .ok (.lstore 4, 2) := by decide +kernel
theorem dM_common_14 : decode bM_common 14 = .ok (.lload_n 2, 1) := by decide +kernel
theorem dM_common_15 : decode bM_common 15 = .ok (.lstore 6, 2) := by decide +kernel
theorem dM_common_17 : decode bM_common 17 = .ok (.lload 4, 2) := by decide +kernel
theorem dM_common_19 : decode bM_common 19 = .ok (.lconst 0, 1) := by decide +kernel
theorem dM_common_20 : decode bM_common 20 = .ok (.lcmp, 1) := by decide +kernel
theorem dM_common_21 : decode bM_common 21 = .ok (.ifCond .eq 21, 3) := by decide +kernel
theorem dM_common_24 : decode bM_common 24 = .ok (.lload 6, 2) := by decide +kernel
theorem dM_common_26 : decode bM_common 26 = .ok (.lload 4, 2) := by decide +kernel
theorem dM_common_28 : decode bM_common 28 = .ok (.lrem, 1) := by decide +kernel
theorem dM_common_29 : decode bM_common 29 = .ok (.lstore 8, 2) := by decide +kernel
theorem dM_common_31 : decode bM_common 31 = .ok (.lload 4, 2) := by decide +kernel
theorem dM_common_33 : decode bM_common 33 = .ok (.lstore 6, 2) := by decide +kernel
theorem dM_common_35 : decode bM_common 35 = .ok (.lload 8, 2) := by decide +kernel
theorem dM_common_37 : decode bM_common 37 = .ok (.lstore 4, 2) := by decide +kernel
theorem dM_common_39 : decode bM_common 39 = .ok (.goto (-22), 3) := by decide +kernel
theorem dM_common_42 : decode bM_common 42 = .ok (.lload 6, 2) := by decide +kernel
theorem dM_common_44 : decode bM_common 44 = .ok (.lreturn, 1) := by decide +kernel
theorem dM_settle_0 : decode bM_settle 0 = .ok (.aload_n 0, 1) := by decide +kernel
theorem dM_settle_1 : decode bM_settle 1 = .ok (.invokevirtual 168, 3) := by decide +kernel
theorem dM_settle_4 : decode bM_settle 4 = .ok (.istore_n 1, 1) := by decide +kernel
theorem dM_settle_5 : decode bM_settle 5 = .ok (.iload_n 1, 1) := by decide +kernel
theorem dM_settle_6 : decode bM_settle 6 = .ok (.ifCond .lt 21, 3) := by decide +kernel
theorem dM_settle_9 : decode bM_settle 9 = .ok (.aload_n 0, 1) := by decide +kernel
theorem dM_settle_10 : decode bM_settle 10 = .ok (.aload_n 0, 1) := by decide +kernel
theorem dM_settle_11 : decode bM_settle 11 = .ok (.iload_n 1, 1) := by decide +kernel
theorem dM_settle_12 : decode bM_settle 12 = .ok (.invokevirtual 171, 3) := by decide +kernel
theorem dM_settle_15 : decode bM_settle 15 = .ok (.iload_n 1, 1) := by decide +kernel
theorem dM_settle_16 : decode bM_settle 16 = .ok (.invokevirtual 175, 3) := by decide +kernel
theorem dM_settle_19 : decode bM_settle 19 = .ok (.aload_n 0, 1) := by decide +kernel
theorem dM_settle_20 : decode bM_settle 20 = .ok (.invokevirtual 168, 3) := by decide +kernel
theorem dM_settle_23 : decode bM_settle 23 = .ok (.istore_n 1, 1) := by decide +kernel
theorem dM_settle_24 : decode bM_settle 24 = .ok (.goto (-19), 3) := by decide +kernel
theorem dM_settle_27 : decode bM_settle 27 = .ok (.return_, 1) := by decide +kernel
theorem dM_coming_0 : decode bM_coming 0 = .ok (.iconst 0, 1) := by decide +kernel
theorem dM_coming_1 : decode bM_coming 1 = .ok (.istore_n 1, 1) := by decide +kernel
theorem dM_coming_2 : decode bM_coming 2 = .ok (.iload_n 1, 1) := by decide +kernel
theorem dM_coming_3 : decode bM_coming 3 = .ok (.bipush 64, 2) := by decide +kernel
theorem dM_coming_5 : decode bM_coming 5 = .ok (.if_icmp .ge 33, 3) := by decide +kernel
theorem dM_coming_8 : decode bM_coming 8 = .ok (.aload_n 0, 1) := by decide +kernel
theorem dM_coming_9 : decode bM_coming 9 = .ok (.getfield 69, 3) := by decide +kernel
theorem dM_coming_12 : decode bM_coming 12 = .ok (.iload_n 1, 1) := by decide +kernel
theorem dM_coming_13 : decode bM_coming 13 = .ok (.baload, 1) := by decide +kernel
theorem dM_coming_14 : decode bM_coming 14 = .ok (.ifCond .eq 18, 3) := by decide +kernel
theorem dM_coming_17 : decode bM_coming 17 = .ok (.aload_n 0, 1) := by decide +kernel
theorem dM_coming_18 : decode bM_coming 18 = .ok (.getfield 59, 3) := by decide +kernel
theorem dM_coming_21 : decode bM_coming 21 = .ok (.sipush 504, 3) := by decide +kernel
theorem dM_coming_24 : decode bM_coming 24 = .ok (.iload_n 1, 1) := by decide +kernel
theorem dM_coming_25 : decode bM_coming 25 = .ok (.iadd, 1) := by decide +kernel
theorem dM_coming_26 : decode bM_coming 26 = .ok (.laload, 1) := by decide +kernel
theorem dM_coming_27 : decode bM_coming 27 = .ok (.lconst 0, 1) := by decide +kernel
theorem dM_coming_28 : decode bM_coming 28 = .ok (.lcmp, 1) := by decide +kernel
theorem dM_coming_29 : decode bM_coming 29 = .ok (.ifCond .lt 9, 3) := by decide +kernel
theorem dM_coming_32 : decode bM_coming 32 = .ok (.iinc 1 1, 3) := by decide +kernel
theorem dM_coming_35 : decode bM_coming 35 = .ok (.goto (-33), 3) := by decide +kernel
theorem dM_coming_38 : decode bM_coming 38 = .ok (.iload_n 1, 1) := by decide +kernel
theorem dM_coming_39 : decode bM_coming 39 = .ok (.bipush 64, 2) := by decide +kernel
theorem dM_coming_41 : decode bM_coming 41 = .ok (.if_icmp .ge 7, 3) := by decide +kernel
theorem dM_coming_44 : decode bM_coming 44 = .ok (.iload_n 1, 1) := by decide +kernel
theorem dM_coming_45 : decode bM_coming 45 = .ok (.goto 4, 3) := by decide +kernel
theorem dM_coming_48 : decode bM_coming 48 = .ok (.iconst (-1), 1) := by decide +kernel
theorem dM_coming_49 : decode bM_coming 49 = .ok (.ireturn, 1) := by decide +kernel
theorem dM_leaving_0 : decode bM_leaving 0 = .ok (.iconst (-1), 1) := by decide +kernel
theorem dM_leaving_1 : decode bM_leaving 1 = .ok (.istore_n 2, 1) := by decide +kernel
theorem dM_leaving_2 : decode bM_leaving 2 = .ok (.iconst 0, 1) := by decide +kernel
theorem dM_leaving_3 : decode bM_leaving 3 = .ok (.istore_n 3, 1) := by decide +kernel
theorem dM_leaving_4 : decode bM_leaving 4 = .ok (.iload_n 3, 1) := by decide +kernel
theorem dM_leaving_5 : decode bM_leaving 5 = .ok (.bipush 7, 2) := by decide +kernel
theorem dM_leaving_7 : decode bM_leaving 7 = .ok (.if_icmp .ge 202, 3) := by decide +kernel
theorem dM_leaving_10 : decode bM_leaving 10 = .ok (.bipush 72, 2) := by decide +kernel
theorem dM_leaving_12 : decode bM_leaving 12 = .ok (.iload_n 3, 1) := by decide +kernel
theorem dM_leaving_13 : decode bM_leaving 13 = .ok (.imul, 1) := by decide +kernel
theorem dM_leaving_14 : decode bM_leaving 14 = .ok (.iload_n 1, 1) := by decide +kernel
theorem dM_leaving_15 : decode bM_leaving 15 = .ok (.iadd, 1) := by decide +kernel
theorem dM_leaving_16 : decode bM_leaving 16 = .ok (.istore 4, 2) := by decide +kernel
theorem dM_leaving_18 : decode bM_leaving 18 = .ok (.aload_n 0, 1) := by decide +kernel
theorem dM_leaving_19 : decode bM_leaving 19 = .ok (.getfield 59, 3) := by decide +kernel
theorem dM_leaving_22 : decode bM_leaving 22 = .ok (.iload 4, 2) := by decide +kernel
theorem dM_leaving_24 : decode bM_leaving 24 = .ok (.laload, 1) := by decide +kernel
theorem dM_leaving_25 : decode bM_leaving 25 = .ok (.lconst 0, 1) := by decide +kernel
theorem dM_leaving_26 : decode bM_leaving 26 = .ok (.lcmp, 1) := by decide +kernel
theorem dM_leaving_27 : decode bM_leaving 27 = .ok (.ifCond .le 176, 3) := by decide +kernel
theorem dM_leaving_30 : decode bM_leaving 30 = .ok (.iload_n 2, 1) := by decide +kernel
theorem dM_leaving_31 : decode bM_leaving 31 = .ok (.ifCond .ge 7, 3) := by decide +kernel
theorem dM_leaving_34 : decode bM_leaving 34 = .ok (.iconst 1, 1) := by decide +kernel
theorem dM_leaving_35 : decode bM_leaving 35 = .ok (.goto 4, 3) := by decide +kernel
theorem dM_leaving_38 : decode bM_leaving 38 = .ok (.iconst 0, 1) := by decide +kernel
theorem dM_leaving_39 : decode bM_leaving 39 = .ok (.istore 5, 2) := by decide +kernel
theorem dM_leaving_41 : decode bM_leaving 41 = .ok (.iload 5, 2) := by decide +kernel
theorem dM_leaving_43 : decode bM_leaving 43 = .ok (.ifCond .ne 149, 3) := by decide +kernel
theorem dM_leaving_46 : decode bM_leaving 46 = .ok (.aload_n 0, 1) := by decide +kernel
theorem dM_leaving_47 : decode bM_leaving 47 = .ok (.getfield 59, 3) := by decide +kernel
theorem dM_leaving_50 : decode bM_leaving 50 = .ok (.bipush 72, 2) := by decide +kernel
theorem dM_leaving_52 : decode bM_leaving 52 = .ok (.iload_n 3, 1) := by decide +kernel
theorem dM_leaving_53 : decode bM_leaving 53 = .ok (.imul, 1) := by decide +kernel
theorem dM_leaving_54 : decode bM_leaving 54 = .ok (.bipush 71, 2) := by decide +kernel
theorem dM_leaving_56 : decode bM_leaving 56 = .ok (.iadd, 1) := by decide +kernel
theorem dM_leaving_57 : decode bM_leaving 57 = .ok (.laload, 1) := by decide +kernel
theorem dM_leaving_58 : decode bM_leaving 58 = .ok (.aload_n 0, 1) := by decide +kernel
theorem dM_leaving_59 : decode bM_leaving 59 = .ok (.getfield 63, 3) := by decide +kernel
theorem dM_leaving_62 : decode bM_leaving 62 = .ok (.iload 4, 2) := by decide +kernel
theorem dM_leaving_64 : decode bM_leaving 64 = .ok (.laload, 1) := by decide +kernel
theorem dM_leaving_65 : decode bM_leaving 65 = .ok (.lmul, 1) := by decide +kernel
theorem dM_leaving_66 : decode bM_leaving 66 = .ok (.lstore 6, 2) := by decide +kernel
theorem dM_leaving_68 : decode bM_leaving 68 = .ok (.aload_n 0, 1) := by decide +kernel
theorem dM_leaving_69 : decode bM_leaving 69 = .ok (.getfield 63, 3) := by decide +kernel
theorem dM_leaving_72 : decode bM_leaving 72 = .ok (.bipush 72, 2) := by decide +kernel
theorem dM_leaving_74 : decode bM_leaving 74 = .ok (.iload_n 3, 1) := by decide +kernel
theorem dM_leaving_75 : decode bM_leaving 75 = .ok (.imul, 1) := by decide +kernel
theorem dM_leaving_76 : decode bM_leaving 76 = .ok (.bipush 71, 2) := by decide +kernel
theorem dM_leaving_78 : decode bM_leaving 78 = .ok (.iadd, 1) := by decide +kernel
theorem dM_leaving_79 : decode bM_leaving 79 = .ok (.laload, 1) := by decide +kernel
theorem dM_leaving_80 : decode bM_leaving 80 = .ok (.aload_n 0, 1) := by decide +kernel
theorem dM_leaving_81 : decode bM_leaving 81 = .ok (.getfield 59, 3) := by decide +kernel
theorem dM_leaving_84 : decode bM_leaving 84 = .ok (.iload 4, 2) := by decide +kernel
theorem dM_leaving_86 : decode bM_leaving 86 = .ok (.laload, 1) := by decide +kernel
theorem dM_leaving_87 : decode bM_leaving 87 = .ok (.lmul, 1) := by decide +kernel
theorem dM_leaving_88 : decode bM_leaving 88 = .ok (.lstore 8, 2) := by decide +kernel
theorem dM_leaving_90 : decode bM_leaving 90 = .ok (.aload_n 0, 1) := by decide +kernel
theorem dM_leaving_91 : decode bM_leaving 91 = .ok (.getfield 59, 3) := by decide +kernel
theorem dM_leaving_94 : decode bM_leaving 94 = .ok (.bipush 72, 2) := by decide +kernel
theorem dM_leaving_96 : decode bM_leaving 96 = .ok (.iload_n 2, 1) := by decide +kernel
theorem dM_leaving_97 : decode bM_leaving 97 = .ok (.imul, 1) := by decide +kernel
theorem dM_leaving_98 : decode bM_leaving 98 = .ok (.bipush 71, 2) := by decide +kernel
theorem dM_leaving_100 : decode bM_leaving 100 = .ok (.iadd, 1) := by decide +kernel
theorem dM_leaving_101 : decode bM_leaving 101 = .ok (.laload, 1) := by decide +kernel
theorem dM_leaving_102 : decode bM_leaving 102 = .ok (.aload_n 0, 1) := by decide +kernel
theorem dM_leaving_103 : decode bM_leaving 103 = .ok (.getfield 63, 3) := by decide +kernel
theorem dM_leaving_106 : decode bM_leaving 106 = .ok (.bipush 72, 2) := by decide +kernel
theorem dM_leaving_108 : decode bM_leaving 108 = .ok (.iload_n 2, 1) := by decide +kernel
theorem dM_leaving_109 : decode bM_leaving 109 = .ok (.imul, 1) := by decide +kernel
theorem dM_leaving_110 : decode bM_leaving 110 = .ok (.iload_n 1, 1) := by decide +kernel
theorem dM_leaving_111 : decode bM_leaving 111 = .ok (.iadd, 1) := by decide +kernel
theorem dM_leaving_112 : decode bM_leaving 112 = .ok (.laload, 1) := by decide +kernel
theorem dM_leaving_113 : decode bM_leaving 113 = .ok (.lmul, 1) := by decide +kernel
theorem dM_leaving_114 : decode bM_leaving 114 = .ok (.lstore 10, 2) := by decide +kernel
theorem dM_leaving_116 : decode bM_leaving 116 = .ok (.aload_n 0, 1) := by decide +kernel
theorem dM_leaving_117 : decode bM_leaving 117 = .ok (.getfield 63, 3) := by decide +kernel
theorem dM_leaving_120 : decode bM_leaving 120 = .ok (.bipush 72, 2) := by decide +kernel
theorem dM_leaving_122 : decode bM_leaving 122 = .ok (.iload_n 2, 1) := by decide +kernel
theorem dM_leaving_123 : decode bM_leaving 123 = .ok (.imul, 1) := by decide +kernel
theorem dM_leaving_124 : decode bM_leaving 124 = .ok (.bipush 71, 2) := by decide +kernel
theorem dM_leaving_126 : decode bM_leaving 126 = .ok (.iadd, 1) := by decide +kernel
theorem dM_leaving_127 : decode bM_leaving 127 = .ok (.laload, 1) := by decide +kernel
theorem dM_leaving_128 : decode bM_leaving 128 = .ok (.aload_n 0, 1) := by decide +kernel
theorem dM_leaving_129 : decode bM_leaving 129 = .ok (.getfield 59, 3) := by decide +kernel
theorem dM_leaving_132 : decode bM_leaving 132 = .ok (.bipush 72, 2) := by decide +kernel
theorem dM_leaving_134 : decode bM_leaving 134 = .ok (.iload_n 2, 1) := by decide +kernel
theorem dM_leaving_135 : decode bM_leaving 135 = .ok (.imul, 1) := by decide +kernel
theorem dM_leaving_136 : decode bM_leaving 136 = .ok (.iload_n 1, 1) := by decide +kernel
theorem dM_leaving_137 : decode bM_leaving 137 = .ok (.iadd, 1) := by decide +kernel
theorem dM_leaving_138 : decode bM_leaving 138 = .ok (.laload, 1) := by decide +kernel
theorem dM_leaving_139 : decode bM_leaving 139 = .ok (.lmul, 1) := by decide +kernel
theorem dM_leaving_140 : decode bM_leaving 140 = .ok (.lstore 12, 2) := by decide +kernel
theorem dM_leaving_142 : decode bM_leaving 142 = .ok (.lload 6, 2) := by decide +kernel
theorem dM_leaving_144 : decode bM_leaving 144 = .ok (.lload 12, 2) := by decide +kernel
theorem dM_leaving_146 : decode bM_leaving 146 = .ok (.lmul, 1) := by decide +kernel
theorem dM_leaving_147 : decode bM_leaving 147 = .ok (.lload 10, 2) := by decide +kernel
theorem dM_leaving_149 : decode bM_leaving 149 = .ok (.lload 8, 2) := by decide +kernel
theorem dM_leaving_151 : decode bM_leaving 151 = .ok (.lmul, 1) := by decide +kernel
theorem dM_leaving_152 : decode bM_leaving 152 = .ok (.lcmp, 1) := by decide +kernel
theorem dM_leaving_153 : decode bM_leaving 153 = .ok (.ifCond .lt 32, 3) := by decide +kernel
theorem dM_leaving_156 : decode bM_leaving 156 = .ok (.lload 6, 2) := by decide +kernel
theorem dM_leaving_158 : decode bM_leaving 158 = .ok (.lload 12, 2) := by decide +kernel
theorem dM_leaving_160 : decode bM_leaving 160 = .ok (.lmul, 1) := by decide +kernel
theorem dM_leaving_161 : decode bM_leaving 161 = .ok (.lload 10, 2) := by decide +kernel
theorem dM_leaving_163 : decode bM_leaving 163 = .ok (.lload 8, 2) := by decide +kernel
theorem dM_leaving_165 : decode bM_leaving 165 = .ok (.lmul, 1) := by decide +kernel
theorem dM_leaving_166 : decode bM_leaving 166 = .ok (.lcmp, 1) := by decide +kernel
theorem dM_leaving_167 : decode bM_leaving 167 = .ok (.ifCond .ne 22, 3) := by decide +kernel
theorem dM_leaving_170 : decode bM_leaving 170 = .ok (.aload_n 0, 1) := by decide +kernel
theorem dM_leaving_171 : decode bM_leaving 171 = .ok (.getfield 66, 3) := by decide +kernel
theorem dM_leaving_174 : decode bM_leaving 174 = .ok (.iload_n 3, 1) := by decide +kernel
theorem dM_leaving_175 : decode bM_leaving 175 = .ok (.iaload, 1) := by decide +kernel
theorem dM_leaving_176 : decode bM_leaving 176 = .ok (.aload_n 0, 1) := by decide +kernel
theorem dM_leaving_177 : decode bM_leaving 177 = .ok (.getfield 66, 3) := by decide +kernel
theorem dM_leaving_180 : decode bM_leaving 180 = .ok (.iload_n 2, 1) := by decide +kernel
theorem dM_leaving_181 : decode bM_leaving 181 = .ok (.iaload, 1) := by decide +kernel
theorem dM_leaving_182 : decode bM_leaving 182 = .ok (.if_icmp .ge 7, 3) := by decide +kernel
theorem dM_leaving_185 : decode bM_leaving 185 = .ok (.iconst 1, 1) := by decide +kernel
theorem dM_leaving_186 : decode bM_leaving 186 = .ok (.goto 4, 3) := by decide +kernel
theorem dM_leaving_189 : decode bM_leaving 189 = .ok (.iconst 0, 1) := by decide +kernel
theorem dM_leaving_190 : decode bM_leaving 190 = .ok (.istore 5, 2) := by decide +kernel
theorem dM_leaving_192 : decode bM_leaving 192 = .ok (.iload 5, 2) := by decide +kernel
theorem dM_leaving_194 : decode bM_leaving 194 = .ok (.ifCond .eq 7, 3) := by decide +kernel
theorem dM_leaving_197 : decode bM_leaving 197 = .ok (.iload_n 3, 1) := by decide +kernel
theorem dM_leaving_198 : decode bM_leaving 198 = .ok (.goto 4, 3) := by decide +kernel
theorem dM_leaving_201 : decode bM_leaving 201 = .ok (.iload_n 2, 1) := by decide +kernel
theorem dM_leaving_202 : decode bM_leaving 202 = .ok (.istore_n 2, 1) := by decide +kernel
theorem dM_leaving_203 : decode bM_leaving 203 = .ok (.iinc 3 1, 3) := by decide +kernel
theorem dM_leaving_206 : decode bM_leaving 206 = .ok (.goto (-202), 3) := by decide +kernel
theorem dM_leaving_209 : decode bM_leaving 209 = .ok (.iload_n 2, 1) := by decide +kernel
theorem dM_leaving_210 : decode bM_leaving 210 = .ok (.ireturn, 1) := by decide +kernel
theorem dM_turn_0 : decode bM_turn 0 = .ok (.bipush 72, 2) := by decide +kernel
theorem dM_turn_2 : decode bM_turn 2 = .ok (.iload_n 1, 1) := by decide +kernel
theorem dM_turn_3 : decode bM_turn 3 = .ok (.imul, 1) := by decide +kernel
theorem dM_turn_4 : decode bM_turn 4 = .ok (.iload_n 2, 1) := by decide +kernel
theorem dM_turn_5 : decode bM_turn 5 = .ok (.iadd, 1) := by decide +kernel
theorem dM_turn_6 : decode bM_turn 6 = .ok (.istore_n 3, 1) := by decide +kernel
theorem dM_turn_7 : decode bM_turn 7 = .ok (.aload_n 0, 1) := by decide +kernel
theorem dM_turn_8 : decode bM_turn 8 = .ok (.getfield 59, 3) := by decide +kernel
theorem dM_turn_11 : decode bM_turn 11 = .ok (.iload_n 3, 1) := by decide +kernel
theorem dM_turn_12 : decode bM_turn 12 = .ok (.laload, 1) := by decide +kernel
theorem dM_turn_13 : decode bM_turn 13 = .ok (.lstore 4, 2) := by decide +kernel
theorem dM_turn_15 : decode bM_turn 15 = .ok (.aload_n 0, 1) := by decide +kernel
theorem dM_turn_16 : decode bM_turn 16 = .ok (.getfield 63, 3) := by decide +kernel
theorem dM_turn_19 : decode bM_turn 19 = .ok (.iload_n 3, 1) := by decide +kernel
theorem dM_turn_20 : decode bM_turn 20 = .ok (.laload, 1) := by decide +kernel
theorem dM_turn_21 : decode bM_turn 21 = .ok (.lstore 6, 2) := by decide +kernel
theorem dM_turn_23 : decode bM_turn 23 = .ok (.iconst 0, 1) := by decide +kernel
theorem dM_turn_24 : decode bM_turn 24 = .ok (.istore 8, 2) := by decide +kernel
theorem dM_turn_26 : decode bM_turn 26 = .ok (.iload 8, 2) := by decide +kernel
theorem dM_turn_28 : decode bM_turn 28 = .ok (.bipush 72, 2) := by decide +kernel
theorem dM_turn_30 : decode bM_turn 30 = .ok (.if_icmp .ge 78, 3) := by decide +kernel
theorem dM_turn_33 : decode bM_turn 33 = .ok (.bipush 72, 2) := by decide +kernel
theorem dM_turn_35 : decode bM_turn 35 = .ok (.iload_n 1, 1) := by decide +kernel
theorem dM_turn_36 : decode bM_turn 36 = .ok (.imul, 1) := by decide +kernel
theorem dM_turn_37 : decode bM_turn 37 = .ok (.iload 8, 2) := by decide +kernel
theorem dM_turn_39 : decode bM_turn 39 = .ok (.iadd, 1) := by decide +kernel
theorem dM_turn_40 : decode bM_turn 40 = .ok (.istore 9, 2) := by decide +kernel
theorem dM_turn_42 : decode bM_turn 42 = .ok (.aload_n 0, 1) := by decide +kernel
theorem dM_turn_43 : decode bM_turn 43 = .ok (.iload 9, 2) := by decide +kernel
theorem dM_turn_45 : decode bM_turn 45 = .ok (.lload 4, 2) := by decide +kernel
theorem dM_turn_47 : decode bM_turn 47 = .ok (.lconst 0, 1) := by decide +kernel
theorem dM_turn_48 : decode bM_turn 48 = .ok (.lcmp, 1) := by decide +kernel
theorem dM_turn_49 : decode bM_turn 49 = .ok (.ifCond .ge 17, 3) := by decide +kernel
theorem dM_turn_52 : decode bM_turn 52 = .ok (.aload_n 0, 1) := by decide +kernel
theorem dM_turn_53 : decode bM_turn 53 = .ok (.getfield 59, 3) := by decide +kernel
theorem dM_turn_56 : decode bM_turn 56 = .ok (.iload 9, 2) := by decide +kernel
theorem dM_turn_58 : decode bM_turn 58 = .ok (.laload, 1) := by decide +kernel
theorem dM_turn_59 : decode bM_turn 59 = .ok (.lneg, 1) := by decide +kernel
theorem dM_turn_60 : decode bM_turn 60 = .ok (.lload 6, 2) := by decide +kernel
theorem dM_turn_62 : decode bM_turn 62 = .ok (.lmul, 1) := by decide +kernel
theorem dM_turn_63 : decode bM_turn 63 = .ok (.goto 13, 3) := by decide +kernel
theorem dM_turn_66 : decode bM_turn 66 = .ok (.aload_n 0, 1) := by decide +kernel
theorem dM_turn_67 : decode bM_turn 67 = .ok (.getfield 59, 3) := by decide +kernel
theorem dM_turn_70 : decode bM_turn 70 = .ok (.iload 9, 2) := by decide +kernel
theorem dM_turn_72 : decode bM_turn 72 = .ok (.laload, 1) := by decide +kernel
theorem dM_turn_73 : decode bM_turn 73 = .ok (.lload 6, 2) := by decide +kernel
theorem dM_turn_75 : decode bM_turn 75 = .ok (.lmul, 1) := by decide +kernel
theorem dM_turn_76 : decode bM_turn 76 = .ok (.aload_n 0, 1) := by decide +kernel
theorem dM_turn_77 : decode bM_turn 77 = .ok (.getfield 63, 3) := by decide +kernel
theorem dM_turn_80 : decode bM_turn 80 = .ok (.iload 9, 2) := by decide +kernel
theorem dM_turn_82 : decode bM_turn 82 = .ok (.laload, 1) := by decide +kernel
theorem dM_turn_83 : decode bM_turn 83 = .ok (.lload 4, 2) := by decide +kernel
theorem dM_turn_85 : decode bM_turn 85 = .ok (.lconst 0, 1) := by decide +kernel
theorem dM_turn_86 : decode bM_turn 86 = .ok (.lcmp, 1) := by decide +kernel
theorem dM_turn_87 : decode bM_turn 87 = .ok (.ifCond .ge 9, 3) := by decide +kernel
theorem dM_turn_90 : decode bM_turn 90 = .ok (.lload 4, 2) := by decide +kernel
theorem dM_turn_92 : decode bM_turn 92 = .ok (.lneg, 1) := by decide +kernel
theorem dM_turn_93 : decode bM_turn 93 = .ok (.goto 5, 3) := by decide +kernel
theorem dM_turn_96 : decode bM_turn 96 = .ok (.lload 4, 2) := by decide +kernel
theorem dM_turn_98 : decode bM_turn 98 = .ok (.lmul, 1) := by decide +kernel
theorem dM_turn_99 : decode bM_turn 99 = .ok (.invokevirtual 160, 3) := by decide +kernel
theorem dM_turn_102 : decode bM_turn 102 = .ok (.iinc 8 1, 3) := by decide +kernel
theorem dM_turn_105 : decode bM_turn 105 = .ok (.goto (-79), 3) := by decide +kernel
theorem dM_turn_108 : decode bM_turn 108 = .ok (.iconst 0, 1) := by decide +kernel
theorem dM_turn_109 : decode bM_turn 109 = .ok (.istore 8, 2) := by decide +kernel
theorem dM_turn_111 : decode bM_turn 111 = .ok (.iload 8, 2) := by decide +kernel
theorem dM_turn_113 : decode bM_turn 113 = .ok (.bipush 7, 2) := by decide +kernel
theorem dM_turn_115 : decode bM_turn 115 = .ok (.if_icmp .gt 95, 3) := by decide +kernel
theorem dM_turn_118 : decode bM_turn 118 = .ok (.bipush 72, 2) := by decide +kernel
theorem dM_turn_120 : decode bM_turn 120 = .ok (.iload 8, 2) := by decide +kernel
theorem dM_turn_122 : decode bM_turn 122 = .ok (.imul, 1) := by decide +kernel
theorem dM_turn_123 : decode bM_turn 123 = .ok (.iload_n 2, 1) := by decide +kernel
theorem dM_turn_124 : decode bM_turn 124 = .ok (.iadd, 1) := by decide +kernel
theorem dM_turn_125 : decode bM_turn 125 = .ok (.istore 9, 2) := by decide +kernel
theorem dM_turn_127 : decode bM_turn 127 = .ok (.iload 8, 2) := by decide +kernel
theorem dM_turn_129 : decode bM_turn 129 = .ok (.iload_n 1, 1) := by decide +kernel
theorem dM_turn_130 : decode bM_turn 130 = .ok (.if_icmp .eq 74, 3) := by decide +kernel
theorem dM_turn_133 : decode bM_turn 133 = .ok (.aload_n 0, 1) := by decide +kernel
theorem dM_turn_134 : decode bM_turn 134 = .ok (.getfield 59, 3) := by decide +kernel
theorem dM_turn_137 : decode bM_turn 137 = .ok (.iload 9, 2) := by decide +kernel
theorem dM_turn_139 : decode bM_turn 139 = .ok (.laload, 1) := by decide +kernel
theorem dM_turn_140 : decode bM_turn 140 = .ok (.lconst 0, 1) := by decide +kernel
theorem dM_turn_141 : decode bM_turn 141 = .ok (.lcmp, 1) := by decide +kernel
theorem dM_turn_142 : decode bM_turn 142 = .ok (.ifCond .eq 62, 3) := by decide +kernel
theorem dM_turn_145 : decode bM_turn 145 = .ok (.iconst 0, 1) := by decide +kernel
theorem dM_turn_146 : decode bM_turn 146 = .ok (.istore 10, 2) := by decide +kernel
theorem dM_turn_148 : decode bM_turn 148 = .ok (.iload 10, 2) := by decide +kernel
theorem dM_turn_150 : decode bM_turn 150 = .ok (.bipush 72, 2) := by decide +kernel
theorem dM_turn_152 : decode bM_turn 152 = .ok (.if_icmp .ge 36, 3) := by decide +kernel
theorem dM_turn_155 : decode bM_turn 155 = .ok (.iload 10, 2) := by decide +kernel
theorem dM_turn_157 : decode bM_turn 157 = .ok (.iload_n 2, 1) := by decide +kernel
theorem dM_turn_158 : decode bM_turn 158 = .ok (.if_icmp .eq 24, 3) := by decide +kernel
theorem dM_turn_161 : decode bM_turn 161 = .ok (.aload_n 0, 1) := by decide +kernel
theorem dM_turn_162 : decode bM_turn 162 = .ok (.bipush 72, 2) := by decide +kernel
theorem dM_turn_164 : decode bM_turn 164 = .ok (.iload 8, 2) := by decide +kernel
theorem dM_turn_166 : decode bM_turn 166 = .ok (.imul, 1) := by decide +kernel
theorem dM_turn_167 : decode bM_turn 167 = .ok (.iload 10, 2) := by decide +kernel
theorem dM_turn_169 : decode bM_turn 169 = .ok (.iadd, 1) := by decide +kernel
theorem dM_turn_170 : decode bM_turn 170 = .ok (.iload 9, 2) := by decide +kernel
theorem dM_turn_172 : decode bM_turn 172 = .ok (.bipush 72, 2) := by decide +kernel
theorem dM_turn_174 : decode bM_turn 174 = .ok (.iload_n 1, 1) := by decide +kernel
theorem dM_turn_175 : decode bM_turn 175 = .ok (.imul, 1) := by decide +kernel
theorem dM_turn_176 : decode bM_turn 176 = .ok (.iload 10, 2) := by decide +kernel
theorem dM_turn_178 : decode bM_turn 178 = .ok (.iadd, 1) := by decide +kernel
theorem dM_turn_179 : decode bM_turn 179 = .ok (.invokevirtual 164, 3) := by decide +kernel
theorem dM_turn_182 : decode bM_turn 182 = .ok (.iinc 10 1, 3) := by decide +kernel
theorem dM_turn_185 : decode bM_turn 185 = .ok (.goto (-37), 3) := by decide +kernel
theorem dM_turn_188 : decode bM_turn 188 = .ok (.aload_n 0, 1) := by decide +kernel
theorem dM_turn_189 : decode bM_turn 189 = .ok (.getfield 59, 3) := by decide +kernel
theorem dM_turn_192 : decode bM_turn 192 = .ok (.iload 9, 2) := by decide +kernel
theorem dM_turn_194 : decode bM_turn 194 = .ok (.lconst 0, 1) := by decide +kernel
theorem dM_turn_195 : decode bM_turn 195 = .ok (.lastore, 1) := by decide +kernel
theorem dM_turn_196 : decode bM_turn 196 = .ok (.aload_n 0, 1) := by decide +kernel
theorem dM_turn_197 : decode bM_turn 197 = .ok (.getfield 63, 3) := by decide +kernel
theorem dM_turn_200 : decode bM_turn 200 = .ok (.iload 9, 2) := by decide +kernel
theorem dM_turn_202 : decode bM_turn 202 = .ok (.lconst 1, 1) := by decide +kernel
theorem dM_turn_203 : decode bM_turn 203 = .ok (.lastore, 1) := by decide +kernel
theorem dM_turn_204 : decode bM_turn 204 = .ok (.iinc 8 1, 3) := by decide +kernel
theorem dM_turn_207 : decode bM_turn 207 = .ok (.goto (-96), 3) := by decide +kernel
theorem dM_turn_210 : decode bM_turn 210 = .ok (.aload_n 0, 1) := by decide +kernel
theorem dM_turn_211 : decode bM_turn 211 = .ok (.getfield 66, 3) := by decide +kernel
theorem dM_turn_214 : decode bM_turn 214 = .ok (.iload_n 1, 1) := by decide +kernel
theorem dM_turn_215 : decode bM_turn 215 = .ok (.iload_n 2, 1) := by decide +kernel
theorem dM_turn_216 : decode bM_turn 216 = .ok (.iastore, 1) := by decide +kernel
theorem dM_turn_217 : decode bM_turn 217 = .ok (.return_, 1) := by decide +kernel
theorem dM_lessen_0 : decode bM_lessen 0 = .ok (.aload_n 0, 1) := by decide +kernel
theorem dM_lessen_1 : decode bM_lessen 1 = .ok (.getfield 59, 3) := by decide +kernel
theorem dM_lessen_4 : decode bM_lessen 4 = .ok (.iload_n 2, 1) := by decide +kernel
theorem dM_lessen_5 : decode bM_lessen 5 = .ok (.laload, 1) := by decide +kernel
theorem dM_lessen_6 : decode bM_lessen 6 = .ok (.lconst 0, 1) := by decide +kernel
theorem dM_lessen_7 : decode bM_lessen 7 = .ok (.lcmp, 1) := by decide +kernel
theorem dM_lessen_8 : decode bM_lessen 8 = .ok (.ifCond .eq 14, 3) := by decide +kernel
theorem dM_lessen_11 : decode bM_lessen 11 = .ok (.aload_n 0, 1) := by decide +kernel
theorem dM_lessen_12 : decode bM_lessen 12 = .ok (.getfield 59, 3) := by decide +kernel
theorem dM_lessen_15 : decode bM_lessen 15 = .ok (.iload_n 3, 1) := by decide +kernel
theorem dM_lessen_16 : decode bM_lessen 16 = .ok (.laload, 1) := by decide +kernel
theorem dM_lessen_17 : decode bM_lessen 17 = .ok (.lconst 0, 1) := by decide +kernel
theorem dM_lessen_18 : decode bM_lessen 18 = .ok (.lcmp, 1) := by decide +kernel
theorem dM_lessen_19 : decode bM_lessen 19 = .ok (.ifCond .ne 4, 3) := by decide +kernel
theorem dM_lessen_22 : decode bM_lessen 22 = .ok (.return_, 1) := by decide +kernel
theorem dM_lessen_23 : decode bM_lessen 23 = .ok (.aload_n 0, 1) := by decide +kernel
theorem dM_lessen_24 : decode bM_lessen 24 = .ok (.getfield 59, 3) := by decide +kernel
theorem dM_lessen_27 : decode bM_lessen 27 = .ok (.iload_n 2, 1) := by decide +kernel
theorem dM_lessen_28 : decode bM_lessen 28 = .ok (.laload, 1) := by decide +kernel
theorem dM_lessen_29 : decode bM_lessen 29 = .ok (.aload_n 0, 1) := by decide +kernel
theorem dM_lessen_30 : decode bM_lessen 30 = .ok (.getfield 63, 3) := by decide +kernel
theorem dM_lessen_33 : decode bM_lessen 33 = .ok (.iload_n 3, 1) := by decide +kernel
theorem dM_lessen_34 : decode bM_lessen 34 = .ok (.laload, 1) := by decide +kernel
theorem dM_lessen_35 : decode bM_lessen 35 = .ok (.invokestatic 156, 3) := by decide +kernel
theorem dM_lessen_38 : decode bM_lessen 38 = .ok (.lstore 4, 2) := by decide +kernel
theorem dM_lessen_40 : decode bM_lessen 40 = .ok (.aload_n 0, 1) := by decide +kernel
theorem dM_lessen_41 : decode bM_lessen 41 = .ok (.getfield 59, 3) := by decide +kernel
theorem dM_lessen_44 : decode bM_lessen 44 = .ok (.iload_n 3, 1) := by decide +kernel
theorem dM_lessen_45 : decode bM_lessen 45 = .ok (.laload, 1) := by decide +kernel
theorem dM_lessen_46 : decode bM_lessen 46 = .ok (.aload_n 0, 1) := by decide +kernel
theorem dM_lessen_47 : decode bM_lessen 47 = .ok (.getfield 63, 3) := by decide +kernel
theorem dM_lessen_50 : decode bM_lessen 50 = .ok (.iload_n 2, 1) := by decide +kernel
theorem dM_lessen_51 : decode bM_lessen 51 = .ok (.laload, 1) := by decide +kernel
theorem dM_lessen_52 : decode bM_lessen 52 = .ok (.invokestatic 156, 3) := by decide +kernel
theorem dM_lessen_55 : decode bM_lessen 55 = .ok (.lstore 6, 2) := by decide +kernel
theorem dM_lessen_57 : decode bM_lessen 57 = .ok (.aload_n 0, 1) := by decide +kernel
theorem dM_lessen_58 : decode bM_lessen 58 = .ok (.getfield 59, 3) := by decide +kernel
theorem dM_lessen_61 : decode bM_lessen 61 = .ok (.iload_n 2, 1) := by decide +kernel
theorem dM_lessen_62 : decode bM_lessen 62 = .ok (.laload, 1) := by decide +kernel
theorem dM_lessen_63 : decode bM_lessen 63 = .ok (.lload 4, 2) := by decide +kernel
theorem dM_lessen_65 : decode bM_lessen 65 = .ok (.ldiv, 1) := by decide +kernel
theorem dM_lessen_66 : decode bM_lessen 66 = .ok (.aload_n 0, 1) := by decide +kernel
theorem dM_lessen_67 : decode bM_lessen 67 = .ok (.getfield 59, 3) := by decide +kernel
theorem dM_lessen_70 : decode bM_lessen 70 = .ok (.iload_n 3, 1) := by decide +kernel
theorem dM_lessen_71 : decode bM_lessen 71 = .ok (.laload, 1) := by decide +kernel
theorem dM_lessen_72 : decode bM_lessen 72 = .ok (.lload 6, 2) := by decide +kernel
theorem dM_lessen_74 : decode bM_lessen 74 = .ok (.ldiv, 1) := by decide +kernel
theorem dM_lessen_75 : decode bM_lessen 75 = .ok (.lmul, 1) := by decide +kernel
theorem dM_lessen_76 : decode bM_lessen 76 = .ok (.lstore 8, 2) := by decide +kernel
theorem dM_lessen_78 : decode bM_lessen 78 = .ok (.aload_n 0, 1) := by decide +kernel
theorem dM_lessen_79 : decode bM_lessen 79 = .ok (.getfield 63, 3) := by decide +kernel
theorem dM_lessen_82 : decode bM_lessen 82 = .ok (.iload_n 2, 1) := by decide +kernel
theorem dM_lessen_83 : decode bM_lessen 83 = .ok (.laload, 1) := by decide +kernel
theorem dM_lessen_84 : decode bM_lessen 84 = .ok (.lload 6, 2) := by decide +kernel
theorem dM_lessen_86 : decode bM_lessen 86 = .ok (.ldiv, 1) := by decide +kernel
theorem dM_lessen_87 : decode bM_lessen 87 = .ok (.aload_n 0, 1) := by decide +kernel
theorem dM_lessen_88 : decode bM_lessen 88 = .ok (.getfield 63, 3) := by decide +kernel
theorem dM_lessen_91 : decode bM_lessen 91 = .ok (.iload_n 3, 1) := by decide +kernel
theorem dM_lessen_92 : decode bM_lessen 92 = .ok (.laload, 1) := by decide +kernel
theorem dM_lessen_93 : decode bM_lessen 93 = .ok (.lload 4, 2) := by decide +kernel
theorem dM_lessen_95 : decode bM_lessen 95 = .ok (.ldiv, 1) := by decide +kernel
theorem dM_lessen_96 : decode bM_lessen 96 = .ok (.lmul, 1) := by decide +kernel
theorem dM_lessen_97 : decode bM_lessen 97 = .ok (.lstore 10, 2) := by decide +kernel
theorem dM_lessen_99 : decode bM_lessen 99 = .ok (.aload_n 0, 1) := by decide +kernel
theorem dM_lessen_100 : decode bM_lessen 100 = .ok (.iload_n 1, 1) := by decide +kernel
theorem dM_lessen_101 : decode bM_lessen 101 = .ok (.aload_n 0, 1) := by decide +kernel
theorem dM_lessen_102 : decode bM_lessen 102 = .ok (.getfield 59, 3) := by decide +kernel
theorem dM_lessen_105 : decode bM_lessen 105 = .ok (.iload_n 1, 1) := by decide +kernel
theorem dM_lessen_106 : decode bM_lessen 106 = .ok (.laload, 1) := by decide +kernel
theorem dM_lessen_107 : decode bM_lessen 107 = .ok (.lload 10, 2) := by decide +kernel
theorem dM_lessen_109 : decode bM_lessen 109 = .ok (.lmul, 1) := by decide +kernel
theorem dM_lessen_110 : decode bM_lessen 110 = .ok (.lload 8, 2) := by decide +kernel
theorem dM_lessen_112 : decode bM_lessen 112 = .ok (.aload_n 0, 1) := by decide +kernel
theorem dM_lessen_113 : decode bM_lessen 113 = .ok (.getfield 63, 3) := by decide +kernel
theorem dM_lessen_116 : decode bM_lessen 116 = .ok (.iload_n 1, 1) := by decide +kernel
theorem dM_lessen_117 : decode bM_lessen 117 = .ok (.laload, 1) := by decide +kernel
theorem dM_lessen_118 : decode bM_lessen 118 = .ok (.lmul, 1) := by decide +kernel
theorem dM_lessen_119 : decode bM_lessen 119 = .ok (.lsub, 1) := by decide +kernel
theorem dM_lessen_120 : decode bM_lessen 120 = .ok (.aload_n 0, 1) := by decide +kernel
theorem dM_lessen_121 : decode bM_lessen 121 = .ok (.getfield 63, 3) := by decide +kernel
theorem dM_lessen_124 : decode bM_lessen 124 = .ok (.iload_n 1, 1) := by decide +kernel
theorem dM_lessen_125 : decode bM_lessen 125 = .ok (.laload, 1) := by decide +kernel
theorem dM_lessen_126 : decode bM_lessen 126 = .ok (.lload 10, 2) := by decide +kernel
theorem dM_lessen_128 : decode bM_lessen 128 = .ok (.lmul, 1) := by decide +kernel
theorem dM_lessen_129 : decode bM_lessen 129 = .ok (.invokevirtual 160, 3) := by decide +kernel
theorem dM_lessen_132 : decode bM_lessen 132 = .ok (.return_, 1) := by decide +kernel
theorem dM_clean_0 : decode bM_clean 0 = .ok (.iconst 0, 1) := by decide +kernel
theorem dM_clean_1 : decode bM_clean 1 = .ok (.istore_n 1, 1) := by decide +kernel
theorem dM_clean_2 : decode bM_clean 2 = .ok (.iload_n 1, 1) := by decide +kernel
theorem dM_clean_3 : decode bM_clean 3 = .ok (.bipush 7, 2) := by decide +kernel
theorem dM_clean_5 : decode bM_clean 5 = .ok (.if_icmp .ge 65, 3) := by decide +kernel
theorem dM_clean_8 : decode bM_clean 8 = .ok (.iconst 0, 1) := by decide +kernel
theorem dM_clean_9 : decode bM_clean 9 = .ok (.istore_n 2, 1) := by decide +kernel
theorem dM_clean_10 : decode bM_clean 10 = .ok (.iload_n 2, 1) := by decide +kernel
theorem dM_clean_11 : decode bM_clean 11 = .ok (.bipush 64, 2) := by decide +kernel
theorem dM_clean_13 : decode bM_clean 13 = .ok (.if_icmp .ge 51, 3) := by decide +kernel
theorem dM_clean_16 : decode bM_clean 16 = .ok (.aload_n 0, 1) := by decide +kernel
theorem dM_clean_17 : decode bM_clean 17 = .ok (.getfield 66, 3) := by decide +kernel
theorem dM_clean_20 : decode bM_clean 20 = .ok (.iload_n 1, 1) := by decide +kernel
theorem dM_clean_21 : decode bM_clean 21 = .ok (.iaload, 1) := by decide +kernel
theorem dM_clean_22 : decode bM_clean 22 = .ok (.bipush 64, 2) := by decide +kernel
theorem dM_clean_24 : decode bM_clean 24 = .ok (.if_icmp .lt 40, 3) := by decide +kernel
theorem dM_clean_27 : decode bM_clean 27 = .ok (.aload_n 0, 1) := by decide +kernel
theorem dM_clean_28 : decode bM_clean 28 = .ok (.getfield 69, 3) := by decide +kernel
theorem dM_clean_31 : decode bM_clean 31 = .ok (.iload_n 2, 1) := by decide +kernel
theorem dM_clean_32 : decode bM_clean 32 = .ok (.baload, 1) := by decide +kernel
theorem dM_clean_33 : decode bM_clean 33 = .ok (.ifCond .eq 25, 3) := by decide +kernel
theorem dM_clean_36 : decode bM_clean 36 = .ok (.aload_n 0, 1) := by decide +kernel
theorem dM_clean_37 : decode bM_clean 37 = .ok (.getfield 59, 3) := by decide +kernel
theorem dM_clean_40 : decode bM_clean 40 = .ok (.bipush 72, 2) := by decide +kernel
theorem dM_clean_42 : decode bM_clean 42 = .ok (.iload_n 1, 1) := by decide +kernel
theorem dM_clean_43 : decode bM_clean 43 = .ok (.imul, 1) := by decide +kernel
theorem dM_clean_44 : decode bM_clean 44 = .ok (.iload_n 2, 1) := by decide +kernel
theorem dM_clean_45 : decode bM_clean 45 = .ok (.iadd, 1) := by decide +kernel
theorem dM_clean_46 : decode bM_clean 46 = .ok (.laload, 1) := by decide +kernel
theorem dM_clean_47 : decode bM_clean 47 = .ok (.lconst 0, 1) := by decide +kernel
theorem dM_clean_48 : decode bM_clean 48 = .ok (.lcmp, 1) := by decide +kernel
theorem dM_clean_49 : decode bM_clean 49 = .ok (.ifCond .eq 9, 3) := by decide +kernel
theorem dM_clean_52 : decode bM_clean 52 = .ok (.aload_n 0, 1) := by decide +kernel
theorem dM_clean_53 : decode bM_clean 53 = .ok (.iload_n 1, 1) := by decide +kernel
theorem dM_clean_54 : decode bM_clean 54 = .ok (.iload_n 2, 1) := by decide +kernel
theorem dM_clean_55 : decode bM_clean 55 = .ok (.invokevirtual 175, 3) := by decide +kernel
theorem dM_clean_58 : decode bM_clean 58 = .ok (.iinc 2 1, 3) := by decide +kernel
theorem dM_clean_61 : decode bM_clean 61 = .ok (.goto (-51), 3) := by decide +kernel
theorem dM_clean_64 : decode bM_clean 64 = .ok (.iinc 1 1, 3) := by decide +kernel
theorem dM_clean_67 : decode bM_clean 67 = .ok (.goto (-65), 3) := by decide +kernel
theorem dM_clean_70 : decode bM_clean 70 = .ok (.return_, 1) := by decide +kernel
theorem dM_aim_0 : decode bM_aim 0 = .ok (.iconst 0, 1) := by decide +kernel
theorem dM_aim_1 : decode bM_aim 1 = .ok (.istore_n 2, 1) := by decide +kernel
theorem dM_aim_2 : decode bM_aim 2 = .ok (.iload_n 2, 1) := by decide +kernel
theorem dM_aim_3 : decode bM_aim 3 = .ok (.bipush 72, 2) := by decide +kernel
theorem dM_aim_5 : decode bM_aim 5 = .ok (.if_icmp .ge 74, 3) := by decide +kernel
theorem dM_aim_8 : decode bM_aim 8 = .ok (.iload_n 2, 1) := by decide +kernel
theorem dM_aim_9 : decode bM_aim 9 = .ok (.ifCond .eq 9, 3) := by decide +kernel
theorem dM_aim_12 : decode bM_aim 12 = .ok (.iload_n 2, 1) := by decide +kernel
theorem dM_aim_13 : decode bM_aim 13 = .ok (.bipush 64, 2) := by decide +kernel
theorem dM_aim_15 : decode bM_aim 15 = .ok (.if_icmp .lt 7, 3) := by decide +kernel
theorem dM_aim_18 : decode bM_aim 18 = .ok (.lconst 0, 1) := by decide +kernel
theorem dM_aim_19 : decode bM_aim 19 = .ok (.goto 42, 3) := by decide +kernel
theorem dM_aim_22 : decode bM_aim 22 = .ok (.iload_n 1, 1) := by decide +kernel
theorem dM_aim_23 : decode bM_aim 23 = .ok (.ifCond .le 18, 3) := by decide +kernel
theorem dM_aim_26 : decode bM_aim 26 = .ok (.iload_n 2, 1) := by decide +kernel
theorem dM_aim_27 : decode bM_aim 27 = .ok (.iload_n 1, 1) := by decide +kernel
theorem dM_aim_28 : decode bM_aim 28 = .ok (.if_icmp .ne 9, 3) := by decide +kernel
theorem dM_aim_31 : decode bM_aim 31 = .ok (.ldc2_w 179, 3) := by decide +kernel
theorem dM_aim_34 : decode bM_aim 34 = .ok (.goto 27, 3) := by decide +kernel
theorem dM_aim_37 : decode bM_aim 37 = .ok (.lconst 0, 1) := by decide +kernel
theorem dM_aim_38 : decode bM_aim 38 = .ok (.goto 23, 3) := by decide +kernel
theorem dM_aim_41 : decode bM_aim 41 = .ok (.aload_n 0, 1) := by decide +kernel
theorem dM_aim_42 : decode bM_aim 42 = .ok (.getfield 35, 3) := by decide +kernel
theorem dM_aim_45 : decode bM_aim 45 = .ok (.iload_n 2, 1) := by decide +kernel
theorem dM_aim_46 : decode bM_aim 46 = .ok (.iaload, 1) := by decide +kernel
theorem dM_aim_47 : decode bM_aim 47 = .ok (.ifCond .ge 7, 3) := by decide +kernel
theorem dM_aim_50 : decode bM_aim 50 = .ok (.lconst 0, 1) := by decide +kernel
theorem dM_aim_51 : decode bM_aim 51 = .ok (.goto 10, 3) := by decide +kernel
theorem dM_aim_54 : decode bM_aim 54 = .ok (.aload_n 0, 1) := by decide +kernel
theorem dM_aim_55 : decode bM_aim 55 = .ok (.getfield 35, 3) := by decide +kernel
theorem dM_aim_58 : decode bM_aim 58 = .ok (.iload_n 2, 1) := by decide +kernel
theorem dM_aim_59 : decode bM_aim 59 = .ok (.iaload, 1) := by decide +kernel
theorem dM_aim_60 : decode bM_aim 60 = .ok (.i2l, 1) := by decide +kernel
theorem dM_aim_61 : decode bM_aim 61 = .ok (.lstore_n 3, 1) := by decide +kernel
theorem dM_aim_62 : decode bM_aim 62 = .ok (.aload_n 0, 1) := by decide +kernel
theorem dM_aim_63 : decode bM_aim 63 = .ok (.sipush 504, 3) := by decide +kernel
theorem dM_aim_66 : decode bM_aim 66 = .ok (.iload_n 2, 1) := by decide +kernel
theorem dM_aim_67 : decode bM_aim 67 = .ok (.iadd, 1) := by decide +kernel
theorem dM_aim_68 : decode bM_aim 68 = .ok (.lload_n 3, 1) := by decide +kernel
theorem dM_aim_69 : decode bM_aim 69 = .ok (.lconst 1, 1) := by decide +kernel
theorem dM_aim_70 : decode bM_aim 70 = .ok (.invokevirtual 160, 3) := by decide +kernel
theorem dM_aim_73 : decode bM_aim 73 = .ok (.iinc 2 1, 3) := by decide +kernel
theorem dM_aim_76 : decode bM_aim 76 = .ok (.goto (-74), 3) := by decide +kernel
theorem dM_aim_79 : decode bM_aim 79 = .ok (.iconst 0, 1) := by decide +kernel
theorem dM_aim_80 : decode bM_aim 80 = .ok (.istore_n 2, 1) := by decide +kernel
theorem dM_aim_81 : decode bM_aim 81 = .ok (.iload_n 2, 1) := by decide +kernel
theorem dM_aim_82 : decode bM_aim 82 = .ok (.bipush 7, 2) := by decide +kernel
theorem dM_aim_84 : decode bM_aim 84 = .ok (.if_icmp .ge 149, 3) := by decide +kernel
theorem dM_aim_87 : decode bM_aim 87 = .ok (.sipush 504, 3) := by decide +kernel
theorem dM_aim_90 : decode bM_aim 90 = .ok (.aload_n 0, 1) := by decide +kernel
theorem dM_aim_91 : decode bM_aim 91 = .ok (.getfield 66, 3) := by decide +kernel
theorem dM_aim_94 : decode bM_aim 94 = .ok (.iload_n 2, 1) := by decide +kernel
theorem dM_aim_95 : decode bM_aim 95 = .ok (.iaload, 1) := by decide +kernel
theorem dM_aim_96 : decode bM_aim 96 = .ok (.iadd, 1) := by decide +kernel
theorem dM_aim_97 : decode bM_aim 97 = .ok (.istore_n 3, 1) := by decide +kernel
theorem dM_aim_98 : decode bM_aim 98 = .ok (.aload_n 0, 1) := by decide +kernel
theorem dM_aim_99 : decode bM_aim 99 = .ok (.getfield 66, 3) := by decide +kernel
theorem dM_aim_102 : decode bM_aim 102 = .ok (.iload_n 2, 1) := by decide +kernel
theorem dM_aim_103 : decode bM_aim 103 = .ok (.iaload, 1) := by decide +kernel
theorem dM_aim_104 : decode bM_aim 104 = .ok (.bipush 64, 2) := by decide +kernel
theorem dM_aim_106 : decode bM_aim 106 = .ok (.if_icmp .ge 121, 3) := by decide +kernel
theorem dM_aim_109 : decode bM_aim 109 = .ok (.aload_n 0, 1) := by decide +kernel
theorem dM_aim_110 : decode bM_aim 110 = .ok (.getfield 59, 3) := by decide +kernel
theorem dM_aim_113 : decode bM_aim 113 = .ok (.iload_n 3, 1) := by decide +kernel
theorem dM_aim_114 : decode bM_aim 114 = .ok (.laload, 1) := by decide +kernel
theorem dM_aim_115 : decode bM_aim 115 = .ok (.lconst 0, 1) := by decide +kernel
theorem dM_aim_116 : decode bM_aim 116 = .ok (.lcmp, 1) := by decide +kernel
theorem dM_aim_117 : decode bM_aim 117 = .ok (.ifCond .eq 110, 3) := by decide +kernel
theorem dM_aim_120 : decode bM_aim 120 = .ok (.aload_n 0, 1) := by decide +kernel
theorem dM_aim_121 : decode bM_aim 121 = .ok (.getfield 59, 3) := by decide +kernel
theorem dM_aim_124 : decode bM_aim 124 = .ok (.iload_n 3, 1) := by decide +kernel
theorem dM_aim_125 : decode bM_aim 125 = .ok (.laload, 1) := by decide +kernel
theorem dM_aim_126 : decode bM_aim 126 = .ok (.lstore 4, 2) := by decide +kernel
theorem dM_aim_128 : decode bM_aim 128 = .ok (.aload_n 0, 1) := by decide +kernel
theorem dM_aim_129 : decode bM_aim 129 = .ok (.getfield 63, 3) := by decide +kernel
theorem dM_aim_132 : decode bM_aim 132 = .ok (.iload_n 3, 1) := by decide +kernel
theorem dM_aim_133 : decode bM_aim 133 = .ok (.laload, 1) := by decide +kernel
theorem dM_aim_134 : decode bM_aim 134 = .ok (.lstore 6, 2) := by decide +kernel
theorem dM_aim_136 : decode bM_aim 136 = .ok (.iconst 0, 1) := by decide +kernel
theorem dM_aim_137 : decode bM_aim 137 = .ok (.istore 8, 2) := by decide +kernel
theorem dM_aim_139 : decode bM_aim 139 = .ok (.iload 8, 2) := by decide +kernel
theorem dM_aim_141 : decode bM_aim 141 = .ok (.bipush 72, 2) := by decide +kernel
theorem dM_aim_143 : decode bM_aim 143 = .ok (.if_icmp .ge 38, 3) := by decide +kernel
theorem dM_aim_146 : decode bM_aim 146 = .ok (.iload 8, 2) := by decide +kernel
theorem dM_aim_148 : decode bM_aim 148 = .ok (.aload_n 0, 1) := by decide +kernel
theorem dM_aim_149 : decode bM_aim 149 = .ok (.getfield 66, 3) := by decide +kernel
theorem dM_aim_152 : decode bM_aim 152 = .ok (.iload_n 2, 1) := by decide +kernel
theorem dM_aim_153 : decode bM_aim 153 = .ok (.iaload, 1) := by decide +kernel
theorem dM_aim_154 : decode bM_aim 154 = .ok (.if_icmp .eq 21, 3) := by decide +kernel
theorem dM_aim_157 : decode bM_aim 157 = .ok (.aload_n 0, 1) := by decide +kernel
theorem dM_aim_158 : decode bM_aim 158 = .ok (.sipush 504, 3) := by decide +kernel
theorem dM_aim_161 : decode bM_aim 161 = .ok (.iload 8, 2) := by decide +kernel
theorem dM_aim_163 : decode bM_aim 163 = .ok (.iadd, 1) := by decide +kernel
theorem dM_aim_164 : decode bM_aim 164 = .ok (.iload_n 3, 1) := by decide +kernel
theorem dM_aim_165 : decode bM_aim 165 = .ok (.bipush 72, 2) := by decide +kernel
theorem dM_aim_167 : decode bM_aim 167 = .ok (.iload_n 2, 1) := by decide +kernel
theorem dM_aim_168 : decode bM_aim 168 = .ok (.imul, 1) := by decide +kernel
theorem dM_aim_169 : decode bM_aim 169 = .ok (.iload 8, 2) := by decide +kernel
theorem dM_aim_171 : decode bM_aim 171 = .ok (.iadd, 1) := by decide +kernel
theorem dM_aim_172 : decode bM_aim 172 = .ok (.invokevirtual 164, 3) := by decide +kernel
theorem dM_aim_175 : decode bM_aim 175 = .ok (.iinc 8 1, 3) := by decide +kernel
theorem dM_aim_178 : decode bM_aim 178 = .ok (.goto (-39), 3) := by decide +kernel
theorem dM_aim_181 : decode bM_aim 181 = .ok (.aload_n 0, 1) := by decide +kernel
theorem dM_aim_182 : decode bM_aim 182 = .ok (.iload_n 3, 1) := by decide +kernel
theorem dM_aim_183 : decode bM_aim 183 = .ok (.lload 4, 2) := by decide +kernel
theorem dM_aim_185 : decode bM_aim 185 = .ok (.aload_n 0, 1) := by decide +kernel
theorem dM_aim_186 : decode bM_aim 186 = .ok (.getfield 63, 3) := by decide +kernel
theorem dM_aim_189 : decode bM_aim 189 = .ok (.bipush 72, 2) := by decide +kernel
theorem dM_aim_191 : decode bM_aim 191 = .ok (.iload_n 2, 1) := by decide +kernel
theorem dM_aim_192 : decode bM_aim 192 = .ok (.imul, 1) := by decide +kernel
theorem dM_aim_193 : decode bM_aim 193 = .ok (.aload_n 0, 1) := by decide +kernel
theorem dM_aim_194 : decode bM_aim 194 = .ok (.getfield 66, 3) := by decide +kernel
theorem dM_aim_197 : decode bM_aim 197 = .ok (.iload_n 2, 1) := by decide +kernel
theorem dM_aim_198 : decode bM_aim 198 = .ok (.iaload, 1) := by decide +kernel
theorem dM_aim_199 : decode bM_aim 199 = .ok (.iadd, 1) := by decide +kernel
theorem dM_aim_200 : decode bM_aim 200 = .ok (.laload, 1) := by decide +kernel
theorem dM_aim_201 : decode bM_aim 201 = .ok (.lmul, 1) := by decide +kernel
theorem dM_aim_202 : decode bM_aim 202 = .ok (.lload 4, 2) := by decide +kernel
theorem dM_aim_204 : decode bM_aim 204 = .ok (.aload_n 0, 1) := by decide +kernel
theorem dM_aim_205 : decode bM_aim 205 = .ok (.getfield 59, 3) := by decide +kernel
theorem dM_aim_208 : decode bM_aim 208 = .ok (.bipush 72, 2) := by decide +kernel
theorem dM_aim_210 : decode bM_aim 210 = .ok (.iload_n 2, 1) := by decide +kernel
theorem dM_aim_211 : decode bM_aim 211 = .ok (.imul, 1) := by decide +kernel
theorem dM_aim_212 : decode bM_aim 212 = .ok (.aload_n 0, 1) := by decide +kernel
theorem dM_aim_213 : decode bM_aim 213 = .ok (.getfield 66, 3) := by decide +kernel
theorem dM_aim_216 : decode bM_aim 216 = .ok (.iload_n 2, 1) := by decide +kernel
theorem dM_aim_217 : decode bM_aim 217 = .ok (.iaload, 1) := by decide +kernel
theorem dM_aim_218 : decode bM_aim 218 = .ok (.iadd, 1) := by decide +kernel
theorem dM_aim_219 : decode bM_aim 219 = .ok (.laload, 1) := by decide +kernel
theorem dM_aim_220 : decode bM_aim 220 = .ok (.lmul, 1) := by decide +kernel
theorem dM_aim_221 : decode bM_aim 221 = .ok (.lsub, 1) := by decide +kernel
theorem dM_aim_222 : decode bM_aim 222 = .ok (.lload 6, 2) := by decide +kernel
theorem dM_aim_224 : decode bM_aim 224 = .ok (.invokevirtual 160, 3) := by decide +kernel
theorem dM_aim_227 : decode bM_aim 227 = .ok (.iinc 2 1, 3) := by decide +kernel
theorem dM_aim_230 : decode bM_aim 230 = .ok (.goto (-149), 3) := by decide +kernel
theorem dM_aim_233 : decode bM_aim 233 = .ok (.return_, 1) := by decide +kernel
theorem dM_steps_0 : decode bM_steps 0 = .ok (.aload_n 0, 1) := by decide +kernel
theorem dM_steps_1 : decode bM_steps 1 = .ok (.iconst 0, 1) := by decide +kernel
theorem dM_steps_2 : decode bM_steps 2 = .ok (.putfield 72, 3) := by decide +kernel
theorem dM_steps_5 : decode bM_steps 5 = .ok (.iconst 0, 1) := by decide +kernel
theorem dM_steps_6 : decode bM_steps 6 = .ok (.istore_n 1, 1) := by decide +kernel
theorem dM_steps_7 : decode bM_steps 7 = .ok (.iconst 0, 1) := by decide +kernel
theorem dM_steps_8 : decode bM_steps 8 = .ok (.istore_n 2, 1) := by decide +kernel
theorem dM_steps_9 : decode bM_steps 9 = .ok (.iload_n 2, 1) := by decide +kernel
theorem dM_steps_10 : decode bM_steps 10 = .ok (.sipush 384, 3) := by decide +kernel
theorem dM_steps_13 : decode bM_steps 13 = .ok (.if_icmp .ge 26, 3) := by decide +kernel
theorem dM_steps_16 : decode bM_steps 16 = .ok (.iload_n 1, 1) := by decide +kernel
theorem dM_steps_17 : decode bM_steps 17 = .ok (.aload_n 0, 1) := by decide +kernel
theorem dM_steps_18 : decode bM_steps 18 = .ok (.getfield 28, 3) := by decide +kernel
theorem dM_steps_21 : decode bM_steps 21 = .ok (.iload_n 2, 1) := by decide +kernel
theorem dM_steps_22 : decode bM_steps 22 = .ok (.baload, 1) := by decide +kernel
theorem dM_steps_23 : decode bM_steps 23 = .ok (.ifCond .eq 7, 3) := by decide +kernel
theorem dM_steps_26 : decode bM_steps 26 = .ok (.iconst 1, 1) := by decide +kernel
theorem dM_steps_27 : decode bM_steps 27 = .ok (.goto 4, 3) := by decide +kernel
theorem dM_steps_30 : decode bM_steps 30 = .ok (.iconst 0, 1) := by decide +kernel
theorem dM_steps_31 : decode bM_steps 31 = .ok (.iadd, 1) := by decide +kernel
theorem dM_steps_32 : decode bM_steps 32 = .ok (.istore_n 1, 1) := by decide +kernel
theorem dM_steps_33 : decode bM_steps 33 = .ok (.iinc 2 1, 3) := by decide +kernel
theorem dM_steps_36 : decode bM_steps 36 = .ok (.goto (-27), 3) := by decide +kernel
theorem dM_steps_39 : decode bM_steps 39 = .ok (.iload_n 1, 1) := by decide +kernel
theorem dM_steps_40 : decode bM_steps 40 = .ok (.ireturn, 1) := by decide +kernel
theorem dM_columns_0 : decode bM_columns 0 = .ok (.aload_n 0, 1) := by decide +kernel
theorem dM_columns_1 : decode bM_columns 1 = .ok (.iconst 0, 1) := by decide +kernel
theorem dM_columns_2 : decode bM_columns 2 = .ok (.putfield 72, 3) := by decide +kernel
theorem dM_columns_5 : decode bM_columns 5 = .ok (.iconst 0, 1) := by decide +kernel
theorem dM_columns_6 : decode bM_columns 6 = .ok (.istore_n 1, 1) := by decide +kernel
theorem dM_columns_7 : decode bM_columns 7 = .ok (.iconst 0, 1) := by decide +kernel
theorem dM_columns_8 : decode bM_columns 8 = .ok (.istore_n 2, 1) := by decide +kernel
theorem dM_columns_9 : decode bM_columns 9 = .ok (.iload_n 2, 1) := by decide +kernel
theorem dM_columns_10 : decode bM_columns 10 = .ok (.bipush 64, 2) := by decide +kernel
theorem dM_columns_12 : decode bM_columns 12 = .ok (.if_icmp .ge 26, 3) := by decide +kernel
theorem dM_columns_15 : decode bM_columns 15 = .ok (.iload_n 1, 1) := by decide +kernel
theorem dM_columns_16 : decode bM_columns 16 = .ok (.aload_n 0, 1) := by decide +kernel
theorem dM_columns_17 : decode bM_columns 17 = .ok (.getfield 35, 3) := by decide +kernel
theorem dM_columns_20 : decode bM_columns 20 = .ok (.iload_n 2, 1) := by decide +kernel
theorem dM_columns_21 : decode bM_columns 21 = .ok (.iaload, 1) := by decide +kernel
theorem dM_columns_22 : decode bM_columns 22 = .ok (.ifCond .lt 7, 3) := by decide +kernel
theorem dM_columns_25 : decode bM_columns 25 = .ok (.iconst 1, 1) := by decide +kernel
theorem dM_columns_26 : decode bM_columns 26 = .ok (.goto 4, 3) := by decide +kernel
theorem dM_columns_29 : decode bM_columns 29 = .ok (.iconst 0, 1) := by decide +kernel
theorem dM_columns_30 : decode bM_columns 30 = .ok (.iadd, 1) := by decide +kernel
theorem dM_columns_31 : decode bM_columns 31 = .ok (.istore_n 1, 1) := by decide +kernel
theorem dM_columns_32 : decode bM_columns 32 = .ok (.iinc 2 1, 3) := by decide +kernel
theorem dM_columns_35 : decode bM_columns 35 = .ok (.goto (-26), 3) := by decide +kernel
theorem dM_columns_38 : decode bM_columns 38 = .ok (.iload_n 1, 1) := by decide +kernel
theorem dM_columns_39 : decode bM_columns 39 = .ok (.ireturn, 1) := by decide +kernel
theorem dM_column_0 : decode bM_column 0 = .ok (.aload_n 0, 1) := by decide +kernel
theorem dM_column_1 : decode bM_column 1 = .ok (.iconst 0, 1) := by decide +kernel
theorem dM_column_2 : decode bM_column 2 = .ok (.putfield 72, 3) := by decide +kernel
theorem dM_column_5 : decode bM_column 5 = .ok (.aload_n 0, 1) := by decide +kernel
theorem dM_column_6 : decode bM_column 6 = .ok (.iload_n 1, 1) := by decide +kernel
theorem dM_column_7 : decode bM_column 7 = .ok (.invokevirtual 194, 3) := by decide +kernel
theorem dM_column_10 : decode bM_column 10 = .ok (.istore_n 3, 1) := by decide +kernel
theorem dM_column_11 : decode bM_column 11 = .ok (.iload_n 3, 1) := by decide +kernel
theorem dM_column_12 : decode bM_column 12 = .ok (.ifCond .le 27, 3) := by decide +kernel
theorem dM_column_15 : decode bM_column 15 = .ok (.iload_n 2, 1) := by decide +kernel
theorem dM_column_16 : decode bM_column 16 = .ok (.ifCond .lt 23, 3) := by decide +kernel
theorem dM_column_19 : decode bM_column 19 = .ok (.iload_n 2, 1) := by decide +kernel
theorem dM_column_20 : decode bM_column 20 = .ok (.bipush 6, 2) := by decide +kernel
theorem dM_column_22 : decode bM_column 22 = .ok (.if_icmp .ge 17, 3) := by decide +kernel
theorem dM_column_25 : decode bM_column 25 = .ok (.aload_n 0, 1) := by decide +kernel
theorem dM_column_26 : decode bM_column 26 = .ok (.getfield 38, 3) := by decide +kernel
theorem dM_column_29 : decode bM_column 29 = .ok (.bipush 6, 2) := by decide +kernel
theorem dM_column_31 : decode bM_column 31 = .ok (.iload_n 3, 1) := by decide +kernel
theorem dM_column_32 : decode bM_column 32 = .ok (.imul, 1) := by decide +kernel
theorem dM_column_33 : decode bM_column 33 = .ok (.iload_n 2, 1) := by decide +kernel
theorem dM_column_34 : decode bM_column 34 = .ok (.iadd, 1) := by decide +kernel
theorem dM_column_35 : decode bM_column 35 = .ok (.iaload, 1) := by decide +kernel
theorem dM_column_36 : decode bM_column 36 = .ok (.goto 4, 3) := by decide +kernel
theorem dM_column_39 : decode bM_column 39 = .ok (.iconst (-1), 1) := by decide +kernel
theorem dM_column_40 : decode bM_column 40 = .ok (.ireturn, 1) := by decide +kernel
theorem dM_columnSet_0 : decode bM_columnSet 0 = .ok (.iconst 0, 1) := by decide +kernel
theorem dM_columnSet_1 : decode bM_columnSet 1 = .ok (.istore_n 2, 1) := by decide +kernel
theorem dM_columnSet_2 : decode bM_columnSet 2 = .ok (.iconst 1, 1) := by decide +kernel
theorem dM_columnSet_3 : decode bM_columnSet 3 = .ok (.istore_n 3, 1) := by decide +kernel
theorem dM_columnSet_4 : decode bM_columnSet 4 = .ok (.iload_n 3, 1) := by decide +kernel
theorem dM_columnSet_5 : decode bM_columnSet 5 = .ok (.bipush 64, 2) := by decide +kernel
theorem dM_columnSet_7 : decode bM_columnSet 7 = .ok (.if_icmp .ge 28, 3) := by decide +kernel
theorem dM_columnSet_10 : decode bM_columnSet 10 = .ok (.aload_n 0, 1) := by decide +kernel
theorem dM_columnSet_11 : decode bM_columnSet 11 = .ok (.getfield 35, 3) := by decide +kernel
theorem dM_columnSet_14 : decode bM_columnSet 14 = .ok (.iload_n 3, 1) := by decide +kernel
theorem dM_columnSet_15 : decode bM_columnSet 15 = .ok (.iaload, 1) := by decide +kernel
theorem dM_columnSet_16 : decode bM_columnSet 16 = .ok (.ifCond .lt 13, 3) := by decide +kernel
theorem dM_columnSet_19 : decode bM_columnSet 19 = .ok (.iload_n 2, 1) := by decide +kernel
theorem dM_columnSet_20 : decode bM_columnSet 20 = .ok (.iload_n 1, 1) := by decide +kernel
theorem dM_columnSet_21 : decode bM_columnSet 21 = .ok (.if_icmp .ne 5, 3) := by decide +kernel
theorem dM_columnSet_24 : decode bM_columnSet 24 = .ok (.iload_n 3, 1) := by decide +kernel
theorem dM_columnSet_25 : decode bM_columnSet 25 = .ok (.ireturn, 1) := by decide +kernel
theorem dM_columnSet_26 : decode bM_columnSet 26 = .ok (.iinc 2 1, 3) := by decide +kernel
theorem dM_columnSet_29 : decode bM_columnSet 29 = .ok (.iinc 3 1, 3) := by decide +kernel
theorem dM_columnSet_32 : decode bM_columnSet 32 = .ok (.goto (-28), 3) := by decide +kernel
theorem dM_columnSet_35 : decode bM_columnSet 35 = .ok (.iconst 0, 1) := by decide +kernel
theorem dM_columnSet_36 : decode bM_columnSet 36 = .ok (.ireturn, 1) := by decide +kernel
theorem dM_bound_0 : decode bM_bound 0 = .ok (.aload_n 0, 1) := by decide +kernel
theorem dM_bound_1 : decode bM_bound 1 = .ok (.iconst 0, 1) := by decide +kernel
theorem dM_bound_2 : decode bM_bound 2 = .ok (.putfield 72, 3) := by decide +kernel
theorem dM_bound_5 : decode bM_bound 5 = .ok (.aload_n 0, 1) := by decide +kernel
theorem dM_bound_6 : decode bM_bound 6 = .ok (.getfield 133, 3) := by decide +kernel
theorem dM_bound_9 : decode bM_bound 9 = .ok (.ifCond .eq 23, 3) := by decide +kernel
theorem dM_bound_12 : decode bM_bound 12 = .ok (.aload_n 0, 1) := by decide +kernel
theorem dM_bound_13 : decode bM_bound 13 = .ok (.aload_n 0, 1) := by decide +kernel
theorem dM_bound_14 : decode bM_bound 14 = .ok (.invokevirtual 150, 3) := by decide +kernel
theorem dM_bound_17 : decode bM_bound 17 = .ok (.iconst 0, 1) := by decide +kernel
theorem dM_bound_18 : decode bM_bound 18 = .ok (.invokevirtual 153, 3) := by decide +kernel
theorem dM_bound_21 : decode bM_bound 21 = .ok (.ifCond .eq 11, 3) := by decide +kernel
theorem dM_bound_24 : decode bM_bound 24 = .ok (.aload_n 0, 1) := by decide +kernel
theorem dM_bound_25 : decode bM_bound 25 = .ok (.iload_n 1, 1) := by decide +kernel
theorem dM_bound_26 : decode bM_bound 26 = .ok (.invokevirtual 197, 3) := by decide +kernel
theorem dM_bound_29 : decode bM_bound 29 = .ok (.goto 4, 3) := by decide +kernel
theorem dM_bound_32 : decode bM_bound 32 = .ok (.lconst 0, 1) := by decide +kernel
theorem dM_bound_33 : decode bM_bound 33 = .ok (.lreturn, 1) := by decide +kernel
theorem dM_goal_0 : decode bM_goal 0 = .ok (.iload_n 1, 1) := by decide +kernel
theorem dM_goal_1 : decode bM_goal 1 = .ok (.ifCond .ne 15, 3) := by decide +kernel
theorem dM_goal_4 : decode bM_goal 4 = .ok (.aload_n 0, 1) := by decide +kernel
theorem dM_goal_5 : decode bM_goal 5 = .ok (.getfield 59, 3) := by decide +kernel
theorem dM_goal_8 : decode bM_goal 8 = .ok (.sipush 575, 3) := by decide +kernel
theorem dM_goal_11 : decode bM_goal 11 = .ok (.laload, 1) := by decide +kernel
theorem dM_goal_12 : decode bM_goal 12 = .ok (.lneg, 1) := by decide +kernel
theorem dM_goal_13 : decode bM_goal 13 = .ok (.goto 20, 3) := by decide +kernel
theorem dM_goal_16 : decode bM_goal 16 = .ok (.iload_n 1, 1) := by decide +kernel
theorem dM_goal_17 : decode bM_goal 17 = .ok (.iconst 1, 1) := by decide +kernel
theorem dM_goal_18 : decode bM_goal 18 = .ok (.if_icmp .ne 14, 3) := by decide +kernel
theorem dM_goal_21 : decode bM_goal 21 = .ok (.aload_n 0, 1) := by decide +kernel
theorem dM_goal_22 : decode bM_goal 22 = .ok (.getfield 63, 3) := by decide +kernel
theorem dM_goal_25 : decode bM_goal 25 = .ok (.sipush 575, 3) := by decide +kernel
theorem dM_goal_28 : decode bM_goal 28 = .ok (.laload, 1) := by decide +kernel
theorem dM_goal_29 : decode bM_goal 29 = .ok (.goto 4, 3) := by decide +kernel
theorem dM_goal_32 : decode bM_goal 32 = .ok (.lconst 0, 1) := by decide +kernel
theorem dM_goal_33 : decode bM_goal 33 = .ok (.lreturn, 1) := by decide +kernel
theorem dM_dual_0 : decode bM_dual 0 = .ok (.aload_n 0, 1) := by decide +kernel
theorem dM_dual_1 : decode bM_dual 1 = .ok (.iconst 0, 1) := by decide +kernel
theorem dM_dual_2 : decode bM_dual 2 = .ok (.putfield 72, 3) := by decide +kernel
theorem dM_dual_5 : decode bM_dual 5 = .ok (.aload_n 0, 1) := by decide +kernel
theorem dM_dual_6 : decode bM_dual 6 = .ok (.getfield 133, 3) := by decide +kernel
theorem dM_dual_9 : decode bM_dual 9 = .ok (.ifCond .eq 27, 3) := by decide +kernel
theorem dM_dual_12 : decode bM_dual 12 = .ok (.iload_n 1, 1) := by decide +kernel
theorem dM_dual_13 : decode bM_dual 13 = .ok (.ifCond .lt 23, 3) := by decide +kernel
theorem dM_dual_16 : decode bM_dual 16 = .ok (.iload_n 1, 1) := by decide +kernel
theorem dM_dual_17 : decode bM_dual 17 = .ok (.aload_n 0, 1) := by decide +kernel
theorem dM_dual_18 : decode bM_dual 18 = .ok (.getfield 137, 3) := by decide +kernel
theorem dM_dual_21 : decode bM_dual 21 = .ok (.if_icmp .ge 15, 3) := by decide +kernel
theorem dM_dual_24 : decode bM_dual 24 = .ok (.aload_n 0, 1) := by decide +kernel
theorem dM_dual_25 : decode bM_dual 25 = .ok (.aload_n 0, 1) := by decide +kernel
theorem dM_dual_26 : decode bM_dual 26 = .ok (.invokevirtual 150, 3) := by decide +kernel
theorem dM_dual_29 : decode bM_dual 29 = .ok (.iconst 0, 1) := by decide +kernel
theorem dM_dual_30 : decode bM_dual 30 = .ok (.invokevirtual 153, 3) := by decide +kernel
theorem dM_dual_33 : decode bM_dual 33 = .ok (.ifCond .ne 5, 3) := by decide +kernel
theorem dM_dual_36 : decode bM_dual 36 = .ok (.lconst 0, 1) := by decide +kernel
theorem dM_dual_37 : decode bM_dual 37 = .ok (.lreturn, 1) := by decide +kernel
theorem dM_dual_38 : decode bM_dual 38 = .ok (.aload_n 0, 1) := by decide +kernel
theorem dM_dual_39 : decode bM_dual 39 = .ok (.iconst 0, 1) := by decide +kernel
theorem dM_dual_40 : decode bM_dual 40 = .ok (.invokevirtual 197, 3) := by decide +kernel
theorem dM_dual_43 : decode bM_dual 43 = .ok (.lstore_n 3, 1) := by decide +kernel
theorem dM_dual_44 : decode bM_dual 44 = .ok (.aload_n 0, 1) := by decide +kernel
theorem dM_dual_45 : decode bM_dual 45 = .ok (.iconst 1, 1) := by decide +kernel
theorem dM_dual_46 : decode bM_dual 46 = .ok (.invokevirtual 197, 3) := by decide +kernel
theorem dM_dual_49 : decode bM_dual 49 = .ok (.lstore 5, 2) := by decide +kernel
theorem dM_dual_51 : decode bM_dual 51 = .ok (.aload_n 0, 1) := by decide +kernel
theorem dM_dual_52 : decode bM_dual 52 = .ok (.aload_n 0, 1) := by decide +kernel
theorem dM_dual_53 : decode bM_dual 53 = .ok (.invokevirtual 150, 3) := by decide +kernel
theorem dM_dual_56 : decode bM_dual 56 = .ok (.iconst 1, 1) := by decide +kernel
theorem dM_dual_57 : decode bM_dual 57 = .ok (.iload_n 1, 1) := by decide +kernel
theorem dM_dual_58 : decode bM_dual 58 = .ok (.ishl, 1) := by decide +kernel
theorem dM_dual_59 : decode bM_dual 59 = .ok (.iconst (-1), 1) := by decide +kernel
theorem dM_dual_60 : decode bM_dual 60 = .ok (.ixor, 1) := by decide +kernel
theorem dM_dual_61 : decode bM_dual 61 = .ok (.iand, 1) := by decide +kernel
theorem dM_dual_62 : decode bM_dual 62 = .ok (.iconst 1, 1) := by decide +kernel
theorem dM_dual_63 : decode bM_dual 63 = .ok (.iload_n 1, 1) := by decide +kernel
theorem dM_dual_64 : decode bM_dual 64 = .ok (.ishl, 1) := by decide +kernel
theorem dM_dual_65 : decode bM_dual 65 = .ok (.invokevirtual 153, 3) := by decide +kernel
theorem dM_dual_68 : decode bM_dual 68 = .ok (.ifCond .ne 5, 3) := by decide +kernel
theorem dM_dual_71 : decode bM_dual 71 = .ok (.lconst 0, 1) := by decide +kernel
theorem dM_dual_72 : decode bM_dual 72 = .ok (.lreturn, 1) := by decide +kernel
theorem dM_dual_73 : decode bM_dual 73 = .ok (.lload_n 3, 1) := by decide +kernel
theorem dM_dual_74 : decode bM_dual 74 = .ok (.aload_n 0, 1) := by decide +kernel
theorem dM_dual_75 : decode bM_dual 75 = .ok (.iconst 1, 1) := by decide +kernel
theorem dM_dual_76 : decode bM_dual 76 = .ok (.invokevirtual 197, 3) := by decide +kernel
theorem dM_dual_79 : decode bM_dual 79 = .ok (.lmul, 1) := by decide +kernel
theorem dM_dual_80 : decode bM_dual 80 = .ok (.aload_n 0, 1) := by decide +kernel
theorem dM_dual_81 : decode bM_dual 81 = .ok (.iconst 0, 1) := by decide +kernel
theorem dM_dual_82 : decode bM_dual 82 = .ok (.invokevirtual 197, 3) := by decide +kernel
theorem dM_dual_85 : decode bM_dual 85 = .ok (.lload 5, 2) := by decide +kernel
theorem dM_dual_87 : decode bM_dual 87 = .ok (.lmul, 1) := by decide +kernel
theorem dM_dual_88 : decode bM_dual 88 = .ok (.lsub, 1) := by decide +kernel
theorem dM_dual_89 : decode bM_dual 89 = .ok (.lstore 7, 2) := by decide +kernel
theorem dM_dual_91 : decode bM_dual 91 = .ok (.lload 5, 2) := by decide +kernel
theorem dM_dual_93 : decode bM_dual 93 = .ok (.aload_n 0, 1) := by decide +kernel
theorem dM_dual_94 : decode bM_dual 94 = .ok (.iconst 1, 1) := by decide +kernel
theorem dM_dual_95 : decode bM_dual 95 = .ok (.invokevirtual 197, 3) := by decide +kernel
theorem dM_dual_98 : decode bM_dual 98 = .ok (.lmul, 1) := by decide +kernel
theorem dM_dual_99 : decode bM_dual 99 = .ok (.lstore 9, 2) := by decide +kernel
theorem dM_dual_101 : decode bM_dual 101 = .ok (.lload 7, 2) := by decide +kernel
theorem dM_dual_103 : decode bM_dual 103 = .ok (.lload 9, 2) := by decide +kernel
theorem dM_dual_105 : decode bM_dual 105 = .ok (.invokestatic 156, 3) := by decide +kernel
theorem dM_dual_108 : decode bM_dual 108 = .ok (.lstore 11, 2) := by decide +kernel
theorem dM_dual_110 : decode bM_dual 110 = .ok (.iload_n 2, 1) := by decide +kernel
theorem dM_dual_111 : decode bM_dual 111 = .ok (.ifCond .ne 11, 3) := by decide +kernel
theorem dM_dual_114 : decode bM_dual 114 = .ok (.lload 7, 2) := by decide +kernel
theorem dM_dual_116 : decode bM_dual 116 = .ok (.lload 11, 2) := by decide +kernel
theorem dM_dual_118 : decode bM_dual 118 = .ok (.ldiv, 1) := by decide +kernel
theorem dM_dual_119 : decode bM_dual 119 = .ok (.goto 17, 3) := by decide +kernel
theorem dM_dual_122 : decode bM_dual 122 = .ok (.iload_n 2, 1) := by decide +kernel
theorem dM_dual_123 : decode bM_dual 123 = .ok (.iconst 1, 1) := by decide +kernel
theorem dM_dual_124 : decode bM_dual 124 = .ok (.if_icmp .ne 11, 3) := by decide +kernel
theorem dM_dual_127 : decode bM_dual 127 = .ok (.lload 9, 2) := by decide +kernel
theorem dM_dual_129 : decode bM_dual 129 = .ok (.lload 11, 2) := by decide +kernel
theorem dM_dual_131 : decode bM_dual 131 = .ok (.ldiv, 1) := by decide +kernel
theorem dM_dual_132 : decode bM_dual 132 = .ok (.goto 4, 3) := by decide +kernel
theorem dM_dual_135 : decode bM_dual 135 = .ok (.lconst 0, 1) := by decide +kernel
theorem dM_dual_136 : decode bM_dual 136 = .ok (.lreturn, 1) := by decide +kernel
theorem dM_used_0 : decode bM_used 0 = .ok (.aload_n 0, 1) := by decide +kernel
theorem dM_used_1 : decode bM_used 1 = .ok (.iconst 0, 1) := by decide +kernel
theorem dM_used_2 : decode bM_used 2 = .ok (.putfield 72, 3) := by decide +kernel
theorem dM_used_5 : decode bM_used 5 = .ok (.aload_n 0, 1) := by decide +kernel
theorem dM_used_6 : decode bM_used 6 = .ok (.iload_n 1, 1) := by decide +kernel
theorem dM_used_7 : decode bM_used 7 = .ok (.invokevirtual 194, 3) := by decide +kernel
theorem dM_used_10 : decode bM_used 10 = .ok (.istore_n 3, 1) := by decide +kernel
theorem dM_used_11 : decode bM_used 11 = .ok (.iload_n 3, 1) := by decide +kernel
theorem dM_used_12 : decode bM_used 12 = .ok (.ifCond .eq 31, 3) := by decide +kernel
theorem dM_used_15 : decode bM_used 15 = .ok (.aload_n 0, 1) := by decide +kernel
theorem dM_used_16 : decode bM_used 16 = .ok (.getfield 133, 3) := by decide +kernel
theorem dM_used_19 : decode bM_used 19 = .ok (.ifCond .eq 24, 3) := by decide +kernel
theorem dM_used_22 : decode bM_used 22 = .ok (.aload_n 0, 1) := by decide +kernel
theorem dM_used_23 : decode bM_used 23 = .ok (.getfield 41, 3) := by decide +kernel
theorem dM_used_26 : decode bM_used 26 = .ok (.iload_n 3, 1) := by decide +kernel
theorem dM_used_27 : decode bM_used 27 = .ok (.baload, 1) := by decide +kernel
theorem dM_used_28 : decode bM_used 28 = .ok (.ifCond .ne 15, 3) := by decide +kernel
theorem dM_used_31 : decode bM_used 31 = .ok (.aload_n 0, 1) := by decide +kernel
theorem dM_used_32 : decode bM_used 32 = .ok (.aload_n 0, 1) := by decide +kernel
theorem dM_used_33 : decode bM_used 33 = .ok (.invokevirtual 150, 3) := by decide +kernel
theorem dM_used_36 : decode bM_used 36 = .ok (.iconst 0, 1) := by decide +kernel
theorem dM_used_37 : decode bM_used 37 = .ok (.invokevirtual 153, 3) := by decide +kernel
theorem dM_used_40 : decode bM_used 40 = .ok (.ifCond .ne 5, 3) := by decide +kernel
theorem dM_used_43 : decode bM_used 43 = .ok (.lconst 0, 1) := by decide +kernel
theorem dM_used_44 : decode bM_used 44 = .ok (.lreturn, 1) := by decide +kernel
theorem dM_used_45 : decode bM_used 45 = .ok (.iconst 0, 1) := by decide +kernel
theorem dM_used_46 : decode bM_used 46 = .ok (.istore 4, 2) := by decide +kernel
theorem dM_used_48 : decode bM_used 48 = .ok (.iload 4, 2) := by decide +kernel
theorem dM_used_50 : decode bM_used 50 = .ok (.bipush 64, 2) := by decide +kernel
theorem dM_used_52 : decode bM_used 52 = .ok (.if_icmp .ge 47, 3) := by decide +kernel
theorem dM_used_55 : decode bM_used 55 = .ok (.aload_n 0, 1) := by decide +kernel
theorem dM_used_56 : decode bM_used 56 = .ok (.getfield 69, 3) := by decide +kernel
theorem dM_used_59 : decode bM_used 59 = .ok (.iload 4, 2) := by decide +kernel
theorem dM_used_61 : decode bM_used 61 = .ok (.aload_n 0, 1) := by decide +kernel
theorem dM_used_62 : decode bM_used 62 = .ok (.getfield 69, 3) := by decide +kernel
theorem dM_used_65 : decode bM_used 65 = .ok (.iload 4, 2) := by decide +kernel
theorem dM_used_67 : decode bM_used 67 = .ok (.baload, 1) := by decide +kernel
theorem dM_used_68 : decode bM_used 68 = .ok (.ifCond .eq 23, 3) := by decide +kernel
theorem dM_used_71 : decode bM_used 71 = .ok (.aload_n 0, 1) := by decide +kernel
theorem dM_used_72 : decode bM_used 72 = .ok (.getfield 59, 3) := by decide +kernel
theorem dM_used_75 : decode bM_used 75 = .ok (.sipush 504, 3) := by decide +kernel
theorem dM_used_78 : decode bM_used 78 = .ok (.iload 4, 2) := by decide +kernel
theorem dM_used_80 : decode bM_used 80 = .ok (.iadd, 1) := by decide +kernel
theorem dM_used_81 : decode bM_used 81 = .ok (.laload, 1) := by decide +kernel
theorem dM_used_82 : decode bM_used 82 = .ok (.lconst 0, 1) := by decide +kernel
theorem dM_used_83 : decode bM_used 83 = .ok (.lcmp, 1) := by decide +kernel
theorem dM_used_84 : decode bM_used 84 = .ok (.ifCond .ne 7, 3) := by decide +kernel
theorem dM_used_87 : decode bM_used 87 = .ok (.iconst 1, 1) := by decide +kernel
theorem dM_used_88 : decode bM_used 88 = .ok (.goto 4, 3) := by decide +kernel
theorem dM_used_91 : decode bM_used 91 = .ok (.iconst 0, 1) := by decide +kernel
theorem dM_used_92 : decode bM_used 92 = .ok (.bastore, 1) := by decide +kernel
theorem dM_used_93 : decode bM_used 93 = .ok (.iinc 4 1, 3) := by decide +kernel
theorem dM_used_96 : decode bM_used 96 = .ok (.goto (-48), 3) := by decide +kernel
theorem dM_used_99 : decode bM_used 99 = .ok (.aload_n 0, 1) := by decide +kernel
theorem dM_used_100 : decode bM_used 100 = .ok (.iload_n 3, 1) := by decide +kernel
theorem dM_used_101 : decode bM_used 101 = .ok (.invokevirtual 191, 3) := by decide +kernel
theorem dM_used_104 : decode bM_used 104 = .ok (.aload_n 0, 1) := by decide +kernel
theorem dM_used_105 : decode bM_used 105 = .ok (.invokevirtual 185, 3) := by decide +kernel
theorem dM_used_108 : decode bM_used 108 = .ok (.iload_n 2, 1) := by decide +kernel
theorem dM_used_109 : decode bM_used 109 = .ok (.ifCond .ne 12, 3) := by decide +kernel
theorem dM_used_112 : decode bM_used 112 = .ok (.aload_n 0, 1) := by decide +kernel
theorem dM_used_113 : decode bM_used 113 = .ok (.iconst 0, 1) := by decide +kernel
theorem dM_used_114 : decode bM_used 114 = .ok (.invokevirtual 197, 3) := by decide +kernel
theorem dM_used_117 : decode bM_used 117 = .ok (.lneg, 1) := by decide +kernel
theorem dM_used_118 : decode bM_used 118 = .ok (.goto 8, 3) := by decide +kernel
theorem dM_used_121 : decode bM_used 121 = .ok (.aload_n 0, 1) := by decide +kernel
theorem dM_used_122 : decode bM_used 122 = .ok (.iload_n 2, 1) := by decide +kernel
theorem dM_used_123 : decode bM_used 123 = .ok (.invokevirtual 197, 3) := by decide +kernel
theorem dM_used_126 : decode bM_used 126 = .ok (.lreturn, 1) := by decide +kernel
theorem dM_share_0 : decode bM_share 0 = .ok (.aload_n 0, 1) := by decide +kernel
theorem dM_share_1 : decode bM_share 1 = .ok (.iconst 0, 1) := by decide +kernel
theorem dM_share_2 : decode bM_share 2 = .ok (.putfield 72, 3) := by decide +kernel
theorem dM_share_5 : decode bM_share 5 = .ok (.aload_n 0, 1) := by decide +kernel
theorem dM_share_6 : decode bM_share 6 = .ok (.iload_n 1, 1) := by decide +kernel
theorem dM_share_7 : decode bM_share 7 = .ok (.invokevirtual 194, 3) := by decide +kernel
theorem dM_share_10 : decode bM_share 10 = .ok (.istore_n 3, 1) := by decide +kernel
theorem dM_share_11 : decode bM_share 11 = .ok (.iload_n 3, 1) := by decide +kernel
theorem dM_share_12 : decode bM_share 12 = .ok (.ifCond .eq 10, 3) := by decide +kernel
theorem dM_share_15 : decode bM_share 15 = .ok (.aload_n 0, 1) := by decide +kernel
theorem dM_share_16 : decode bM_share 16 = .ok (.getfield 140, 3) := by decide +kernel
theorem dM_share_19 : decode bM_share 19 = .ok (.ifCond .ne 5, 3) := by decide +kernel
theorem dM_share_22 : decode bM_share 22 = .ok (.lconst 0, 1) := by decide +kernel
theorem dM_share_23 : decode bM_share 23 = .ok (.lreturn, 1) := by decide +kernel
theorem dM_share_24 : decode bM_share 24 = .ok (.aload_n 0, 1) := by decide +kernel
theorem dM_share_25 : decode bM_share 25 = .ok (.iload_n 3, 1) := by decide +kernel
theorem dM_share_26 : decode bM_share 26 = .ok (.invokevirtual 201, 3) := by decide +kernel
theorem dM_share_29 : decode bM_share 29 = .ok (.i2l, 1) := by decide +kernel
theorem dM_share_30 : decode bM_share 30 = .ok (.lstore 4, 2) := by decide +kernel
theorem dM_share_32 : decode bM_share 32 = .ok (.lload 4, 2) := by decide +kernel
theorem dM_share_34 : decode bM_share 34 = .ok (.aload_n 0, 1) := by decide +kernel
theorem dM_share_35 : decode bM_share 35 = .ok (.getfield 140, 3) := by decide +kernel
theorem dM_share_38 : decode bM_share 38 = .ok (.i2l, 1) := by decide +kernel
theorem dM_share_39 : decode bM_share 39 = .ok (.invokestatic 156, 3) := by decide +kernel
theorem dM_share_42 : decode bM_share 42 = .ok (.lstore 6, 2) := by decide +kernel
theorem dM_share_44 : decode bM_share 44 = .ok (.iload_n 2, 1) := by decide +kernel
theorem dM_share_45 : decode bM_share 45 = .ok (.ifCond .ne 11, 3) := by decide +kernel
theorem dM_share_48 : decode bM_share 48 = .ok (.lload 4, 2) := by decide +kernel
theorem dM_share_50 : decode bM_share 50 = .ok (.lload 6, 2) := by decide +kernel
theorem dM_share_52 : decode bM_share 52 = .ok (.ldiv, 1) := by decide +kernel
theorem dM_share_53 : decode bM_share 53 = .ok (.goto 20, 3) := by decide +kernel
theorem dM_share_56 : decode bM_share 56 = .ok (.iload_n 2, 1) := by decide +kernel
theorem dM_share_57 : decode bM_share 57 = .ok (.iconst 1, 1) := by decide +kernel
theorem dM_share_58 : decode bM_share 58 = .ok (.if_icmp .ne 14, 3) := by decide +kernel
theorem dM_share_61 : decode bM_share 61 = .ok (.aload_n 0, 1) := by decide +kernel
theorem dM_share_62 : decode bM_share 62 = .ok (.getfield 140, 3) := by decide +kernel
theorem dM_share_65 : decode bM_share 65 = .ok (.i2l, 1) := by decide +kernel
theorem dM_share_66 : decode bM_share 66 = .ok (.lload 6, 2) := by decide +kernel
theorem dM_share_68 : decode bM_share 68 = .ok (.ldiv, 1) := by decide +kernel
theorem dM_share_69 : decode bM_share 69 = .ok (.goto 4, 3) := by decide +kernel
theorem dM_share_72 : decode bM_share 72 = .ok (.lconst 0, 1) := by decide +kernel
theorem dM_share_73 : decode bM_share 73 = .ok (.lreturn, 1) := by decide +kernel
theorem dM_kilogramsOf_0 : decode bM_kilogramsOf 0 = .ok (.iconst 0, 1) := by decide +kernel
theorem dM_kilogramsOf_1 : decode bM_kilogramsOf 1 = .ok (.istore_n 2, 1) := by decide +kernel
theorem dM_kilogramsOf_2 : decode bM_kilogramsOf 2 = .ok (.iconst 0, 1) := by decide +kernel
theorem dM_kilogramsOf_3 : decode bM_kilogramsOf 3 = .ok (.istore_n 3, 1) := by decide +kernel
theorem dM_kilogramsOf_4 : decode bM_kilogramsOf 4 = .ok (.iload_n 3, 1) := by decide +kernel
theorem dM_kilogramsOf_5 : decode bM_kilogramsOf 5 = .ok (.aload_n 0, 1) := by decide +kernel
theorem dM_kilogramsOf_6 : decode bM_kilogramsOf 6 = .ok (.getfield 137, 3) := by decide +kernel
theorem dM_kilogramsOf_9 : decode bM_kilogramsOf 9 = .ok (.if_icmp .ge 30, 3) := by decide +kernel
theorem dM_kilogramsOf_12 : decode bM_kilogramsOf 12 = .ok (.iload_n 2, 1) := by decide +kernel
theorem dM_kilogramsOf_13 : decode bM_kilogramsOf 13 = .ok (.iload_n 1, 1) := by decide +kernel
theorem dM_kilogramsOf_14 : decode bM_kilogramsOf 14 = .ok (.iload_n 3, 1) := by decide +kernel
theorem dM_kilogramsOf_15 : decode bM_kilogramsOf 15 = .ok (.invokestatic 116, 3) := by decide +kernel
theorem dM_kilogramsOf_18 : decode bM_kilogramsOf 18 = .ok (.ifCond .eq 12, 3) := by decide +kernel
theorem dM_kilogramsOf_21 : decode bM_kilogramsOf 21 = .ok (.aload_n 0, 1) := by decide +kernel
theorem dM_kilogramsOf_22 : decode bM_kilogramsOf 22 = .ok (.getfield 25, 3) := by decide +kernel
theorem dM_kilogramsOf_25 : decode bM_kilogramsOf 25 = .ok (.iload_n 3, 1) := by decide +kernel
theorem dM_kilogramsOf_26 : decode bM_kilogramsOf 26 = .ok (.iaload, 1) := by decide +kernel
theorem dM_kilogramsOf_27 : decode bM_kilogramsOf 27 = .ok (.goto 4, 3) := by decide +kernel
theorem dM_kilogramsOf_30 : decode bM_kilogramsOf 30 = .ok (.iconst 0, 1) := by decide +kernel
theorem dM_kilogramsOf_31 : decode bM_kilogramsOf 31 = .ok (.iadd, 1) := by decide +kernel
theorem dM_kilogramsOf_32 : decode bM_kilogramsOf 32 = .ok (.istore_n 2, 1) := by decide +kernel
theorem dM_kilogramsOf_33 : decode bM_kilogramsOf 33 = .ok (.iinc 3 1, 3) := by decide +kernel
theorem dM_kilogramsOf_36 : decode bM_kilogramsOf 36 = .ok (.goto (-32), 3) := by decide +kernel
theorem dM_kilogramsOf_39 : decode bM_kilogramsOf 39 = .ok (.iload_n 2, 1) := by decide +kernel
theorem dM_kilogramsOf_40 : decode bM_kilogramsOf 40 = .ok (.ireturn, 1) := by decide +kernel
theorem dM_dropped_0 : decode bM_dropped 0 = .ok (.aload_n 0, 1) := by decide +kernel
theorem dM_dropped_1 : decode bM_dropped 1 = .ok (.iconst 0, 1) := by decide +kernel
theorem dM_dropped_2 : decode bM_dropped 2 = .ok (.putfield 72, 3) := by decide +kernel
theorem dM_dropped_5 : decode bM_dropped 5 = .ok (.iconst 0, 1) := by decide +kernel
theorem dM_dropped_6 : decode bM_dropped 6 = .ok (.istore_n 2, 1) := by decide +kernel
theorem dM_dropped_7 : decode bM_dropped 7 = .ok (.iconst 0, 1) := by decide +kernel
theorem dM_dropped_8 : decode bM_dropped 8 = .ok (.istore_n 3, 1) := by decide +kernel
theorem dM_dropped_9 : decode bM_dropped 9 = .ok (.iload_n 3, 1) := by decide +kernel
theorem dM_dropped_10 : decode bM_dropped 10 = .ok (.sipush 384, 3) := by decide +kernel
theorem dM_dropped_13 : decode bM_dropped 13 = .ok (.if_icmp .ge 41, 3) := by decide +kernel
theorem dM_dropped_16 : decode bM_dropped 16 = .ok (.aload_n 0, 1) := by decide +kernel
theorem dM_dropped_17 : decode bM_dropped 17 = .ok (.getfield 28, 3) := by decide +kernel
theorem dM_dropped_20 : decode bM_dropped 20 = .ok (.iload_n 3, 1) := by decide +kernel
theorem dM_dropped_21 : decode bM_dropped 21 = .ok (.baload, 1) := by decide +kernel
theorem dM_dropped_22 : decode bM_dropped 22 = .ok (.ifCond .eq 26, 3) := by decide +kernel
theorem dM_dropped_25 : decode bM_dropped 25 = .ok (.iload_n 2, 1) := by decide +kernel
theorem dM_dropped_26 : decode bM_dropped 26 = .ok (.iload_n 1, 1) := by decide +kernel
theorem dM_dropped_27 : decode bM_dropped 27 = .ok (.if_icmp .ne 18, 3) := by decide +kernel
theorem dM_dropped_30 : decode bM_dropped 30 = .ok (.aload_n 0, 1) := by decide +kernel
theorem dM_dropped_31 : decode bM_dropped 31 = .ok (.getfield 32, 3) := by decide +kernel
theorem dM_dropped_34 : decode bM_dropped 34 = .ok (.iload_n 3, 1) := by decide +kernel
theorem dM_dropped_35 : decode bM_dropped 35 = .ok (.baload, 1) := by decide +kernel
theorem dM_dropped_36 : decode bM_dropped 36 = .ok (.ifCond .ne 7, 3) := by decide +kernel
theorem dM_dropped_39 : decode bM_dropped 39 = .ok (.iconst 1, 1) := by decide +kernel
theorem dM_dropped_40 : decode bM_dropped 40 = .ok (.goto 4, 3) := by decide +kernel
theorem dM_dropped_43 : decode bM_dropped 43 = .ok (.iconst 0, 1) := by decide +kernel
theorem dM_dropped_44 : decode bM_dropped 44 = .ok (.ireturn, 1) := by decide +kernel
theorem dM_dropped_45 : decode bM_dropped 45 = .ok (.iinc 2 1, 3) := by decide +kernel
theorem dM_dropped_48 : decode bM_dropped 48 = .ok (.iinc 3 1, 3) := by decide +kernel
theorem dM_dropped_51 : decode bM_dropped 51 = .ok (.goto (-42), 3) := by decide +kernel
theorem dM_dropped_54 : decode bM_dropped 54 = .ok (.iconst 0, 1) := by decide +kernel
theorem dM_dropped_55 : decode bM_dropped 55 = .ok (.ireturn, 1) := by decide +kernel
theorem dM_cuts_0 : decode bM_cuts 0 = .ok (.aload_n 0, 1) := by decide +kernel
theorem dM_cuts_1 : decode bM_cuts 1 = .ok (.iconst 0, 1) := by decide +kernel
theorem dM_cuts_2 : decode bM_cuts 2 = .ok (.putfield 72, 3) := by decide +kernel
theorem dM_cuts_5 : decode bM_cuts 5 = .ok (.iconst 0, 1) := by decide +kernel
theorem dM_cuts_6 : decode bM_cuts 6 = .ok (.istore_n 1, 1) := by decide +kernel
theorem dM_cuts_7 : decode bM_cuts 7 = .ok (.iconst 1, 1) := by decide +kernel
theorem dM_cuts_8 : decode bM_cuts 8 = .ok (.istore_n 2, 1) := by decide +kernel
theorem dM_cuts_9 : decode bM_cuts 9 = .ok (.iload_n 2, 1) := by decide +kernel
theorem dM_cuts_10 : decode bM_cuts 10 = .ok (.bipush 64, 2) := by decide +kernel
theorem dM_cuts_12 : decode bM_cuts 12 = .ok (.if_icmp .ge 25, 3) := by decide +kernel
theorem dM_cuts_15 : decode bM_cuts 15 = .ok (.iload_n 1, 1) := by decide +kernel
theorem dM_cuts_16 : decode bM_cuts 16 = .ok (.aload_n 0, 1) := by decide +kernel
theorem dM_cuts_17 : decode bM_cuts 17 = .ok (.iload_n 2, 1) := by decide +kernel
theorem dM_cuts_18 : decode bM_cuts 18 = .ok (.invokevirtual 204, 3) := by decide +kernel
theorem dM_cuts_21 : decode bM_cuts 21 = .ok (.ifCond .eq 7, 3) := by decide +kernel
theorem dM_cuts_24 : decode bM_cuts 24 = .ok (.iconst 1, 1) := by decide +kernel
theorem dM_cuts_25 : decode bM_cuts 25 = .ok (.goto 4, 3) := by decide +kernel
theorem dM_cuts_28 : decode bM_cuts 28 = .ok (.iconst 0, 1) := by decide +kernel
theorem dM_cuts_29 : decode bM_cuts 29 = .ok (.iadd, 1) := by decide +kernel
theorem dM_cuts_30 : decode bM_cuts 30 = .ok (.istore_n 1, 1) := by decide +kernel
theorem dM_cuts_31 : decode bM_cuts 31 = .ok (.iinc 2 1, 3) := by decide +kernel
theorem dM_cuts_34 : decode bM_cuts 34 = .ok (.goto (-25), 3) := by decide +kernel
theorem dM_cuts_37 : decode bM_cuts 37 = .ok (.iload_n 1, 1) := by decide +kernel
theorem dM_cuts_38 : decode bM_cuts 38 = .ok (.ireturn, 1) := by decide +kernel
theorem dM_isCut_0 : decode bM_isCut 0 = .ok (.aload_n 0, 1) := by decide +kernel
theorem dM_isCut_1 : decode bM_isCut 1 = .ok (.getfield 133, 3) := by decide +kernel
theorem dM_isCut_4 : decode bM_isCut 4 = .ok (.ifCond .eq 36, 3) := by decide +kernel
theorem dM_isCut_7 : decode bM_isCut 7 = .ok (.aload_n 0, 1) := by decide +kernel
theorem dM_isCut_8 : decode bM_isCut 8 = .ok (.getfield 140, 3) := by decide +kernel
theorem dM_isCut_11 : decode bM_isCut 11 = .ok (.ifCond .le 29, 3) := by decide +kernel
theorem dM_isCut_14 : decode bM_isCut 14 = .ok (.iload_n 1, 1) := by decide +kernel
theorem dM_isCut_15 : decode bM_isCut 15 = .ok (.iconst 1, 1) := by decide +kernel
theorem dM_isCut_16 : decode bM_isCut 16 = .ok (.aload_n 0, 1) := by decide +kernel
theorem dM_isCut_17 : decode bM_isCut 17 = .ok (.getfield 137, 3) := by decide +kernel
theorem dM_isCut_20 : decode bM_isCut 20 = .ok (.ishl, 1) := by decide +kernel
theorem dM_isCut_21 : decode bM_isCut 21 = .ok (.if_icmp .ge 19, 3) := by decide +kernel
theorem dM_isCut_24 : decode bM_isCut 24 = .ok (.aload_n 0, 1) := by decide +kernel
theorem dM_isCut_25 : decode bM_isCut 25 = .ok (.iload_n 1, 1) := by decide +kernel
theorem dM_isCut_26 : decode bM_isCut 26 = .ok (.invokevirtual 201, 3) := by decide +kernel
theorem dM_isCut_29 : decode bM_isCut 29 = .ok (.aload_n 0, 1) := by decide +kernel
theorem dM_isCut_30 : decode bM_isCut 30 = .ok (.getfield 140, 3) := by decide +kernel
theorem dM_isCut_33 : decode bM_isCut 33 = .ok (.if_icmp .le 7, 3) := by decide +kernel
theorem dM_isCut_36 : decode bM_isCut 36 = .ok (.iconst 1, 1) := by decide +kernel
theorem dM_isCut_37 : decode bM_isCut 37 = .ok (.goto 4, 3) := by decide +kernel
theorem dM_isCut_40 : decode bM_isCut 40 = .ok (.iconst 0, 1) := by decide +kernel
theorem dM_isCut_41 : decode bM_isCut 41 = .ok (.ireturn, 1) := by decide +kernel
theorem dM_cut_0 : decode bM_cut 0 = .ok (.aload_n 0, 1) := by decide +kernel
theorem dM_cut_1 : decode bM_cut 1 = .ok (.iconst 0, 1) := by decide +kernel
theorem dM_cut_2 : decode bM_cut 2 = .ok (.putfield 72, 3) := by decide +kernel
theorem dM_cut_5 : decode bM_cut 5 = .ok (.iconst 0, 1) := by decide +kernel
theorem dM_cut_6 : decode bM_cut 6 = .ok (.istore_n 3, 1) := by decide +kernel
theorem dM_cut_7 : decode bM_cut 7 = .ok (.iconst 1, 1) := by decide +kernel
theorem dM_cut_8 : decode bM_cut 8 = .ok (.istore 4, 2) := by decide +kernel
theorem dM_cut_10 : decode bM_cut 10 = .ok (.iload 4, 2) := by decide +kernel
theorem dM_cut_12 : decode bM_cut 12 = .ok (.bipush 64, 2) := by decide +kernel
theorem dM_cut_14 : decode bM_cut 14 = .ok (.if_icmp .ge 33, 3) := by decide +kernel
theorem dM_cut_17 : decode bM_cut 17 = .ok (.aload_n 0, 1) := by decide +kernel
theorem dM_cut_18 : decode bM_cut 18 = .ok (.iload 4, 2) := by decide +kernel
theorem dM_cut_20 : decode bM_cut 20 = .ok (.invokevirtual 204, 3) := by decide +kernel
theorem dM_cut_23 : decode bM_cut 23 = .ok (.ifCond .eq 18, 3) := by decide +kernel
theorem dM_cut_26 : decode bM_cut 26 = .ok (.iload_n 3, 1) := by decide +kernel
theorem dM_cut_27 : decode bM_cut 27 = .ok (.iload_n 1, 1) := by decide +kernel
theorem dM_cut_28 : decode bM_cut 28 = .ok (.if_icmp .ne 10, 3) := by decide +kernel
theorem dM_cut_31 : decode bM_cut 31 = .ok (.iload 4, 2) := by decide +kernel
theorem dM_cut_33 : decode bM_cut 33 = .ok (.iload_n 2, 1) := by decide +kernel
theorem dM_cut_34 : decode bM_cut 34 = .ok (.invokestatic 207, 3) := by decide +kernel
theorem dM_cut_37 : decode bM_cut 37 = .ok (.ireturn, 1) := by decide +kernel
theorem dM_cut_38 : decode bM_cut 38 = .ok (.iinc 3 1, 3) := by decide +kernel
theorem dM_cut_41 : decode bM_cut 41 = .ok (.iinc 4 1, 3) := by decide +kernel
theorem dM_cut_44 : decode bM_cut 44 = .ok (.goto (-34), 3) := by decide +kernel
theorem dM_cut_47 : decode bM_cut 47 = .ok (.iconst (-1), 1) := by decide +kernel
theorem dM_cut_48 : decode bM_cut 48 = .ok (.ireturn, 1) := by decide +kernel
theorem dM_bitOf_0 : decode bM_bitOf 0 = .ok (.iconst 0, 1) := by decide +kernel
theorem dM_bitOf_1 : decode bM_bitOf 1 = .ok (.istore_n 2, 1) := by decide +kernel
theorem dM_bitOf_2 : decode bM_bitOf 2 = .ok (.iconst 0, 1) := by decide +kernel
theorem dM_bitOf_3 : decode bM_bitOf 3 = .ok (.istore_n 3, 1) := by decide +kernel
theorem dM_bitOf_4 : decode bM_bitOf 4 = .ok (.iload_n 3, 1) := by decide +kernel
theorem dM_bitOf_5 : decode bM_bitOf 5 = .ok (.bipush 6, 2) := by decide +kernel
theorem dM_bitOf_7 : decode bM_bitOf 7 = .ok (.if_icmp .ge 27, 3) := by decide +kernel
theorem dM_bitOf_10 : decode bM_bitOf 10 = .ok (.iload_n 0, 1) := by decide +kernel
theorem dM_bitOf_11 : decode bM_bitOf 11 = .ok (.iload_n 3, 1) := by decide +kernel
theorem dM_bitOf_12 : decode bM_bitOf 12 = .ok (.invokestatic 116, 3) := by decide +kernel
theorem dM_bitOf_15 : decode bM_bitOf 15 = .ok (.ifCond .eq 13, 3) := by decide +kernel
theorem dM_bitOf_18 : decode bM_bitOf 18 = .ok (.iload_n 2, 1) := by decide +kernel
theorem dM_bitOf_19 : decode bM_bitOf 19 = .ok (.iload_n 1, 1) := by decide +kernel
theorem dM_bitOf_20 : decode bM_bitOf 20 = .ok (.if_icmp .ne 5, 3) := by decide +kernel
theorem dM_bitOf_23 : decode bM_bitOf 23 = .ok (.iload_n 3, 1) := by decide +kernel
theorem dM_bitOf_24 : decode bM_bitOf 24 = .ok (.ireturn, 1) := by decide +kernel
theorem dM_bitOf_25 : decode bM_bitOf 25 = .ok (.iinc 2 1, 3) := by decide +kernel
theorem dM_bitOf_28 : decode bM_bitOf 28 = .ok (.iinc 3 1, 3) := by decide +kernel
theorem dM_bitOf_31 : decode bM_bitOf 31 = .ok (.goto (-27), 3) := by decide +kernel
theorem dM_bitOf_34 : decode bM_bitOf 34 = .ok (.iconst (-1), 1) := by decide +kernel
theorem dM_bitOf_35 : decode bM_bitOf 35 = .ok (.ireturn, 1) := by decide +kernel
theorem dM_check_0 : decode bM_check 0 = .ok (.aload_n 0, 1) := by decide +kernel
theorem dM_check_1 : decode bM_check 1 = .ok (.iconst 0, 1) := by decide +kernel
theorem dM_check_2 : decode bM_check 2 = .ok (.putfield 72, 3) := by decide +kernel
theorem dM_check_5 : decode bM_check 5 = .ok (.iconst 0, 1) := by decide +kernel
theorem dM_check_6 : decode bM_check 6 = .ok (.istore_n 1, 1) := by decide +kernel
theorem dM_check_7 : decode bM_check 7 = .ok (.iconst 1, 1) := by decide +kernel
theorem dM_check_8 : decode bM_check 8 = .ok (.istore_n 2, 1) := by decide +kernel
theorem dM_check_9 : decode bM_check 9 = .ok (.iload_n 2, 1) := by decide +kernel
theorem dM_check_10 : decode bM_check 10 = .ok (.bipush 64, 2) := by decide +kernel
theorem dM_check_12 : decode bM_check 12 = .ok (.if_icmp .ge 103, 3) := by decide +kernel
theorem dM_check_15 : decode bM_check 15 = .ok (.aload_n 0, 1) := by decide +kernel
theorem dM_check_16 : decode bM_check 16 = .ok (.getfield 35, 3) := by decide +kernel
theorem dM_check_19 : decode bM_check 19 = .ok (.iload_n 2, 1) := by decide +kernel
theorem dM_check_20 : decode bM_check 20 = .ok (.iaload, 1) := by decide +kernel
theorem dM_check_21 : decode bM_check 21 = .ok (.ifCond .lt 88, 3) := by decide +kernel
theorem dM_check_24 : decode bM_check 24 = .ok (.iinc 1 1, 3) := by decide +kernel
theorem dM_check_27 : decode bM_check 27 = .ok (.aload_n 0, 1) := by decide +kernel
theorem dM_check_28 : decode bM_check 28 = .ok (.iconst 0, 1) := by decide +kernel
theorem dM_check_29 : decode bM_check 29 = .ok (.putfield 102, 3) := by decide +kernel
theorem dM_check_32 : decode bM_check 32 = .ok (.iconst 0, 1) := by decide +kernel
theorem dM_check_33 : decode bM_check 33 = .ok (.istore_n 3, 1) := by decide +kernel
theorem dM_check_34 : decode bM_check 34 = .ok (.iload_n 3, 1) := by decide +kernel
theorem dM_check_35 : decode bM_check 35 = .ok (.bipush 6, 2) := by decide +kernel
theorem dM_check_37 : decode bM_check 37 = .ok (.if_icmp .ge 50, 3) := by decide +kernel
theorem dM_check_40 : decode bM_check 40 = .ok (.aload_n 0, 1) := by decide +kernel
theorem dM_check_41 : decode bM_check 41 = .ok (.getfield 38, 3) := by decide +kernel
theorem dM_check_44 : decode bM_check 44 = .ok (.bipush 6, 2) := by decide +kernel
theorem dM_check_46 : decode bM_check 46 = .ok (.iload_n 2, 1) := by decide +kernel
theorem dM_check_47 : decode bM_check 47 = .ok (.imul, 1) := by decide +kernel
theorem dM_check_48 : decode bM_check 48 = .ok (.iload_n 3, 1) := by decide +kernel
theorem dM_check_49 : decode bM_check 49 = .ok (.iadd, 1) := by decide +kernel
theorem dM_check_50 : decode bM_check 50 = .ok (.iaload, 1) := by decide +kernel
theorem dM_check_51 : decode bM_check 51 = .ok (.ifCond .lt 36, 3) := by decide +kernel
theorem dM_check_54 : decode bM_check 54 = .ok (.aload_n 0, 1) := by decide +kernel
theorem dM_check_55 : decode bM_check 55 = .ok (.getfield 44, 3) := by decide +kernel
theorem dM_check_58 : decode bM_check 58 = .ok (.iload_n 3, 1) := by decide +kernel
theorem dM_check_59 : decode bM_check 59 = .ok (.aload_n 0, 1) := by decide +kernel
theorem dM_check_60 : decode bM_check 60 = .ok (.getfield 38, 3) := by decide +kernel
theorem dM_check_63 : decode bM_check 63 = .ok (.bipush 6, 2) := by decide +kernel
theorem dM_check_65 : decode bM_check 65 = .ok (.iload_n 2, 1) := by decide +kernel
theorem dM_check_66 : decode bM_check 66 = .ok (.imul, 1) := by decide +kernel
theorem dM_check_67 : decode bM_check 67 = .ok (.iload_n 3, 1) := by decide +kernel
theorem dM_check_68 : decode bM_check 68 = .ok (.iadd, 1) := by decide +kernel
theorem dM_check_69 : decode bM_check 69 = .ok (.iaload, 1) := by decide +kernel
theorem dM_check_70 : decode bM_check 70 = .ok (.iastore, 1) := by decide +kernel
theorem dM_check_71 : decode bM_check 71 = .ok (.aload_n 0, 1) := by decide +kernel
theorem dM_check_72 : decode bM_check 72 = .ok (.dup, 1) := by decide +kernel
theorem dM_check_73 : decode bM_check 73 = .ok (.getfield 102, 3) := by decide +kernel
theorem dM_check_76 : decode bM_check 76 = .ok (.iconst 1, 1) := by decide +kernel
theorem dM_check_77 : decode bM_check 77 = .ok (.iadd, 1) := by decide +kernel
theorem dM_check_78 : decode bM_check 78 = .ok (.putfield 102, 3) := by decide +kernel
theorem dM_check_81 : decode bM_check 81 = .ok (.iinc 3 1, 3) := by decide +kernel
theorem dM_check_84 : decode bM_check 84 = .ok (.goto (-50), 3) := by decide +kernel
theorem dM_check_87 : decode bM_check 87 = .ok (.aload_n 0, 1) := by decide +kernel
theorem dM_check_88 : decode bM_check 88 = .ok (.invokevirtual 124, 3) := by decide +kernel
theorem dM_check_91 : decode bM_check 91 = .ok (.ifCond .eq 16, 3) := by decide +kernel
theorem dM_check_94 : decode bM_check 94 = .ok (.aload_n 0, 1) := by decide +kernel
theorem dM_check_95 : decode bM_check 95 = .ok (.invokevirtual 127, 3) := by decide +kernel
theorem dM_check_98 : decode bM_check 98 = .ok (.aload_n 0, 1) := by decide +kernel
theorem dM_check_99 : decode bM_check 99 = .ok (.getfield 35, 3) := by decide +kernel
theorem dM_check_102 : decode bM_check 102 = .ok (.iload_n 2, 1) := by decide +kernel
theorem dM_check_103 : decode bM_check 103 = .ok (.iaload, 1) := by decide +kernel
theorem dM_check_104 : decode bM_check 104 = .ok (.if_icmp .eq 5, 3) := by decide +kernel
theorem dM_check_107 : decode bM_check 107 = .ok (.iload_n 1, 1) := by decide +kernel
theorem dM_check_108 : decode bM_check 108 = .ok (.ireturn, 1) := by decide +kernel
theorem dM_check_109 : decode bM_check 109 = .ok (.iinc 2 1, 3) := by decide +kernel
theorem dM_check_112 : decode bM_check 112 = .ok (.goto (-103), 3) := by decide +kernel
theorem dM_check_115 : decode bM_check 115 = .ok (.iconst 0, 1) := by decide +kernel
theorem dM_check_116 : decode bM_check 116 = .ok (.ireturn, 1) := by decide +kernel
theorem dM_labelsClosed_0 : decode bM_labelsClosed 0 = .ok (.aload_n 0, 1) := by decide +kernel
theorem dM_labelsClosed_1 : decode bM_labelsClosed 1 = .ok (.iconst 0, 1) := by decide +kernel
theorem dM_labelsClosed_2 : decode bM_labelsClosed 2 = .ok (.putfield 72, 3) := by decide +kernel
theorem dM_labelsClosed_5 : decode bM_labelsClosed 5 = .ok (.aload_n 0, 1) := by decide +kernel
theorem dM_labelsClosed_6 : decode bM_labelsClosed 6 = .ok (.getfield 133, 3) := by decide +kernel
theorem dM_labelsClosed_9 : decode bM_labelsClosed 9 = .ok (.istore_n 1, 1) := by decide +kernel
theorem dM_labelsClosed_10 : decode bM_labelsClosed 10 = .ok (.iconst 1, 1) := by decide +kernel
theorem dM_labelsClosed_11 : decode bM_labelsClosed 11 = .ok (.istore_n 2, 1) := by decide +kernel
theorem dM_labelsClosed_12 : decode bM_labelsClosed 12 = .ok (.iload_n 2, 1) := by decide +kernel
theorem dM_labelsClosed_13 : decode bM_labelsClosed 13 = .ok (.bipush 64, 2) := by decide +kernel
theorem dM_labelsClosed_15 : decode bM_labelsClosed 15 = .ok (.if_icmp .ge 57, 3) := by decide +kernel
theorem dM_labelsClosed_18 : decode bM_labelsClosed 18 = .ok (.iconst 1, 1) := by decide +kernel
theorem dM_labelsClosed_19 : decode bM_labelsClosed 19 = .ok (.istore_n 3, 1) := by decide +kernel
theorem dM_labelsClosed_20 : decode bM_labelsClosed 20 = .ok (.iload_n 3, 1) := by decide +kernel
theorem dM_labelsClosed_21 : decode bM_labelsClosed 21 = .ok (.iload_n 2, 1) := by decide +kernel
theorem dM_labelsClosed_22 : decode bM_labelsClosed 22 = .ok (.if_icmp .ge 44, 3) := by decide +kernel
theorem dM_labelsClosed_25 : decode bM_labelsClosed 25 = .ok (.aload_n 0, 1) := by decide +kernel
theorem dM_labelsClosed_26 : decode bM_labelsClosed 26 = .ok (.getfield 35, 3) := by decide +kernel
theorem dM_labelsClosed_29 : decode bM_labelsClosed 29 = .ok (.iload_n 2, 1) := by decide +kernel
theorem dM_labelsClosed_30 : decode bM_labelsClosed 30 = .ok (.iaload, 1) := by decide +kernel
theorem dM_labelsClosed_31 : decode bM_labelsClosed 31 = .ok (.ifCond .lt 35, 3) := by decide +kernel
theorem dM_labelsClosed_34 : decode bM_labelsClosed 34 = .ok (.iload_n 1, 1) := by decide +kernel
theorem dM_labelsClosed_35 : decode bM_labelsClosed 35 = .ok (.ifCond .eq 23, 3) := by decide +kernel
theorem dM_labelsClosed_38 : decode bM_labelsClosed 38 = .ok (.iload_n 3, 1) := by decide +kernel
theorem dM_labelsClosed_39 : decode bM_labelsClosed 39 = .ok (.iload_n 2, 1) := by decide +kernel
theorem dM_labelsClosed_40 : decode bM_labelsClosed 40 = .ok (.iand, 1) := by decide +kernel
theorem dM_labelsClosed_41 : decode bM_labelsClosed 41 = .ok (.iload_n 3, 1) := by decide +kernel
theorem dM_labelsClosed_42 : decode bM_labelsClosed 42 = .ok (.if_icmp .ne 12, 3) := by decide +kernel
theorem dM_labelsClosed_45 : decode bM_labelsClosed 45 = .ok (.aload_n 0, 1) := by decide +kernel
theorem dM_labelsClosed_46 : decode bM_labelsClosed 46 = .ok (.getfield 35, 3) := by decide +kernel
theorem dM_labelsClosed_49 : decode bM_labelsClosed 49 = .ok (.iload_n 3, 1) := by decide +kernel
theorem dM_labelsClosed_50 : decode bM_labelsClosed 50 = .ok (.iaload, 1) := by decide +kernel
theorem dM_labelsClosed_51 : decode bM_labelsClosed 51 = .ok (.ifCond .lt 7, 3) := by decide +kernel
theorem dM_labelsClosed_54 : decode bM_labelsClosed 54 = .ok (.iconst 1, 1) := by decide +kernel
theorem dM_labelsClosed_55 : decode bM_labelsClosed 55 = .ok (.goto 4, 3) := by decide +kernel
theorem dM_labelsClosed_58 : decode bM_labelsClosed 58 = .ok (.iconst 0, 1) := by decide +kernel
theorem dM_labelsClosed_59 : decode bM_labelsClosed 59 = .ok (.istore_n 1, 1) := by decide +kernel
theorem dM_labelsClosed_60 : decode bM_labelsClosed 60 = .ok (.iinc 3 1, 3) := by decide +kernel
theorem dM_labelsClosed_63 : decode bM_labelsClosed 63 = .ok (.goto (-43), 3) := by decide +kernel
theorem dM_labelsClosed_66 : decode bM_labelsClosed 66 = .ok (.iinc 2 1, 3) := by decide +kernel
theorem dM_labelsClosed_69 : decode bM_labelsClosed 69 = .ok (.goto (-57), 3) := by decide +kernel
theorem dM_labelsClosed_72 : decode bM_labelsClosed 72 = .ok (.iload_n 1, 1) := by decide +kernel
theorem dM_labelsClosed_73 : decode bM_labelsClosed 73 = .ok (.ireturn, 1) := by decide +kernel
