theorem dX6_undo_11 : decode cX6_undo 11 = .ok (.ldc 211, 2) := by decide +kernel
theorem dX6_undo_13 : decode cX6_undo 13 = .ok (.invokespecial 67, 3) := by decide +kernel
theorem dX6_undo_16 : decode cX6_undo 16 = .ok (.athrow, 1) := by decide +kernel
theorem dX6_undo_17 : decode cX6_undo 17 = .ok (.aload_n 0, 1) := by decide +kernel
theorem dX6_undo_18 : decode cX6_undo 18 = .ok (.dup, 1) := by decide +kernel
theorem dX6_undo_19 : decode cX6_undo 19 = .ok (.getfield 208, 3) := by decide +kernel
theorem dX6_undo_22 : decode cX6_undo 22 = .ok (.iconst 1, 1) := by decide +kernel
theorem dX6_undo_23 : decode cX6_undo 23 = .ok (.isub, 1) := by decide +kernel
theorem dX6_undo_24 : decode cX6_undo 24 = .ok (.putfield 208, 3) := by decide +kernel
theorem dX6_undo_27 : decode cX6_undo 27 = .ok (.aload_n 0, 1) := by decide +kernel
theorem dX6_undo_28 : decode cX6_undo 28 = .ok (.getfield 10, 3) := by decide +kernel
theorem dX6_undo_31 : decode cX6_undo 31 = .ok (.aload_n 0, 1) := by decide +kernel
theorem dX6_undo_32 : decode cX6_undo 32 = .ok (.getfield 16, 3) := by decide +kernel
theorem dX6_undo_35 : decode cX6_undo 35 = .ok (.aload_n 0, 1) := by decide +kernel
theorem dX6_undo_36 : decode cX6_undo 36 = .ok (.getfield 208, 3) := by decide +kernel
theorem dX6_undo_39 : decode cX6_undo 39 = .ok (.aaload, 1) := by decide +kernel
theorem dX6_undo_40 : decode cX6_undo 40 = .ok (.invokevirtual 213, 3) := by decide +kernel
theorem dX6_undo_43 : decode cX6_undo 43 = .ok (.aload_n 0, 1) := by decide +kernel
theorem dX6_undo_44 : decode cX6_undo 44 = .ok (.getfield 208, 3) := by decide +kernel
theorem dX6_undo_47 : decode cX6_undo 47 = .ok (.ireturn, 1) := by decide +kernel
theorem dX6_town_0 : decode cX6_town 0 = .ok (.aload_n 0, 1) := by decide +kernel
theorem dX6_town_1 : decode cX6_town 1 = .ok (.iload_n 1, 1) := by decide +kernel
theorem dX6_town_2 : decode cX6_town 2 = .ok (.invokevirtual 120, 3) := by decide +kernel
theorem dX6_town_5 : decode cX6_town 5 = .ok (.aload_n 0, 1) := by decide +kernel
theorem dX6_town_6 : decode cX6_town 6 = .ok (.getfield 10, 3) := by decide +kernel
theorem dX6_town_9 : decode cX6_town 9 = .ok (.getfield 76, 3) := by decide +kernel
theorem dX6_town_12 : decode cX6_town 12 = .ok (.iload_n 1, 1) := by decide +kernel
theorem dX6_town_13 : decode cX6_town 13 = .ok (.aaload, 1) := by decide +kernel
theorem dX6_town_14 : decode cX6_town 14 = .ok (.astore_n 3, 1) := by decide +kernel
theorem dX6_town_15 : decode cX6_town 15 = .ok (.iload_n 2, 1) := by decide +kernel
theorem dX6_town_16 : decode cX6_town 16 = .ok (.tableswitch 166 0 11 #[64, 69, 77, 85, 90, 103, 116, 125, 134, 139, 144, 149], 64) := by decide +kernel
theorem dX6_town_80 : decode cX6_town 80 = .ok (.aload_n 3, 1) := by decide +kernel
theorem dX6_town_81 : decode cX6_town 81 = .ok (.getfield 80, 3) := by decide +kernel
theorem dX6_town_84 : decode cX6_town 84 = .ok (.ireturn, 1) := by decide +kernel
theorem dX6_town_85 : decode cX6_town 85 = .ok (.aload_n 3, 1) := by decide +kernel
theorem dX6_town_86 : decode cX6_town 86 = .ok (.getfield 109, 3) := by decide +kernel
theorem dX6_town_89 : decode cX6_town 89 = .ok (.invokestatic 112, 3) := by decide +kernel
theorem dX6_town_92 : decode cX6_town 92 = .ok (.ireturn, 1) := by decide +kernel
theorem dX6_town_93 : decode cX6_town 93 = .ok (.aload_n 3, 1) := by decide +kernel
theorem dX6_town_94 : decode cX6_town 94 = .ok (.getfield 207, 3) := by decide +kernel
theorem dX6_town_97 : decode cX6_town 97 = .ok (.invokestatic 112, 3) := by decide +kernel
theorem dX6_town_100 : decode cX6_town 100 = .ok (.ireturn, 1) := by decide +kernel
theorem dX6_town_101 : decode cX6_town 101 = .ok (.aload_n 3, 1) := by decide +kernel
theorem dX6_town_102 : decode cX6_town 102 = .ok (.invokevirtual 129, 3) := by decide +kernel
theorem dX6_town_105 : decode cX6_town 105 = .ok (.ireturn, 1) := by decide +kernel
theorem dX6_town_106 : decode cX6_town 106 = .ok (.aload_n 3, 1) := by decide +kernel
theorem dX6_town_107 : decode cX6_town 107 = .ok (.getfield 109, 3) := by decide +kernel
theorem dX6_town_110 : decode cX6_town 110 = .ok (.invokestatic 112, 3) := by decide +kernel
theorem dX6_town_113 : decode cX6_town 113 = .ok (.aload_n 3, 1) := by decide +kernel
theorem dX6_town_114 : decode cX6_town 114 = .ok (.invokevirtual 129, 3) := by decide +kernel
theorem dX6_town_117 : decode cX6_town 117 = .ok (.isub, 1) := by decide +kernel
theorem dX6_town_118 : decode cX6_town 118 = .ok (.ireturn, 1) := by decide +kernel
theorem dX6_town_119 : decode cX6_town 119 = .ok (.aload_n 3, 1) := by decide +kernel
theorem dX6_town_120 : decode cX6_town 120 = .ok (.getfield 207, 3) := by decide +kernel
theorem dX6_town_123 : decode cX6_town 123 = .ok (.invokestatic 112, 3) := by decide +kernel
theorem dX6_town_126 : decode cX6_town 126 = .ok (.aload_n 3, 1) := by decide +kernel
theorem dX6_town_127 : decode cX6_town 127 = .ok (.invokevirtual 129, 3) := by decide +kernel
theorem dX6_town_130 : decode cX6_town 130 = .ok (.isub, 1) := by decide +kernel
theorem dX6_town_131 : decode cX6_town 131 = .ok (.ireturn, 1) := by decide +kernel
theorem dX6_town_132 : decode cX6_town 132 = .ok (.aload_n 0, 1) := by decide +kernel
theorem dX6_town_133 : decode cX6_town 133 = .ok (.getfield 10, 3) := by decide +kernel
theorem dX6_town_136 : decode cX6_town 136 = .ok (.iload_n 1, 1) := by decide +kernel
theorem dX6_town_137 : decode cX6_town 137 = .ok (.invokevirtual 216, 3) := by decide +kernel
theorem dX6_town_140 : decode cX6_town 140 = .ok (.ireturn, 1) := by decide +kernel
theorem dX6_town_141 : decode cX6_town 141 = .ok (.aload_n 0, 1) := by decide +kernel
theorem dX6_town_142 : decode cX6_town 142 = .ok (.getfield 10, 3) := by decide +kernel
theorem dX6_town_145 : decode cX6_town 145 = .ok (.iload_n 1, 1) := by decide +kernel
theorem dX6_town_146 : decode cX6_town 146 = .ok (.invokevirtual 220, 3) := by decide +kernel
theorem dX6_town_149 : decode cX6_town 149 = .ok (.ireturn, 1) := by decide +kernel
theorem dX6_town_150 : decode cX6_town 150 = .ok (.aload_n 3, 1) := by decide +kernel
theorem dX6_town_151 : decode cX6_town 151 = .ok (.getfield 223, 3) := by decide +kernel
theorem dX6_town_154 : decode cX6_town 154 = .ok (.ireturn, 1) := by decide +kernel
theorem dX6_town_155 : decode cX6_town 155 = .ok (.aload_n 3, 1) := by decide +kernel
theorem dX6_town_156 : decode cX6_town 156 = .ok (.getfield 226, 3) := by decide +kernel
theorem dX6_town_159 : decode cX6_town 159 = .ok (.ireturn, 1) := by decide +kernel
theorem dX6_town_160 : decode cX6_town 160 = .ok (.aload_n 3, 1) := by decide +kernel
theorem dX6_town_161 : decode cX6_town 161 = .ok (.getfield 227, 3) := by decide +kernel
theorem dX6_town_164 : decode cX6_town 164 = .ok (.ireturn, 1) := by decide +kernel
theorem dX6_town_165 : decode cX6_town 165 = .ok (.aload_n 3, 1) := by decide +kernel
theorem dX6_town_166 : decode cX6_town 166 = .ok (.getfield 142, 3) := by decide +kernel
theorem dX6_town_169 : decode cX6_town 169 = .ok (.aload_n 0, 1) := by decide +kernel
theorem dX6_town_170 : decode cX6_town 170 = .ok (.getfield 10, 3) := by decide +kernel
theorem dX6_town_173 : decode cX6_town 173 = .ok (.getfield 68, 3) := by decide +kernel
theorem dX6_town_176 : decode cX6_town 176 = .ok (.iconst 1, 1) := by decide +kernel
theorem dX6_town_177 : decode cX6_town 177 = .ok (.iaload, 1) := by decide +kernel
theorem dX6_town_178 : decode cX6_town 178 = .ok (.invokestatic 230, 3) := by decide +kernel
theorem dX6_town_181 : decode cX6_town 181 = .ok (.ireturn, 1) := by decide +kernel
theorem dX6_town_182 : decode cX6_town 182 = .ok (.new 52, 3) := by decide +kernel
theorem dX6_town_185 : decode cX6_town 185 = .ok (.dup, 1) := by decide +kernel
theorem dX6_town_186 : decode cX6_town 186 = .ok (.ldc 234, 2) := by decide +kernel
theorem dX6_town_188 : decode cX6_town 188 = .ok (.invokespecial 56, 3) := by decide +kernel
theorem dX6_town_191 : decode cX6_town 191 = .ok (.athrow, 1) := by decide +kernel
theorem dX6_step_0 : decode cX6_step 0 = .ok (.aload_n 0, 1) := by decide +kernel
theorem dX6_step_1 : decode cX6_step 1 = .ok (.iload_n 1, 1) := by decide +kernel
theorem dX6_step_2 : decode cX6_step 2 = .ok (.invokevirtual 120, 3) := by decide +kernel
theorem dX6_step_5 : decode cX6_step 5 = .ok (.iload_n 2, 1) := by decide +kernel
theorem dX6_step_6 : decode cX6_step 6 = .ok (.invokestatic 236, 3) := by decide +kernel
theorem dX6_step_9 : decode cX6_step 9 = .ok (.iload_n 3, 1) := by decide +kernel
theorem dX6_step_10 : decode cX6_step 10 = .ok (.tableswitch 71 0 2 #[26, 41, 56], 26) := by decide +kernel
theorem dX6_step_36 : decode cX6_step 36 = .ok (.aload_n 0, 1) := by decide +kernel
theorem dX6_step_37 : decode cX6_step 37 = .ok (.getfield 10, 3) := by decide +kernel
theorem dX6_step_40 : decode cX6_step 40 = .ok (.getfield 76, 3) := by decide +kernel
theorem dX6_step_43 : decode cX6_step 43 = .ok (.iload_n 1, 1) := by decide +kernel
theorem dX6_step_44 : decode cX6_step 44 = .ok (.aaload, 1) := by decide +kernel
theorem dX6_step_45 : decode cX6_step 45 = .ok (.getfield 109, 3) := by decide +kernel
theorem dX6_step_48 : decode cX6_step 48 = .ok (.iload_n 2, 1) := by decide +kernel
theorem dX6_step_49 : decode cX6_step 49 = .ok (.iaload, 1) := by decide +kernel
theorem dX6_step_50 : decode cX6_step 50 = .ok (.ireturn, 1) := by decide +kernel
theorem dX6_step_51 : decode cX6_step 51 = .ok (.aload_n 0, 1) := by decide +kernel
theorem dX6_step_52 : decode cX6_step 52 = .ok (.getfield 10, 3) := by decide +kernel
theorem dX6_step_55 : decode cX6_step 55 = .ok (.getfield 76, 3) := by decide +kernel
theorem dX6_step_58 : decode cX6_step 58 = .ok (.iload_n 1, 1) := by decide +kernel
theorem dX6_step_59 : decode cX6_step 59 = .ok (.aaload, 1) := by decide +kernel
theorem dX6_step_60 : decode cX6_step 60 = .ok (.getfield 207, 3) := by decide +kernel
theorem dX6_step_63 : decode cX6_step 63 = .ok (.iload_n 2, 1) := by decide +kernel
theorem dX6_step_64 : decode cX6_step 64 = .ok (.iaload, 1) := by decide +kernel
theorem dX6_step_65 : decode cX6_step 65 = .ok (.ireturn, 1) := by decide +kernel
theorem dX6_step_66 : decode cX6_step 66 = .ok (.aload_n 0, 1) := by decide +kernel
theorem dX6_step_67 : decode cX6_step 67 = .ok (.iload_n 1, 1) := by decide +kernel
theorem dX6_step_68 : decode cX6_step 68 = .ok (.invokevirtual 145, 3) := by decide +kernel
theorem dX6_step_71 : decode cX6_step 71 = .ok (.aload_n 0, 1) := by decide +kernel
theorem dX6_step_72 : decode cX6_step 72 = .ok (.getfield 30, 3) := by decide +kernel
theorem dX6_step_75 : decode cX6_step 75 = .ok (.getfield 239, 3) := by decide +kernel
theorem dX6_step_78 : decode cX6_step 78 = .ok (.iload_n 2, 1) := by decide +kernel
theorem dX6_step_79 : decode cX6_step 79 = .ok (.iaload, 1) := by decide +kernel
theorem dX6_step_80 : decode cX6_step 80 = .ok (.ireturn, 1) := by decide +kernel
theorem dX6_step_81 : decode cX6_step 81 = .ok (.new 52, 3) := by decide +kernel
theorem dX6_step_84 : decode cX6_step 84 = .ok (.dup, 1) := by decide +kernel
theorem dX6_step_85 : decode cX6_step 85 = .ok (.ldc 242, 2) := by decide +kernel
theorem dX6_step_87 : decode cX6_step 87 = .ok (.invokespecial 56, 3) := by decide +kernel
theorem dX6_step_90 : decode cX6_step 90 = .ok (.athrow, 1) := by decide +kernel
theorem dX6_wear_0 : decode cX6_wear 0 = .ok (.aload_n 0, 1) := by decide +kernel
theorem dX6_wear_1 : decode cX6_wear 1 = .ok (.iload_n 1, 1) := by decide +kernel
theorem dX6_wear_2 : decode cX6_wear 2 = .ok (.invokevirtual 120, 3) := by decide +kernel
theorem dX6_wear_5 : decode cX6_wear 5 = .ok (.iload_n 2, 1) := by decide +kernel
theorem dX6_wear_6 : decode cX6_wear 6 = .ok (.invokestatic 139, 3) := by decide +kernel
theorem dX6_wear_9 : decode cX6_wear 9 = .ok (.aload_n 0, 1) := by decide +kernel
theorem dX6_wear_10 : decode cX6_wear 10 = .ok (.getfield 10, 3) := by decide +kernel
theorem dX6_wear_13 : decode cX6_wear 13 = .ok (.getfield 76, 3) := by decide +kernel
theorem dX6_wear_16 : decode cX6_wear 16 = .ok (.iload_n 1, 1) := by decide +kernel
theorem dX6_wear_17 : decode cX6_wear 17 = .ok (.aaload, 1) := by decide +kernel
theorem dX6_wear_18 : decode cX6_wear 18 = .ok (.getfield 142, 3) := by decide +kernel
theorem dX6_wear_21 : decode cX6_wear 21 = .ok (.iload_n 2, 1) := by decide +kernel
theorem dX6_wear_22 : decode cX6_wear 22 = .ok (.iaload, 1) := by decide +kernel
theorem dX6_wear_23 : decode cX6_wear 23 = .ok (.ireturn, 1) := by decide +kernel
theorem dX6_debt_0 : decode cX6_debt 0 = .ok (.aload_n 0, 1) := by decide +kernel
theorem dX6_debt_1 : decode cX6_debt 1 = .ok (.iload_n 1, 1) := by decide +kernel
theorem dX6_debt_2 : decode cX6_debt 2 = .ok (.invokevirtual 120, 3) := by decide +kernel
theorem dX6_debt_5 : decode cX6_debt 5 = .ok (.aload_n 0, 1) := by decide +kernel
theorem dX6_debt_6 : decode cX6_debt 6 = .ok (.iload_n 2, 1) := by decide +kernel
theorem dX6_debt_7 : decode cX6_debt 7 = .ok (.invokevirtual 120, 3) := by decide +kernel
theorem dX6_debt_10 : decode cX6_debt 10 = .ok (.aload_n 0, 1) := by decide +kernel
theorem dX6_debt_11 : decode cX6_debt 11 = .ok (.getfield 10, 3) := by decide +kernel
theorem dX6_debt_14 : decode cX6_debt 14 = .ok (.getfield 164, 3) := by decide +kernel
theorem dX6_debt_17 : decode cX6_debt 17 = .ok (.iload_n 1, 1) := by decide +kernel
theorem dX6_debt_18 : decode cX6_debt 18 = .ok (.aaload, 1) := by decide +kernel
theorem dX6_debt_19 : decode cX6_debt 19 = .ok (.iload_n 2, 1) := by decide +kernel
theorem dX6_debt_20 : decode cX6_debt 20 = .ok (.iaload, 1) := by decide +kernel
theorem dX6_debt_21 : decode cX6_debt 21 = .ok (.ireturn, 1) := by decide +kernel
theorem dX6_count_0 : decode cX6_count 0 = .ok (.iload_n 1, 1) := by decide +kernel
theorem dX6_count_1 : decode cX6_count 1 = .ok (.tableswitch 152 0 10 #[59, 67, 83, 91, 99, 107, 115, 123, 131, 139, 147], 59) := by decide +kernel
theorem dX6_count_60 : decode cX6_count 60 = .ok (.aload_n 0, 1) := by decide +kernel
theorem dX6_count_61 : decode cX6_count 61 = .ok (.getfield 10, 3) := by decide +kernel
theorem dX6_count_64 : decode cX6_count 64 = .ok (.getfield 59, 3) := by decide +kernel
theorem dX6_count_67 : decode cX6_count 67 = .ok (.ireturn, 1) := by decide +kernel
theorem dX6_count_68 : decode cX6_count 68 = .ok (.aload_n 0, 1) := by decide +kernel
theorem dX6_count_69 : decode cX6_count 69 = .ok (.getfield 10, 3) := by decide +kernel
theorem dX6_count_72 : decode cX6_count 72 = .ok (.invokevirtual 244, 3) := by decide +kernel
theorem dX6_count_75 : decode cX6_count 75 = .ok (.aload_n 0, 1) := by decide +kernel
theorem dX6_count_76 : decode cX6_count 76 = .ok (.getfield 10, 3) := by decide +kernel
theorem dX6_count_79 : decode cX6_count 79 = .ok (.invokevirtual 247, 3) := by decide +kernel
theorem dX6_count_82 : decode cX6_count 82 = .ok (.iadd, 1) := by decide +kernel
theorem dX6_count_83 : decode cX6_count 83 = .ok (.ireturn, 1) := by decide +kernel
theorem dX6_count_84 : decode cX6_count 84 = .ok (.aload_n 0, 1) := by decide +kernel
theorem dX6_count_85 : decode cX6_count 85 = .ok (.getfield 10, 3) := by decide +kernel
theorem dX6_count_88 : decode cX6_count 88 = .ok (.invokevirtual 244, 3) := by decide +kernel
theorem dX6_count_91 : decode cX6_count 91 = .ok (.ireturn, 1) := by decide +kernel
theorem dX6_count_92 : decode cX6_count 92 = .ok (.aload_n 0, 1) := by decide +kernel
theorem dX6_count_93 : decode cX6_count 93 = .ok (.getfield 10, 3) := by decide +kernel
theorem dX6_count_96 : decode cX6_count 96 = .ok (.invokevirtual 250, 3) := by decide +kernel
theorem dX6_count_99 : decode cX6_count 99 = .ok (.ireturn, 1) := by decide +kernel
theorem dX6_count_100 : decode cX6_count 100 = .ok (.aload_n 0, 1) := by decide +kernel
theorem dX6_count_101 : decode cX6_count 101 = .ok (.getfield 10, 3) := by decide +kernel
theorem dX6_count_104 : decode cX6_count 104 = .ok (.invokevirtual 253, 3) := by decide +kernel
theorem dX6_count_107 : decode cX6_count 107 = .ok (.ireturn, 1) := by decide +kernel
theorem dX6_count_108 : decode cX6_count 108 = .ok (.aload_n 0, 1) := by decide +kernel
theorem dX6_count_109 : decode cX6_count 109 = .ok (.getfield 10, 3) := by decide +kernel
theorem dX6_count_112 : decode cX6_count 112 = .ok (.getfield 168, 3) := by decide +kernel
theorem dX6_count_115 : decode cX6_count 115 = .ok (.ireturn, 1) := by decide +kernel
theorem dX6_count_116 : decode cX6_count 116 = .ok (.aload_n 0, 1) := by decide +kernel
theorem dX6_count_117 : decode cX6_count 117 = .ok (.getfield 10, 3) := by decide +kernel
theorem dX6_count_120 : decode cX6_count 120 = .ok (.getfield 173, 3) := by decide +kernel
theorem dX6_count_123 : decode cX6_count 123 = .ok (.ireturn, 1) := by decide +kernel
theorem dX6_count_124 : decode cX6_count 124 = .ok (.aload_n 0, 1) := by decide +kernel
theorem dX6_count_125 : decode cX6_count 125 = .ok (.getfield 10, 3) := by decide +kernel
theorem dX6_count_128 : decode cX6_count 128 = .ok (.getfield 256, 3) := by decide +kernel
theorem dX6_count_131 : decode cX6_count 131 = .ok (.ireturn, 1) := by decide +kernel
theorem dX6_count_132 : decode cX6_count 132 = .ok (.aload_n 0, 1) := by decide +kernel
theorem dX6_count_133 : decode cX6_count 133 = .ok (.getfield 10, 3) := by decide +kernel
theorem dX6_count_136 : decode cX6_count 136 = .ok (.getfield 259, 3) := by decide +kernel
theorem dX6_count_139 : decode cX6_count 139 = .ok (.ireturn, 1) := by decide +kernel
theorem dX6_count_140 : decode cX6_count 140 = .ok (.aload_n 0, 1) := by decide +kernel
theorem dX6_count_141 : decode cX6_count 141 = .ok (.getfield 10, 3) := by decide +kernel
theorem dX6_count_144 : decode cX6_count 144 = .ok (.invokevirtual 262, 3) := by decide +kernel
theorem dX6_count_147 : decode cX6_count 147 = .ok (.ireturn, 1) := by decide +kernel
theorem dX6_count_148 : decode cX6_count 148 = .ok (.aload_n 0, 1) := by decide +kernel
theorem dX6_count_149 : decode cX6_count 149 = .ok (.getfield 208, 3) := by decide +kernel
theorem dX6_count_152 : decode cX6_count 152 = .ok (.ireturn, 1) := by decide +kernel
theorem dX6_count_153 : decode cX6_count 153 = .ok (.new 52, 3) := by decide +kernel
theorem dX6_count_156 : decode cX6_count 156 = .ok (.dup, 1) := by decide +kernel
theorem dX6_count_157 : decode cX6_count 157 = .ok (.ldc_w 265, 3) := by decide +kernel
theorem dX6_count_160 : decode cX6_count 160 = .ok (.invokespecial 56, 3) := by decide +kernel
theorem dX6_count_163 : decode cX6_count 163 = .ok (.athrow, 1) := by decide +kernel
theorem dX6_setting_0 : decode cX6_setting 0 = .ok (.iload_n 1, 1) := by decide +kernel
theorem dX6_setting_1 : decode cX6_setting 1 = .ok (.invokestatic 85, 3) := by decide +kernel
theorem dX6_setting_4 : decode cX6_setting 4 = .ok (.aload_n 0, 1) := by decide +kernel
theorem dX6_setting_5 : decode cX6_setting 5 = .ok (.getfield 10, 3) := by decide +kernel
theorem dX6_setting_8 : decode cX6_setting 8 = .ok (.getfield 68, 3) := by decide +kernel
theorem dX6_setting_11 : decode cX6_setting 11 = .ok (.iload_n 1, 1) := by decide +kernel
theorem dX6_setting_12 : decode cX6_setting 12 = .ok (.iaload, 1) := by decide +kernel
theorem dX6_setting_13 : decode cX6_setting 13 = .ok (.ireturn, 1) := by decide +kernel
theorem dX6_ifPlayed_0 : decode cX6_ifPlayed 0 = .ok (.aload_n 0, 1) := by decide +kernel
theorem dX6_ifPlayed_1 : decode cX6_ifPlayed 1 = .ok (.iload_n 1, 1) := by decide +kernel
theorem dX6_ifPlayed_2 : decode cX6_ifPlayed 2 = .ok (.invokevirtual 120, 3) := by decide +kernel
theorem dX6_ifPlayed_5 : decode cX6_ifPlayed 5 = .ok (.iload_n 2, 1) := by decide +kernel
theorem dX6_ifPlayed_6 : decode cX6_ifPlayed 6 = .ok (.ifCond .lt 8, 3) := by decide +kernel
theorem dX6_ifPlayed_9 : decode cX6_ifPlayed 9 = .ok (.iload_n 2, 1) := by decide +kernel
theorem dX6_ifPlayed_10 : decode cX6_ifPlayed 10 = .ok (.iconst 5, 1) := by decide +kernel
theorem dX6_ifPlayed_11 : decode cX6_ifPlayed 11 = .ok (.if_icmp .lt 14, 3) := by decide +kernel
theorem dX6_ifPlayed_14 : decode cX6_ifPlayed 14 = .ok (.new 52, 3) := by decide +kernel
theorem dX6_ifPlayed_17 : decode cX6_ifPlayed 17 = .ok (.dup, 1) := by decide +kernel
theorem dX6_ifPlayed_18 : decode cX6_ifPlayed 18 = .ok (.ldc_w 267, 3) := by decide +kernel
theorem dX6_ifPlayed_21 : decode cX6_ifPlayed 21 = .ok (.invokespecial 56, 3) := by decide +kernel
theorem dX6_ifPlayed_24 : decode cX6_ifPlayed 24 = .ok (.athrow, 1) := by decide +kernel
theorem dX6_ifPlayed_25 : decode cX6_ifPlayed 25 = .ok (.aload_n 0, 1) := by decide +kernel
theorem dX6_ifPlayed_26 : decode cX6_ifPlayed 26 = .ok (.iload_n 1, 1) := by decide +kernel
theorem dX6_ifPlayed_27 : decode cX6_ifPlayed 27 = .ok (.invokevirtual 145, 3) := by decide +kernel
theorem dX6_ifPlayed_30 : decode cX6_ifPlayed 30 = .ok (.aload_n 0, 1) := by decide +kernel
theorem dX6_ifPlayed_31 : decode cX6_ifPlayed 31 = .ok (.getfield 30, 3) := by decide +kernel
theorem dX6_ifPlayed_34 : decode cX6_ifPlayed 34 = .ok (.iload_n 2, 1) := by decide +kernel
theorem dX6_ifPlayed_35 : decode cX6_ifPlayed 35 = .ok (.invokevirtual 269, 3) := by decide +kernel
theorem dX6_ifPlayed_38 : decode cX6_ifPlayed 38 = .ok (.ireturn, 1) := by decide +kernel
theorem dX6_lastsFor_0 : decode cX6_lastsFor 0 = .ok (.aload_n 0, 1) := by decide +kernel
theorem dX6_lastsFor_1 : decode cX6_lastsFor 1 = .ok (.iload_n 1, 1) := by decide +kernel
theorem dX6_lastsFor_2 : decode cX6_lastsFor 2 = .ok (.invokevirtual 120, 3) := by decide +kernel
theorem dX6_lastsFor_5 : decode cX6_lastsFor 5 = .ok (.aload_n 0, 1) := by decide +kernel
theorem dX6_lastsFor_6 : decode cX6_lastsFor 6 = .ok (.getfield 10, 3) := by decide +kernel
theorem dX6_lastsFor_9 : decode cX6_lastsFor 9 = .ok (.getfield 76, 3) := by decide +kernel
theorem dX6_lastsFor_12 : decode cX6_lastsFor 12 = .ok (.iload_n 1, 1) := by decide +kernel
theorem dX6_lastsFor_13 : decode cX6_lastsFor 13 = .ok (.aaload, 1) := by decide +kernel
theorem dX6_lastsFor_14 : decode cX6_lastsFor 14 = .ok (.astore_n 2, 1) := by decide +kernel
theorem dX6_lastsFor_15 : decode cX6_lastsFor 15 = .ok (.aload_n 0, 1) := by decide +kernel
theorem dX6_lastsFor_16 : decode cX6_lastsFor 16 = .ok (.getfield 30, 3) := by decide +kernel
theorem dX6_lastsFor_19 : decode cX6_lastsFor 19 = .ok (.aload_n 2, 1) := by decide +kernel
theorem dX6_lastsFor_20 : decode cX6_lastsFor 20 = .ok (.aload_n 0, 1) := by decide +kernel
theorem dX6_lastsFor_21 : decode cX6_lastsFor 21 = .ok (.getfield 10, 3) := by decide +kernel
theorem dX6_lastsFor_24 : decode cX6_lastsFor 24 = .ok (.getfield 68, 3) := by decide +kernel
theorem dX6_lastsFor_27 : decode cX6_lastsFor 27 = .ok (.invokevirtual 272, 3) := by decide +kernel
theorem dX6_lastsFor_30 : decode cX6_lastsFor 30 = .ok (.iconst 1, 1) := by decide +kernel
theorem dX6_lastsFor_31 : decode cX6_lastsFor 31 = .ok (.istore_n 3, 1) := by decide +kernel
theorem dX6_lastsFor_32 : decode cX6_lastsFor 32 = .ok (.iload_n 3, 1) := by decide +kernel
theorem dX6_lastsFor_33 : decode cX6_lastsFor 33 = .ok (.sipush 200, 3) := by decide +kernel
theorem dX6_lastsFor_36 : decode cX6_lastsFor 36 = .ok (.if_icmp .gt 44, 3) := by decide +kernel
theorem dX6_lastsFor_39 : decode cX6_lastsFor 39 = .ok (.aload_n 0, 1) := by decide +kernel
theorem dX6_lastsFor_40 : decode cX6_lastsFor 40 = .ok (.getfield 30, 3) := by decide +kernel
theorem dX6_lastsFor_43 : decode cX6_lastsFor 43 = .ok (.aload_n 2, 1) := by decide +kernel
theorem dX6_lastsFor_44 : decode cX6_lastsFor 44 = .ok (.getfield 207, 3) := by decide +kernel
theorem dX6_lastsFor_47 : decode cX6_lastsFor 47 = .ok (.invokevirtual 276, 3) := by decide +kernel
theorem dX6_lastsFor_50 : decode cX6_lastsFor 50 = .ok (.aload_n 0, 1) := by decide +kernel
theorem dX6_lastsFor_51 : decode cX6_lastsFor 51 = .ok (.getfield 30, 3) := by decide +kernel
theorem dX6_lastsFor_54 : decode cX6_lastsFor 54 = .ok (.getfield 280, 3) := by decide +kernel
theorem dX6_lastsFor_57 : decode cX6_lastsFor 57 = .ok (.ifCond .le 5, 3) := by decide +kernel
theorem dX6_lastsFor_60 : decode cX6_lastsFor 60 = .ok (.iload_n 3, 1) := by decide +kernel
theorem dX6_lastsFor_61 : decode cX6_lastsFor 61 = .ok (.ireturn, 1) := by decide +kernel
theorem dX6_lastsFor_62 : decode cX6_lastsFor 62 = .ok (.aload_n 0, 1) := by decide +kernel
theorem dX6_lastsFor_63 : decode cX6_lastsFor 63 = .ok (.getfield 30, 3) := by decide +kernel
theorem dX6_lastsFor_66 : decode cX6_lastsFor 66 = .ok (.getfield 152, 3) := by decide +kernel
theorem dX6_lastsFor_69 : decode cX6_lastsFor 69 = .ok (.ifCond .ne 5, 3) := by decide +kernel
theorem dX6_lastsFor_72 : decode cX6_lastsFor 72 = .ok (.iconst (-1), 1) := by decide +kernel
theorem dX6_lastsFor_73 : decode cX6_lastsFor 73 = .ok (.ireturn, 1) := by decide +kernel
theorem dX6_lastsFor_74 : decode cX6_lastsFor 74 = .ok (.iinc 3 1, 3) := by decide +kernel
theorem dX6_lastsFor_77 : decode cX6_lastsFor 77 = .ok (.goto (-45), 3) := by decide +kernel
theorem dX6_lastsFor_80 : decode cX6_lastsFor 80 = .ok (.iconst (-1), 1) := by decide +kernel
theorem dX6_lastsFor_81 : decode cX6_lastsFor 81 = .ok (.ireturn, 1) := by decide +kernel
theorem dX6_bestTurn_0 : decode cX6_bestTurn 0 = .ok (.aload_n 0, 1) := by decide +kernel
theorem dX6_bestTurn_1 : decode cX6_bestTurn 1 = .ok (.iload_n 1, 1) := by decide +kernel
theorem dX6_bestTurn_2 : decode cX6_bestTurn 2 = .ok (.invokevirtual 120, 3) := by decide +kernel
theorem dX6_bestTurn_5 : decode cX6_bestTurn 5 = .ok (.iload_n 2, 1) := by decide +kernel
theorem dX6_bestTurn_6 : decode cX6_bestTurn 6 = .ok (.ifCond .eq 19, 3) := by decide +kernel
theorem dX6_bestTurn_9 : decode cX6_bestTurn 9 = .ok (.iload_n 2, 1) := by decide +kernel
theorem dX6_bestTurn_10 : decode cX6_bestTurn 10 = .ok (.iconst 1, 1) := by decide +kernel
theorem dX6_bestTurn_11 : decode cX6_bestTurn 11 = .ok (.if_icmp .eq 14, 3) := by decide +kernel
theorem dX6_bestTurn_14 : decode cX6_bestTurn 14 = .ok (.new 52, 3) := by decide +kernel
theorem dX6_bestTurn_17 : decode cX6_bestTurn 17 = .ok (.dup, 1) := by decide +kernel
theorem dX6_bestTurn_18 : decode cX6_bestTurn 18 = .ok (.ldc_w 283, 3) := by decide +kernel
theorem dX6_bestTurn_21 : decode cX6_bestTurn 21 = .ok (.invokespecial 56, 3) := by decide +kernel
theorem dX6_bestTurn_24 : decode cX6_bestTurn 24 = .ok (.athrow, 1) := by decide +kernel
theorem dX6_bestTurn_25 : decode cX6_bestTurn 25 = .ok (.iconst 0, 1) := by decide +kernel
theorem dX6_bestTurn_26 : decode cX6_bestTurn 26 = .ok (.istore_n 3, 1) := by decide +kernel
theorem dX6_bestTurn_27 : decode cX6_bestTurn 27 = .ok (.aload_n 0, 1) := by decide +kernel
theorem dX6_bestTurn_28 : decode cX6_bestTurn 28 = .ok (.getfield 10, 3) := by decide +kernel
theorem dX6_bestTurn_31 : decode cX6_bestTurn 31 = .ok (.getfield 76, 3) := by decide +kernel
theorem dX6_bestTurn_34 : decode cX6_bestTurn 34 = .ok (.iload_n 1, 1) := by decide +kernel
theorem dX6_bestTurn_35 : decode cX6_bestTurn 35 = .ok (.aaload, 1) := by decide +kernel
theorem dX6_bestTurn_36 : decode cX6_bestTurn 36 = .ok (.invokevirtual 129, 3) := by decide +kernel
theorem dX6_bestTurn_39 : decode cX6_bestTurn 39 = .ok (.istore 4, 2) := by decide +kernel
theorem dX6_bestTurn_41 : decode cX6_bestTurn 41 = .ok (.iconst 1, 1) := by decide +kernel
theorem dX6_bestTurn_42 : decode cX6_bestTurn 42 = .ok (.istore 5, 2) := by decide +kernel
theorem dX6_bestTurn_44 : decode cX6_bestTurn 44 = .ok (.iload 5, 2) := by decide +kernel
theorem dX6_bestTurn_46 : decode cX6_bestTurn 46 = .ok (.bipush 24, 2) := by decide +kernel
theorem dX6_bestTurn_48 : decode cX6_bestTurn 48 = .ok (.if_icmp .ge 39, 3) := by decide +kernel
theorem dX6_bestTurn_51 : decode cX6_bestTurn 51 = .ok (.aload_n 0, 1) := by decide +kernel
theorem dX6_bestTurn_52 : decode cX6_bestTurn 52 = .ok (.getfield 10, 3) := by decide +kernel
theorem dX6_bestTurn_55 : decode cX6_bestTurn 55 = .ok (.getfield 76, 3) := by decide +kernel
theorem dX6_bestTurn_58 : decode cX6_bestTurn 58 = .ok (.iload_n 1, 1) := by decide +kernel
theorem dX6_bestTurn_59 : decode cX6_bestTurn 59 = .ok (.aaload, 1) := by decide +kernel
theorem dX6_bestTurn_60 : decode cX6_bestTurn 60 = .ok (.iload 5, 2) := by decide +kernel
theorem dX6_bestTurn_62 : decode cX6_bestTurn 62 = .ok (.invokevirtual 285, 3) := by decide +kernel
theorem dX6_bestTurn_65 : decode cX6_bestTurn 65 = .ok (.istore 6, 2) := by decide +kernel
theorem dX6_bestTurn_67 : decode cX6_bestTurn 67 = .ok (.iload 6, 2) := by decide +kernel
theorem dX6_bestTurn_69 : decode cX6_bestTurn 69 = .ok (.iload 4, 2) := by decide +kernel
theorem dX6_bestTurn_71 : decode cX6_bestTurn 71 = .ok (.if_icmp .le 10, 3) := by decide +kernel
theorem dX6_bestTurn_74 : decode cX6_bestTurn 74 = .ok (.iload 5, 2) := by decide +kernel
theorem dX6_bestTurn_76 : decode cX6_bestTurn 76 = .ok (.istore_n 3, 1) := by decide +kernel
theorem dX6_bestTurn_77 : decode cX6_bestTurn 77 = .ok (.iload 6, 2) := by decide +kernel
theorem dX6_bestTurn_79 : decode cX6_bestTurn 79 = .ok (.istore 4, 2) := by decide +kernel
theorem dX6_bestTurn_81 : decode cX6_bestTurn 81 = .ok (.iinc 5 1, 3) := by decide +kernel
theorem dX6_bestTurn_84 : decode cX6_bestTurn 84 = .ok (.goto (-40), 3) := by decide +kernel
theorem dX6_bestTurn_87 : decode cX6_bestTurn 87 = .ok (.iload_n 2, 1) := by decide +kernel
theorem dX6_bestTurn_88 : decode cX6_bestTurn 88 = .ok (.ifCond .ne 7, 3) := by decide +kernel
theorem dX6_bestTurn_91 : decode cX6_bestTurn 91 = .ok (.iload_n 3, 1) := by decide +kernel
theorem dX6_bestTurn_92 : decode cX6_bestTurn 92 = .ok (.goto 5, 3) := by decide +kernel
theorem dX6_bestTurn_95 : decode cX6_bestTurn 95 = .ok (.iload 4, 2) := by decide +kernel
theorem dX6_bestTurn_97 : decode cX6_bestTurn 97 = .ok (.ireturn, 1) := by decide +kernel
theorem dX6_bestDrum_0 : decode cX6_bestDrum 0 = .ok (.aload_n 0, 1) := by decide +kernel
theorem dX6_bestDrum_1 : decode cX6_bestDrum 1 = .ok (.iload_n 1, 1) := by decide +kernel
theorem dX6_bestDrum_2 : decode cX6_bestDrum 2 = .ok (.invokevirtual 120, 3) := by decide +kernel
theorem dX6_bestDrum_5 : decode cX6_bestDrum 5 = .ok (.iconst (-1), 1) := by decide +kernel
theorem dX6_bestDrum_6 : decode cX6_bestDrum 6 = .ok (.istore_n 2, 1) := by decide +kernel
theorem dX6_bestDrum_7 : decode cX6_bestDrum 7 = .ok (.iconst (-1), 1) := by decide +kernel
theorem dX6_bestDrum_8 : decode cX6_bestDrum 8 = .ok (.istore_n 3, 1) := by decide +kernel
theorem dX6_bestDrum_9 : decode cX6_bestDrum 9 = .ok (.iconst 0, 1) := by decide +kernel
theorem dX6_bestDrum_10 : decode cX6_bestDrum 10 = .ok (.istore 4, 2) := by decide +kernel
theorem dX6_bestDrum_12 : decode cX6_bestDrum 12 = .ok (.iload 4, 2) := by decide +kernel
theorem dX6_bestDrum_14 : decode cX6_bestDrum 14 = .ok (.aload_n 0, 1) := by decide +kernel
theorem dX6_bestDrum_15 : decode cX6_bestDrum 15 = .ok (.getfield 10, 3) := by decide +kernel
theorem dX6_bestDrum_18 : decode cX6_bestDrum 18 = .ok (.getfield 59, 3) := by decide +kernel
theorem dX6_bestDrum_21 : decode cX6_bestDrum 21 = .ok (.if_icmp .ge 57, 3) := by decide +kernel
theorem dX6_bestDrum_24 : decode cX6_bestDrum 24 = .ok (.aload_n 0, 1) := by decide +kernel
theorem dX6_bestDrum_25 : decode cX6_bestDrum 25 = .ok (.getfield 10, 3) := by decide +kernel
theorem dX6_bestDrum_28 : decode cX6_bestDrum 28 = .ok (.getfield 76, 3) := by decide +kernel
theorem dX6_bestDrum_31 : decode cX6_bestDrum 31 = .ok (.iload 4, 2) := by decide +kernel
theorem dX6_bestDrum_33 : decode cX6_bestDrum 33 = .ok (.aaload, 1) := by decide +kernel
theorem dX6_bestDrum_34 : decode cX6_bestDrum 34 = .ok (.getfield 109, 3) := by decide +kernel
theorem dX6_bestDrum_37 : decode cX6_bestDrum 37 = .ok (.aload_n 0, 1) := by decide +kernel
theorem dX6_bestDrum_38 : decode cX6_bestDrum 38 = .ok (.getfield 10, 3) := by decide +kernel
theorem dX6_bestDrum_41 : decode cX6_bestDrum 41 = .ok (.getfield 76, 3) := by decide +kernel
theorem dX6_bestDrum_44 : decode cX6_bestDrum 44 = .ok (.iload_n 1, 1) := by decide +kernel
theorem dX6_bestDrum_45 : decode cX6_bestDrum 45 = .ok (.aaload, 1) := by decide +kernel
theorem dX6_bestDrum_46 : decode cX6_bestDrum 46 = .ok (.getfield 207, 3) := by decide +kernel
theorem dX6_bestDrum_49 : decode cX6_bestDrum 49 = .ok (.invokestatic 288, 3) := by decide +kernel
theorem dX6_bestDrum_52 : decode cX6_bestDrum 52 = .ok (.istore 5, 2) := by decide +kernel
theorem dX6_bestDrum_54 : decode cX6_bestDrum 54 = .ok (.iload 4, 2) := by decide +kernel
theorem dX6_bestDrum_56 : decode cX6_bestDrum 56 = .ok (.iload_n 1, 1) := by decide +kernel
theorem dX6_bestDrum_57 : decode cX6_bestDrum 57 = .ok (.if_icmp .eq 15, 3) := by decide +kernel
theorem dX6_bestDrum_60 : decode cX6_bestDrum 60 = .ok (.iload 5, 2) := by decide +kernel
theorem dX6_bestDrum_62 : decode cX6_bestDrum 62 = .ok (.iload_n 3, 1) := by decide +kernel
theorem dX6_bestDrum_63 : decode cX6_bestDrum 63 = .ok (.if_icmp .le 9, 3) := by decide +kernel
theorem dX6_bestDrum_66 : decode cX6_bestDrum 66 = .ok (.iload 4, 2) := by decide +kernel
theorem dX6_bestDrum_68 : decode cX6_bestDrum 68 = .ok (.istore_n 2, 1) := by decide +kernel
theorem dX6_bestDrum_69 : decode cX6_bestDrum 69 = .ok (.iload 5, 2) := by decide +kernel
theorem dX6_bestDrum_71 : decode cX6_bestDrum 71 = .ok (.istore_n 3, 1) := by decide +kernel
theorem dX6_bestDrum_72 : decode cX6_bestDrum 72 = .ok (.iinc 4 1, 3) := by decide +kernel
theorem dX6_bestDrum_75 : decode cX6_bestDrum 75 = .ok (.goto (-63), 3) := by decide +kernel
theorem dX6_bestDrum_78 : decode cX6_bestDrum 78 = .ok (.iload_n 2, 1) := by decide +kernel
theorem dX6_bestDrum_79 : decode cX6_bestDrum 79 = .ok (.ireturn, 1) := by decide +kernel
theorem dX6_bestTrades_0 : decode cX6_bestTrades 0 = .ok (.iload_n 1, 1) := by decide +kernel
theorem dX6_bestTrades_1 : decode cX6_bestTrades 1 = .ok (.ifCond .eq 21, 3) := by decide +kernel
theorem dX6_bestTrades_4 : decode cX6_bestTrades 4 = .ok (.iload_n 1, 1) := by decide +kernel
theorem dX6_bestTrades_5 : decode cX6_bestTrades 5 = .ok (.invokestatic 292, 3) := by decide +kernel
theorem dX6_bestTrades_8 : decode cX6_bestTrades 8 = .ok (.ifCond .ne 14, 3) := by decide +kernel
theorem dX6_bestTrades_11 : decode cX6_bestTrades 11 = .ok (.new 52, 3) := by decide +kernel
theorem dX6_bestTrades_14 : decode cX6_bestTrades 14 = .ok (.dup, 1) := by decide +kernel
theorem dX6_bestTrades_15 : decode cX6_bestTrades 15 = .ok (.ldc_w 296, 3) := by decide +kernel
theorem dX6_bestTrades_18 : decode cX6_bestTrades 18 = .ok (.invokespecial 56, 3) := by decide +kernel
theorem dX6_bestTrades_21 : decode cX6_bestTrades 21 = .ok (.athrow, 1) := by decide +kernel
theorem dX6_bestTrades_22 : decode cX6_bestTrades 22 = .ok (.aload_n 0, 1) := by decide +kernel
theorem dX6_bestTrades_23 : decode cX6_bestTrades 23 = .ok (.getfield 44, 3) := by decide +kernel
theorem dX6_bestTrades_26 : decode cX6_bestTrades 26 = .ok (.aload_n 0, 1) := by decide +kernel
theorem dX6_bestTrades_27 : decode cX6_bestTrades 27 = .ok (.getfield 10, 3) := by decide +kernel
theorem dX6_bestTrades_30 : decode cX6_bestTrades 30 = .ok (.invokevirtual 298, 3) := by decide +kernel
theorem dX6_bestTrades_33 : decode cX6_bestTrades 33 = .ok (.aload_n 0, 1) := by decide +kernel
theorem dX6_bestTrades_34 : decode cX6_bestTrades 34 = .ok (.getfield 44, 3) := by decide +kernel
theorem dX6_bestTrades_37 : decode cX6_bestTrades 37 = .ok (.iload_n 1, 1) := by decide +kernel
theorem dX6_bestTrades_38 : decode cX6_bestTrades 38 = .ok (.invokevirtual 299, 3) := by decide +kernel
theorem dX6_bestTrades_41 : decode cX6_bestTrades 41 = .ok (.ireturn, 1) := by decide +kernel
theorem dX6_ring_0 : decode cX6_ring 0 = .ok (.iload_n 1, 1) := by decide +kernel
theorem dX6_ring_1 : decode cX6_ring 1 = .ok (.ifCond .eq 26, 3) := by decide +kernel
theorem dX6_ring_4 : decode cX6_ring 4 = .ok (.iload_n 1, 1) := by decide +kernel
theorem dX6_ring_5 : decode cX6_ring 5 = .ok (.iconst 1, 1) := by decide +kernel
theorem dX6_ring_6 : decode cX6_ring 6 = .ok (.if_icmp .eq 21, 3) := by decide +kernel
theorem dX6_ring_9 : decode cX6_ring 9 = .ok (.iload_n 1, 1) := by decide +kernel
theorem dX6_ring_10 : decode cX6_ring 10 = .ok (.invokestatic 292, 3) := by decide +kernel
theorem dX6_ring_13 : decode cX6_ring 13 = .ok (.ifCond .ne 14, 3) := by decide +kernel
theorem dX6_ring_16 : decode cX6_ring 16 = .ok (.new 52, 3) := by decide +kernel
theorem dX6_ring_19 : decode cX6_ring 19 = .ok (.dup, 1) := by decide +kernel
theorem dX6_ring_20 : decode cX6_ring 20 = .ok (.ldc_w 300, 3) := by decide +kernel
theorem dX6_ring_23 : decode cX6_ring 23 = .ok (.invokespecial 56, 3) := by decide +kernel
theorem dX6_ring_26 : decode cX6_ring 26 = .ok (.athrow, 1) := by decide +kernel
theorem dX6_ring_27 : decode cX6_ring 27 = .ok (.aload_n 0, 1) := by decide +kernel
theorem dX6_ring_28 : decode cX6_ring 28 = .ok (.getfield 37, 3) := by decide +kernel
theorem dX6_ring_31 : decode cX6_ring 31 = .ok (.aload_n 0, 1) := by decide +kernel
theorem dX6_ring_32 : decode cX6_ring 32 = .ok (.getfield 10, 3) := by decide +kernel
theorem dX6_ring_35 : decode cX6_ring 35 = .ok (.invokevirtual 176, 3) := by decide +kernel
theorem dX6_ring_38 : decode cX6_ring 38 = .ok (.aload_n 0, 1) := by decide +kernel
theorem dX6_ring_39 : decode cX6_ring 39 = .ok (.getfield 37, 3) := by decide +kernel
theorem dX6_ring_42 : decode cX6_ring 42 = .ok (.iload_n 1, 1) := by decide +kernel
theorem dX6_ring_43 : decode cX6_ring 43 = .ok (.invokevirtual 302, 3) := by decide +kernel
theorem dX6_ring_46 : decode cX6_ring 46 = .ok (.ireturn, 1) := by decide +kernel
theorem dX6_tuneShare_0 : decode cX6_tuneShare 0 = .ok (.iconst 0, 1) := by decide +kernel
theorem dX6_tuneShare_1 : decode cX6_tuneShare 1 = .ok (.istore_n 1, 1) := by decide +kernel
theorem dX6_tuneShare_2 : decode cX6_tuneShare 2 = .ok (.iconst 0, 1) := by decide +kernel
theorem dX6_tuneShare_3 : decode cX6_tuneShare 3 = .ok (.istore_n 2, 1) := by decide +kernel
theorem dX6_tuneShare_4 : decode cX6_tuneShare 4 = .ok (.iload_n 2, 1) := by decide +kernel
theorem dX6_tuneShare_5 : decode cX6_tuneShare 5 = .ok (.aload_n 0, 1) := by decide +kernel
theorem dX6_tuneShare_6 : decode cX6_tuneShare 6 = .ok (.getfield 10, 3) := by decide +kernel
theorem dX6_tuneShare_9 : decode cX6_tuneShare 9 = .ok (.getfield 59, 3) := by decide +kernel
theorem dX6_tuneShare_12 : decode cX6_tuneShare 12 = .ok (.if_icmp .ge 27, 3) := by decide +kernel
theorem dX6_tuneShare_15 : decode cX6_tuneShare 15 = .ok (.iload_n 1, 1) := by decide +kernel
theorem dX6_tuneShare_16 : decode cX6_tuneShare 16 = .ok (.aload_n 0, 1) := by decide +kernel
theorem dX6_tuneShare_17 : decode cX6_tuneShare 17 = .ok (.getfield 10, 3) := by decide +kernel
theorem dX6_tuneShare_20 : decode cX6_tuneShare 20 = .ok (.getfield 76, 3) := by decide +kernel
theorem dX6_tuneShare_23 : decode cX6_tuneShare 23 = .ok (.iload_n 2, 1) := by decide +kernel
theorem dX6_tuneShare_24 : decode cX6_tuneShare 24 = .ok (.aaload, 1) := by decide +kernel
theorem dX6_tuneShare_25 : decode cX6_tuneShare 25 = .ok (.getfield 207, 3) := by decide +kernel
theorem dX6_tuneShare_28 : decode cX6_tuneShare 28 = .ok (.invokestatic 112, 3) := by decide +kernel
theorem dX6_tuneShare_31 : decode cX6_tuneShare 31 = .ok (.iadd, 1) := by decide +kernel
theorem dX6_tuneShare_32 : decode cX6_tuneShare 32 = .ok (.istore_n 1, 1) := by decide +kernel
theorem dX6_tuneShare_33 : decode cX6_tuneShare 33 = .ok (.iinc 2 1, 3) := by decide +kernel
theorem dX6_tuneShare_36 : decode cX6_tuneShare 36 = .ok (.goto (-32), 3) := by decide +kernel
theorem dX6_tuneShare_39 : decode cX6_tuneShare 39 = .ok (.iload_n 1, 1) := by decide +kernel
theorem dX6_tuneShare_40 : decode cX6_tuneShare 40 = .ok (.ifCond .ne 5, 3) := by decide +kernel
theorem dX6_tuneShare_43 : decode cX6_tuneShare 43 = .ok (.dconst 0, 1) := by decide +kernel
theorem dX6_tuneShare_44 : decode cX6_tuneShare 44 = .ok (.dreturn, 1) := by decide +kernel
theorem dX6_tuneShare_45 : decode cX6_tuneShare 45 = .ok (.aload_n 0, 1) := by decide +kernel
theorem dX6_tuneShare_46 : decode cX6_tuneShare 46 = .ok (.getfield 10, 3) := by decide +kernel
theorem dX6_tuneShare_49 : decode cX6_tuneShare 49 = .ok (.invokevirtual 262, 3) := by decide +kernel
theorem dX6_tuneShare_52 : decode cX6_tuneShare 52 = .ok (.i2d, 1) := by decide +kernel
theorem dX6_tuneShare_53 : decode cX6_tuneShare 53 = .ok (.iload_n 1, 1) := by decide +kernel
theorem dX6_tuneShare_54 : decode cX6_tuneShare 54 = .ok (.i2d, 1) := by decide +kernel
theorem dX6_tuneShare_55 : decode cX6_tuneShare 55 = .ok (.ddiv, 1) := by decide +kernel
theorem dX6_tuneShare_56 : decode cX6_tuneShare 56 = .ok (.dreturn, 1) := by decide +kernel
theorem dX6_digest_0 : decode cX6_digest 0 = .ok (.ldc2_w 303, 3) := by decide +kernel
theorem dX6_digest_3 : decode cX6_digest 3 = .ok (.lstore_n 1, 1) := by decide +kernel
theorem dX6_digest_4 : decode cX6_digest 4 = .ok (.iconst 0, 1) := by decide +kernel
theorem dX6_digest_5 : decode cX6_digest 5 = .ok (.istore_n 3, 1) := by decide +kernel
theorem dX6_digest_6 : decode cX6_digest 6 = .ok (.iload_n 3, 1) := by decide +kernel
theorem dX6_digest_7 : decode cX6_digest 7 = .ok (.bipush 11, 2) := by decide +kernel
theorem dX6_digest_9 : decode cX6_digest 9 = .ok (.if_icmp .ge 20, 3) := by decide +kernel
theorem dX6_digest_12 : decode cX6_digest 12 = .ok (.lload_n 1, 1) := by decide +kernel
theorem dX6_digest_13 : decode cX6_digest 13 = .ok (.aload_n 0, 1) := by decide +kernel
theorem dX6_digest_14 : decode cX6_digest 14 = .ok (.iload_n 3, 1) := by decide +kernel
theorem dX6_digest_15 : decode cX6_digest 15 = .ok (.invokevirtual 305, 3) := by decide +kernel
theorem dX6_digest_18 : decode cX6_digest 18 = .ok (.i2l, 1) := by decide +kernel
theorem dX6_digest_19 : decode cX6_digest 19 = .ok (.invokestatic 308, 3) := by decide +kernel
theorem dX6_digest_22 : decode cX6_digest 22 = .ok (.lstore_n 1, 1) := by decide +kernel
theorem dX6_digest_23 : decode cX6_digest 23 = .ok (.iinc 3 1, 3) := by decide +kernel
theorem dX6_digest_26 : decode cX6_digest 26 = .ok (.goto (-20), 3) := by decide +kernel
theorem dX6_digest_29 : decode cX6_digest 29 = .ok (.iconst 0, 1) := by decide +kernel
theorem dX6_digest_30 : decode cX6_digest 30 = .ok (.istore_n 3, 1) := by decide +kernel
theorem dX6_digest_31 : decode cX6_digest 31 = .ok (.iload_n 3, 1) := by decide +kernel
theorem dX6_digest_32 : decode cX6_digest 32 = .ok (.iconst 3, 1) := by decide +kernel
theorem dX6_digest_33 : decode cX6_digest 33 = .ok (.if_icmp .ge 24, 3) := by decide +kernel
theorem dX6_digest_36 : decode cX6_digest 36 = .ok (.lload_n 1, 1) := by decide +kernel
theorem dX6_digest_37 : decode cX6_digest 37 = .ok (.aload_n 0, 1) := by decide +kernel
theorem dX6_digest_38 : decode cX6_digest 38 = .ok (.getfield 10, 3) := by decide +kernel
theorem dX6_digest_41 : decode cX6_digest 41 = .ok (.getfield 68, 3) := by decide +kernel
theorem dX6_digest_44 : decode cX6_digest 44 = .ok (.iload_n 3, 1) := by decide +kernel
theorem dX6_digest_45 : decode cX6_digest 45 = .ok (.iaload, 1) := by decide +kernel
theorem dX6_digest_46 : decode cX6_digest 46 = .ok (.i2l, 1) := by decide +kernel
theorem dX6_digest_47 : decode cX6_digest 47 = .ok (.invokestatic 308, 3) := by decide +kernel
theorem dX6_digest_50 : decode cX6_digest 50 = .ok (.lstore_n 1, 1) := by decide +kernel
theorem dX6_digest_51 : decode cX6_digest 51 = .ok (.iinc 3 1, 3) := by decide +kernel
theorem dX6_digest_54 : decode cX6_digest 54 = .ok (.goto (-23), 3) := by decide +kernel
theorem dX6_digest_57 : decode cX6_digest 57 = .ok (.iconst 0, 1) := by decide +kernel
theorem dX6_digest_58 : decode cX6_digest 58 = .ok (.istore_n 3, 1) := by decide +kernel
theorem dX6_digest_59 : decode cX6_digest 59 = .ok (.iload_n 3, 1) := by decide +kernel
theorem dX6_digest_60 : decode cX6_digest 60 = .ok (.aload_n 0, 1) := by decide +kernel
theorem dX6_digest_61 : decode cX6_digest 61 = .ok (.getfield 10, 3) := by decide +kernel
theorem dX6_digest_64 : decode cX6_digest 64 = .ok (.getfield 59, 3) := by decide +kernel
theorem dX6_digest_67 : decode cX6_digest 67 = .ok (.if_icmp .ge 23, 3) := by decide +kernel
theorem dX6_digest_70 : decode cX6_digest 70 = .ok (.aload_n 0, 1) := by decide +kernel
theorem dX6_digest_71 : decode cX6_digest 71 = .ok (.lload_n 1, 1) := by decide +kernel
theorem dX6_digest_72 : decode cX6_digest 72 = .ok (.iload_n 3, 1) := by decide +kernel
theorem dX6_digest_73 : decode cX6_digest 73 = .ok (.invokevirtual 312, 3) := by decide +kernel
theorem dX6_digest_76 : decode cX6_digest 76 = .ok (.lstore_n 1, 1) := by decide +kernel
theorem dX6_digest_77 : decode cX6_digest 77 = .ok (.aload_n 0, 1) := by decide +kernel
theorem dX6_digest_78 : decode cX6_digest 78 = .ok (.lload_n 1, 1) := by decide +kernel
theorem dX6_digest_79 : decode cX6_digest 79 = .ok (.iload_n 3, 1) := by decide +kernel
theorem dX6_digest_80 : decode cX6_digest 80 = .ok (.invokevirtual 316, 3) := by decide +kernel
theorem dX6_digest_83 : decode cX6_digest 83 = .ok (.lstore_n 1, 1) := by decide +kernel
theorem dX6_digest_84 : decode cX6_digest 84 = .ok (.iinc 3 1, 3) := by decide +kernel
theorem dX6_digest_87 : decode cX6_digest 87 = .ok (.goto (-28), 3) := by decide +kernel
theorem dX6_digest_90 : decode cX6_digest 90 = .ok (.aload_n 0, 1) := by decide +kernel
theorem dX6_digest_91 : decode cX6_digest 91 = .ok (.lload_n 1, 1) := by decide +kernel
theorem dX6_digest_92 : decode cX6_digest 92 = .ok (.invokevirtual 319, 3) := by decide +kernel
theorem dX6_digest_95 : decode cX6_digest 95 = .ok (.lstore_n 1, 1) := by decide +kernel
theorem dX6_digest_96 : decode cX6_digest 96 = .ok (.aload_n 0, 1) := by decide +kernel
theorem dX6_digest_97 : decode cX6_digest 97 = .ok (.lload_n 1, 1) := by decide +kernel
theorem dX6_digest_98 : decode cX6_digest 98 = .ok (.invokevirtual 323, 3) := by decide +kernel
theorem dX6_digest_101 : decode cX6_digest 101 = .ok (.lstore_n 1, 1) := by decide +kernel
theorem dX6_digest_102 : decode cX6_digest 102 = .ok (.lload_n 1, 1) := by decide +kernel
theorem dX6_digest_103 : decode cX6_digest 103 = .ok (.aload_n 0, 1) := by decide +kernel
theorem dX6_digest_104 : decode cX6_digest 104 = .ok (.invokevirtual 326, 3) := by decide +kernel
theorem dX6_digest_107 : decode cX6_digest 107 = .ok (.invokestatic 330, 3) := by decide +kernel
theorem dX6_digest_110 : decode cX6_digest 110 = .ok (.invokestatic 308, 3) := by decide +kernel
theorem dX6_digest_113 : decode cX6_digest 113 = .ok (.lstore_n 1, 1) := by decide +kernel
theorem dX6_digest_114 : decode cX6_digest 114 = .ok (.lload_n 1, 1) := by decide +kernel
theorem dX6_digest_115 : decode cX6_digest 115 = .ok (.aload_n 0, 1) := by decide +kernel
theorem dX6_digest_116 : decode cX6_digest 116 = .ok (.getfield 23, 3) := by decide +kernel
theorem dX6_digest_119 : decode cX6_digest 119 = .ok (.getfield 189, 3) := by decide +kernel
theorem dX6_digest_122 : decode cX6_digest 122 = .ok (.i2l, 1) := by decide +kernel
theorem dX6_digest_123 : decode cX6_digest 123 = .ok (.invokestatic 308, 3) := by decide +kernel
theorem dX6_digest_126 : decode cX6_digest 126 = .ok (.lstore_n 1, 1) := by decide +kernel
theorem dX6_digest_127 : decode cX6_digest 127 = .ok (.iconst 0, 1) := by decide +kernel
theorem dX6_digest_128 : decode cX6_digest 128 = .ok (.istore_n 3, 1) := by decide +kernel
theorem dX6_digest_129 : decode cX6_digest 129 = .ok (.iload_n 3, 1) := by decide +kernel
theorem dX6_digest_130 : decode cX6_digest 130 = .ok (.aload_n 0, 1) := by decide +kernel
theorem dX6_digest_131 : decode cX6_digest 131 = .ok (.getfield 23, 3) := by decide +kernel
theorem dX6_digest_134 : decode cX6_digest 134 = .ok (.getfield 189, 3) := by decide +kernel
theorem dX6_digest_137 : decode cX6_digest 137 = .ok (.if_icmp .ge 30, 3) := by decide +kernel
theorem dX6_digest_140 : decode cX6_digest 140 = .ok (.iload_n 3, 1) := by decide +kernel
theorem dX6_digest_141 : decode cX6_digest 141 = .ok (.bipush 60, 2) := by decide +kernel
theorem dX6_digest_143 : decode cX6_digest 143 = .ok (.if_icmp .ge 24, 3) := by decide +kernel
theorem dX6_digest_146 : decode cX6_digest 146 = .ok (.lload_n 1, 1) := by decide +kernel
theorem dX6_digest_147 : decode cX6_digest 147 = .ok (.aload_n 0, 1) := by decide +kernel
theorem dX6_digest_148 : decode cX6_digest 148 = .ok (.getfield 23, 3) := by decide +kernel
theorem dX6_digest_151 : decode cX6_digest 151 = .ok (.getfield 192, 3) := by decide +kernel
theorem dX6_digest_154 : decode cX6_digest 154 = .ok (.iload_n 3, 1) := by decide +kernel
theorem dX6_digest_155 : decode cX6_digest 155 = .ok (.iaload, 1) := by decide +kernel
theorem dX6_digest_156 : decode cX6_digest 156 = .ok (.i2l, 1) := by decide +kernel
theorem dX6_digest_157 : decode cX6_digest 157 = .ok (.invokestatic 308, 3) := by decide +kernel
theorem dX6_digest_160 : decode cX6_digest 160 = .ok (.lstore_n 1, 1) := by decide +kernel
theorem dX6_digest_161 : decode cX6_digest 161 = .ok (.iinc 3 1, 3) := by decide +kernel
theorem dX6_digest_164 : decode cX6_digest 164 = .ok (.goto (-35), 3) := by decide +kernel
theorem dX6_digest_167 : decode cX6_digest 167 = .ok (.lload_n 1, 1) := by decide +kernel
theorem dX6_digest_168 : decode cX6_digest 168 = .ok (.lreturn, 1) := by decide +kernel
theorem dX6_mixed_0 : decode cX6_mixed 0 = .ok (.ldc2_w 334, 3) := by decide +kernel
theorem dX6_mixed_3 : decode cX6_mixed 3 = .ok (.lload_n 0, 1) := by decide +kernel
theorem dX6_mixed_4 : decode cX6_mixed 4 = .ok (.lmul, 1) := by decide +kernel
theorem dX6_mixed_5 : decode cX6_mixed 5 = .ok (.lload_n 2, 1) := by decide +kernel
theorem dX6_mixed_6 : decode cX6_mixed 6 = .ok (.ladd, 1) := by decide +kernel
theorem dX6_mixed_7 : decode cX6_mixed 7 = .ok (.lreturn, 1) := by decide +kernel
theorem dX6_mixedWithTown_0 : decode cX6_mixedWithTown 0 = .ok (.lload_n 1, 1) := by decide +kernel
theorem dX6_mixedWithTown_1 : decode cX6_mixedWithTown 1 = .ok (.lstore 4, 2) := by decide +kernel
theorem dX6_mixedWithTown_3 : decode cX6_mixedWithTown 3 = .ok (.iconst 0, 1) := by decide +kernel
theorem dX6_mixedWithTown_4 : decode cX6_mixedWithTown 4 = .ok (.istore 6, 2) := by decide +kernel
theorem dX6_mixedWithTown_6 : decode cX6_mixedWithTown 6 = .ok (.iload 6, 2) := by decide +kernel
theorem dX6_mixedWithTown_8 : decode cX6_mixedWithTown 8 = .ok (.bipush 12, 2) := by decide +kernel
theorem dX6_mixedWithTown_10 : decode cX6_mixedWithTown 10 = .ok (.if_icmp .ge 24, 3) := by decide +kernel
theorem dX6_mixedWithTown_13 : decode cX6_mixedWithTown 13 = .ok (.lload 4, 2) := by decide +kernel
theorem dX6_mixedWithTown_15 : decode cX6_mixedWithTown 15 = .ok (.aload_n 0, 1) := by decide +kernel
theorem dX6_mixedWithTown_16 : decode cX6_mixedWithTown 16 = .ok (.iload_n 3, 1) := by decide +kernel
theorem dX6_mixedWithTown_17 : decode cX6_mixedWithTown 17 = .ok (.iload 6, 2) := by decide +kernel
theorem dX6_mixedWithTown_19 : decode cX6_mixedWithTown 19 = .ok (.invokevirtual 336, 3) := by decide +kernel
theorem dX6_mixedWithTown_22 : decode cX6_mixedWithTown 22 = .ok (.i2l, 1) := by decide +kernel
theorem dX6_mixedWithTown_23 : decode cX6_mixedWithTown 23 = .ok (.invokestatic 308, 3) := by decide +kernel
theorem dX6_mixedWithTown_26 : decode cX6_mixedWithTown 26 = .ok (.lstore 4, 2) := by decide +kernel
theorem dX6_mixedWithTown_28 : decode cX6_mixedWithTown 28 = .ok (.iinc 6 1, 3) := by decide +kernel
theorem dX6_mixedWithTown_31 : decode cX6_mixedWithTown 31 = .ok (.goto (-25), 3) := by decide +kernel
theorem dX6_mixedWithTown_34 : decode cX6_mixedWithTown 34 = .ok (.aload_n 0, 1) := by decide +kernel
theorem dX6_mixedWithTown_35 : decode cX6_mixedWithTown 35 = .ok (.iload_n 3, 1) := by decide +kernel
theorem dX6_mixedWithTown_36 : decode cX6_mixedWithTown 36 = .ok (.invokevirtual 145, 3) := by decide +kernel
theorem dX6_mixedWithTown_39 : decode cX6_mixedWithTown 39 = .ok (.iconst 0, 1) := by decide +kernel
theorem dX6_mixedWithTown_40 : decode cX6_mixedWithTown 40 = .ok (.istore 6, 2) := by decide +kernel
theorem dX6_mixedWithTown_42 : decode cX6_mixedWithTown 42 = .ok (.iload 6, 2) := by decide +kernel
theorem dX6_mixedWithTown_44 : decode cX6_mixedWithTown 44 = .ok (.iconst 5, 1) := by decide +kernel
theorem dX6_mixedWithTown_45 : decode cX6_mixedWithTown 45 = .ok (.if_icmp .ge 26, 3) := by decide +kernel
theorem dX6_mixedWithTown_48 : decode cX6_mixedWithTown 48 = .ok (.lload 4, 2) := by decide +kernel
theorem dX6_mixedWithTown_50 : decode cX6_mixedWithTown 50 = .ok (.aload_n 0, 1) := by decide +kernel
theorem dX6_mixedWithTown_51 : decode cX6_mixedWithTown 51 = .ok (.getfield 30, 3) := by decide +kernel
theorem dX6_mixedWithTown_54 : decode cX6_mixedWithTown 54 = .ok (.iload 6, 2) := by decide +kernel
theorem dX6_mixedWithTown_56 : decode cX6_mixedWithTown 56 = .ok (.invokevirtual 269, 3) := by decide +kernel
theorem dX6_mixedWithTown_59 : decode cX6_mixedWithTown 59 = .ok (.i2l, 1) := by decide +kernel
theorem dX6_mixedWithTown_60 : decode cX6_mixedWithTown 60 = .ok (.invokestatic 308, 3) := by decide +kernel
theorem dX6_mixedWithTown_63 : decode cX6_mixedWithTown 63 = .ok (.lstore 4, 2) := by decide +kernel
theorem dX6_mixedWithTown_65 : decode cX6_mixedWithTown 65 = .ok (.iinc 6 1, 3) := by decide +kernel
theorem dX6_mixedWithTown_68 : decode cX6_mixedWithTown 68 = .ok (.goto (-26), 3) := by decide +kernel
theorem dX6_mixedWithTown_71 : decode cX6_mixedWithTown 71 = .ok (.lload 4, 2) := by decide +kernel
theorem dX6_mixedWithTown_73 : decode cX6_mixedWithTown 73 = .ok (.aload_n 0, 1) := by decide +kernel
theorem dX6_mixedWithTown_74 : decode cX6_mixedWithTown 74 = .ok (.iload_n 3, 1) := by decide +kernel
theorem dX6_mixedWithTown_75 : decode cX6_mixedWithTown 75 = .ok (.invokevirtual 340, 3) := by decide +kernel
theorem dX6_mixedWithTown_78 : decode cX6_mixedWithTown 78 = .ok (.i2l, 1) := by decide +kernel
theorem dX6_mixedWithTown_79 : decode cX6_mixedWithTown 79 = .ok (.invokestatic 308, 3) := by decide +kernel
theorem dX6_mixedWithTown_82 : decode cX6_mixedWithTown 82 = .ok (.lstore 4, 2) := by decide +kernel
theorem dX6_mixedWithTown_84 : decode cX6_mixedWithTown 84 = .ok (.lload 4, 2) := by decide +kernel
theorem dX6_mixedWithTown_86 : decode cX6_mixedWithTown 86 = .ok (.aload_n 0, 1) := by decide +kernel
theorem dX6_mixedWithTown_87 : decode cX6_mixedWithTown 87 = .ok (.iload_n 3, 1) := by decide +kernel
theorem dX6_mixedWithTown_88 : decode cX6_mixedWithTown 88 = .ok (.iconst 0, 1) := by decide +kernel
theorem dX6_mixedWithTown_89 : decode cX6_mixedWithTown 89 = .ok (.invokevirtual 343, 3) := by decide +kernel
theorem dX6_mixedWithTown_92 : decode cX6_mixedWithTown 92 = .ok (.i2l, 1) := by decide +kernel
theorem dX6_mixedWithTown_93 : decode cX6_mixedWithTown 93 = .ok (.invokestatic 308, 3) := by decide +kernel
theorem dX6_mixedWithTown_96 : decode cX6_mixedWithTown 96 = .ok (.lstore 4, 2) := by decide +kernel
theorem dX6_mixedWithTown_98 : decode cX6_mixedWithTown 98 = .ok (.lload 4, 2) := by decide +kernel
theorem dX6_mixedWithTown_100 : decode cX6_mixedWithTown 100 = .ok (.aload_n 0, 1) := by decide +kernel
theorem dX6_mixedWithTown_101 : decode cX6_mixedWithTown 101 = .ok (.iload_n 3, 1) := by decide +kernel
theorem dX6_mixedWithTown_102 : decode cX6_mixedWithTown 102 = .ok (.iconst 1, 1) := by decide +kernel
theorem dX6_mixedWithTown_103 : decode cX6_mixedWithTown 103 = .ok (.invokevirtual 343, 3) := by decide +kernel
theorem dX6_mixedWithTown_106 : decode cX6_mixedWithTown 106 = .ok (.i2l, 1) := by decide +kernel
theorem dX6_mixedWithTown_107 : decode cX6_mixedWithTown 107 = .ok (.invokestatic 308, 3) := by decide +kernel
theorem dX6_mixedWithTown_110 : decode cX6_mixedWithTown 110 = .ok (.lstore 4, 2) := by decide +kernel
theorem dX6_mixedWithTown_112 : decode cX6_mixedWithTown 112 = .ok (.lload 4, 2) := by decide +kernel
theorem dX6_mixedWithTown_114 : decode cX6_mixedWithTown 114 = .ok (.aload_n 0, 1) := by decide +kernel
theorem dX6_mixedWithTown_115 : decode cX6_mixedWithTown 115 = .ok (.iload_n 3, 1) := by decide +kernel
theorem dX6_mixedWithTown_116 : decode cX6_mixedWithTown 116 = .ok (.invokevirtual 346, 3) := by decide +kernel
theorem dX6_mixedWithTown_119 : decode cX6_mixedWithTown 119 = .ok (.i2l, 1) := by decide +kernel
theorem dX6_mixedWithTown_120 : decode cX6_mixedWithTown 120 = .ok (.invokestatic 308, 3) := by decide +kernel
theorem dX6_mixedWithTown_123 : decode cX6_mixedWithTown 123 = .ok (.lreturn, 1) := by decide +kernel
theorem dX6_mixedWithRows_0 : decode cX6_mixedWithRows 0 = .ok (.lload_n 1, 1) := by decide +kernel
theorem dX6_mixedWithRows_1 : decode cX6_mixedWithRows 1 = .ok (.lstore 4, 2) := by decide +kernel
theorem dX6_mixedWithRows_3 : decode cX6_mixedWithRows 3 = .ok (.aload_n 0, 1) := by decide +kernel
theorem dX6_mixedWithRows_4 : decode cX6_mixedWithRows 4 = .ok (.getfield 10, 3) := by decide +kernel
theorem dX6_mixedWithRows_7 : decode cX6_mixedWithRows 7 = .ok (.getfield 76, 3) := by decide +kernel
theorem dX6_mixedWithRows_10 : decode cX6_mixedWithRows 10 = .ok (.iload_n 3, 1) := by decide +kernel
theorem dX6_mixedWithRows_11 : decode cX6_mixedWithRows 11 = .ok (.aaload, 1) := by decide +kernel
theorem dX6_mixedWithRows_12 : decode cX6_mixedWithRows 12 = .ok (.astore 6, 2) := by decide +kernel
theorem dX6_mixedWithRows_14 : decode cX6_mixedWithRows 14 = .ok (.iconst 0, 1) := by decide +kernel
theorem dX6_mixedWithRows_15 : decode cX6_mixedWithRows 15 = .ok (.istore 7, 2) := by decide +kernel
theorem dX6_mixedWithRows_17 : decode cX6_mixedWithRows 17 = .ok (.iload 7, 2) := by decide +kernel
theorem dX6_mixedWithRows_19 : decode cX6_mixedWithRows 19 = .ok (.bipush 12, 2) := by decide +kernel
theorem dX6_mixedWithRows_21 : decode cX6_mixedWithRows 21 = .ok (.if_icmp .ge 25, 3) := by decide +kernel
theorem dX6_mixedWithRows_24 : decode cX6_mixedWithRows 24 = .ok (.lload 4, 2) := by decide +kernel
theorem dX6_mixedWithRows_26 : decode cX6_mixedWithRows 26 = .ok (.aload 6, 2) := by decide +kernel
theorem dX6_mixedWithRows_28 : decode cX6_mixedWithRows 28 = .ok (.getfield 142, 3) := by decide +kernel
theorem dX6_mixedWithRows_31 : decode cX6_mixedWithRows 31 = .ok (.iload 7, 2) := by decide +kernel
theorem dX6_mixedWithRows_33 : decode cX6_mixedWithRows 33 = .ok (.iaload, 1) := by decide +kernel
theorem dX6_mixedWithRows_34 : decode cX6_mixedWithRows 34 = .ok (.i2l, 1) := by decide +kernel
theorem dX6_mixedWithRows_35 : decode cX6_mixedWithRows 35 = .ok (.invokestatic 308, 3) := by decide +kernel
theorem dX6_mixedWithRows_38 : decode cX6_mixedWithRows 38 = .ok (.lstore 4, 2) := by decide +kernel
theorem dX6_mixedWithRows_40 : decode cX6_mixedWithRows 40 = .ok (.iinc 7 1, 3) := by decide +kernel
theorem dX6_mixedWithRows_43 : decode cX6_mixedWithRows 43 = .ok (.goto (-26), 3) := by decide +kernel
theorem dX6_mixedWithRows_46 : decode cX6_mixedWithRows 46 = .ok (.iconst 0, 1) := by decide +kernel
theorem dX6_mixedWithRows_47 : decode cX6_mixedWithRows 47 = .ok (.istore 7, 2) := by decide +kernel
theorem dX6_mixedWithRows_49 : decode cX6_mixedWithRows 49 = .ok (.iload 7, 2) := by decide +kernel
theorem dX6_mixedWithRows_51 : decode cX6_mixedWithRows 51 = .ok (.aload_n 0, 1) := by decide +kernel
theorem dX6_mixedWithRows_52 : decode cX6_mixedWithRows 52 = .ok (.getfield 10, 3) := by decide +kernel
theorem dX6_mixedWithRows_55 : decode cX6_mixedWithRows 55 = .ok (.getfield 59, 3) := by decide +kernel
theorem dX6_mixedWithRows_58 : decode cX6_mixedWithRows 58 = .ok (.if_icmp .ge 29, 3) := by decide +kernel
theorem dX6_mixedWithRows_61 : decode cX6_mixedWithRows 61 = .ok (.lload 4, 2) := by decide +kernel
theorem dX6_mixedWithRows_63 : decode cX6_mixedWithRows 63 = .ok (.aload_n 0, 1) := by decide +kernel
theorem dX6_mixedWithRows_64 : decode cX6_mixedWithRows 64 = .ok (.getfield 10, 3) := by decide +kernel
theorem dX6_mixedWithRows_67 : decode cX6_mixedWithRows 67 = .ok (.getfield 164, 3) := by decide +kernel
theorem dX6_mixedWithRows_70 : decode cX6_mixedWithRows 70 = .ok (.iload_n 3, 1) := by decide +kernel
theorem dX6_mixedWithRows_71 : decode cX6_mixedWithRows 71 = .ok (.aaload, 1) := by decide +kernel
theorem dX6_mixedWithRows_72 : decode cX6_mixedWithRows 72 = .ok (.iload 7, 2) := by decide +kernel
theorem dX6_mixedWithRows_74 : decode cX6_mixedWithRows 74 = .ok (.iaload, 1) := by decide +kernel
theorem dX6_mixedWithRows_75 : decode cX6_mixedWithRows 75 = .ok (.i2l, 1) := by decide +kernel
theorem dX6_mixedWithRows_76 : decode cX6_mixedWithRows 76 = .ok (.invokestatic 308, 3) := by decide +kernel
theorem dX6_mixedWithRows_79 : decode cX6_mixedWithRows 79 = .ok (.lstore 4, 2) := by decide +kernel
theorem dX6_mixedWithRows_81 : decode cX6_mixedWithRows 81 = .ok (.iinc 7 1, 3) := by decide +kernel
theorem dX6_mixedWithRows_84 : decode cX6_mixedWithRows 84 = .ok (.goto (-35), 3) := by decide +kernel
theorem dX6_mixedWithRows_87 : decode cX6_mixedWithRows 87 = .ok (.aload_n 0, 1) := by decide +kernel
theorem dX6_mixedWithRows_88 : decode cX6_mixedWithRows 88 = .ok (.iload_n 3, 1) := by decide +kernel
theorem dX6_mixedWithRows_89 : decode cX6_mixedWithRows 89 = .ok (.invokevirtual 145, 3) := by decide +kernel
theorem dX6_mixedWithRows_92 : decode cX6_mixedWithRows 92 = .ok (.iconst 0, 1) := by decide +kernel
theorem dX6_mixedWithRows_93 : decode cX6_mixedWithRows 93 = .ok (.istore 7, 2) := by decide +kernel
theorem dX6_mixedWithRows_95 : decode cX6_mixedWithRows 95 = .ok (.iload 7, 2) := by decide +kernel
theorem dX6_mixedWithRows_97 : decode cX6_mixedWithRows 97 = .ok (.bipush 24, 2) := by decide +kernel
theorem dX6_mixedWithRows_99 : decode cX6_mixedWithRows 99 = .ok (.if_icmp .ge 59, 3) := by decide +kernel
theorem dX6_mixedWithRows_102 : decode cX6_mixedWithRows 102 = .ok (.lload 4, 2) := by decide +kernel
theorem dX6_mixedWithRows_104 : decode cX6_mixedWithRows 104 = .ok (.aload 6, 2) := by decide +kernel
theorem dX6_mixedWithRows_106 : decode cX6_mixedWithRows 106 = .ok (.getfield 109, 3) := by decide +kernel
theorem dX6_mixedWithRows_109 : decode cX6_mixedWithRows 109 = .ok (.iload 7, 2) := by decide +kernel
theorem dX6_mixedWithRows_111 : decode cX6_mixedWithRows 111 = .ok (.iaload, 1) := by decide +kernel
theorem dX6_mixedWithRows_112 : decode cX6_mixedWithRows 112 = .ok (.i2l, 1) := by decide +kernel
theorem dX6_mixedWithRows_113 : decode cX6_mixedWithRows 113 = .ok (.invokestatic 308, 3) := by decide +kernel
theorem dX6_mixedWithRows_116 : decode cX6_mixedWithRows 116 = .ok (.lstore 4, 2) := by decide +kernel
theorem dX6_mixedWithRows_118 : decode cX6_mixedWithRows 118 = .ok (.lload 4, 2) := by decide +kernel
theorem dX6_mixedWithRows_120 : decode cX6_mixedWithRows 120 = .ok (.aload 6, 2) := by decide +kernel
theorem dX6_mixedWithRows_122 : decode cX6_mixedWithRows 122 = .ok (.getfield 207, 3) := by decide +kernel
theorem dX6_mixedWithRows_125 : decode cX6_mixedWithRows 125 = .ok (.iload 7, 2) := by decide +kernel
theorem dX6_mixedWithRows_127 : decode cX6_mixedWithRows 127 = .ok (.iaload, 1) := by decide +kernel
theorem dX6_mixedWithRows_128 : decode cX6_mixedWithRows 128 = .ok (.i2l, 1) := by decide +kernel
theorem dX6_mixedWithRows_129 : decode cX6_mixedWithRows 129 = .ok (.invokestatic 308, 3) := by decide +kernel
theorem dX6_mixedWithRows_132 : decode cX6_mixedWithRows 132 = .ok (.lstore 4, 2) := by decide +kernel
theorem dX6_mixedWithRows_134 : decode cX6_mixedWithRows 134 = .ok (.lload 4, 2) := by decide +kernel
theorem dX6_mixedWithRows_136 : decode cX6_mixedWithRows 136 = .ok (.aload_n 0, 1) := by decide +kernel
theorem dX6_mixedWithRows_137 : decode cX6_mixedWithRows 137 = .ok (.getfield 30, 3) := by decide +kernel
theorem dX6_mixedWithRows_140 : decode cX6_mixedWithRows 140 = .ok (.getfield 239, 3) := by decide +kernel
theorem dX6_mixedWithRows_143 : decode cX6_mixedWithRows 143 = .ok (.iload 7, 2) := by decide +kernel
theorem dX6_mixedWithRows_145 : decode cX6_mixedWithRows 145 = .ok (.iaload, 1) := by decide +kernel
theorem dX6_mixedWithRows_146 : decode cX6_mixedWithRows 146 = .ok (.i2l, 1) := by decide +kernel
theorem dX6_mixedWithRows_147 : decode cX6_mixedWithRows 147 = .ok (.invokestatic 308, 3) := by decide +kernel
theorem dX6_mixedWithRows_150 : decode cX6_mixedWithRows 150 = .ok (.lstore 4, 2) := by decide +kernel
theorem dX6_mixedWithRows_152 : decode cX6_mixedWithRows 152 = .ok (.iinc 7 1, 3) := by decide +kernel
theorem dX6_mixedWithRows_155 : decode cX6_mixedWithRows 155 = .ok (.goto (-60), 3) := by decide +kernel
theorem dX6_mixedWithRows_158 : decode cX6_mixedWithRows 158 = .ok (.lload 4, 2) := by decide +kernel
theorem dX6_mixedWithRows_160 : decode cX6_mixedWithRows 160 = .ok (.lreturn, 1) := by decide +kernel
theorem dX6_mixedWithTrades_0 : decode cX6_mixedWithTrades 0 = .ok (.aload_n 0, 1) := by decide +kernel
theorem dX6_mixedWithTrades_1 : decode cX6_mixedWithTrades 1 = .ok (.getfield 44, 3) := by decide +kernel
theorem dX6_mixedWithTrades_4 : decode cX6_mixedWithTrades 4 = .ok (.aload_n 0, 1) := by decide +kernel
theorem dX6_mixedWithTrades_5 : decode cX6_mixedWithTrades 5 = .ok (.getfield 10, 3) := by decide +kernel
theorem dX6_mixedWithTrades_8 : decode cX6_mixedWithTrades 8 = .ok (.invokevirtual 298, 3) := by decide +kernel
theorem dX6_mixedWithTrades_11 : decode cX6_mixedWithTrades 11 = .ok (.lload_n 1, 1) := by decide +kernel
theorem dX6_mixedWithTrades_12 : decode cX6_mixedWithTrades 12 = .ok (.aload_n 0, 1) := by decide +kernel
theorem dX6_mixedWithTrades_13 : decode cX6_mixedWithTrades 13 = .ok (.getfield 44, 3) := by decide +kernel
theorem dX6_mixedWithTrades_16 : decode cX6_mixedWithTrades 16 = .ok (.iconst 0, 1) := by decide +kernel
theorem dX6_mixedWithTrades_17 : decode cX6_mixedWithTrades 17 = .ok (.invokevirtual 299, 3) := by decide +kernel
theorem dX6_mixedWithTrades_20 : decode cX6_mixedWithTrades 20 = .ok (.i2l, 1) := by decide +kernel
theorem dX6_mixedWithTrades_21 : decode cX6_mixedWithTrades 21 = .ok (.invokestatic 308, 3) := by decide +kernel
theorem dX6_mixedWithTrades_24 : decode cX6_mixedWithTrades 24 = .ok (.lstore_n 3, 1) := by decide +kernel
theorem dX6_mixedWithTrades_25 : decode cX6_mixedWithTrades 25 = .ok (.iconst 0, 1) := by decide +kernel
theorem dX6_mixedWithTrades_26 : decode cX6_mixedWithTrades 26 = .ok (.istore 5, 2) := by decide +kernel
theorem dX6_mixedWithTrades_28 : decode cX6_mixedWithTrades 28 = .ok (.iload 5, 2) := by decide +kernel
theorem dX6_mixedWithTrades_30 : decode cX6_mixedWithTrades 30 = .ok (.bipush 6, 2) := by decide +kernel
theorem dX6_mixedWithTrades_32 : decode cX6_mixedWithTrades 32 = .ok (.if_icmp .ge 27, 3) := by decide +kernel
theorem dX6_mixedWithTrades_35 : decode cX6_mixedWithTrades 35 = .ok (.lload_n 3, 1) := by decide +kernel
theorem dX6_mixedWithTrades_36 : decode cX6_mixedWithTrades 36 = .ok (.aload_n 0, 1) := by decide +kernel
theorem dX6_mixedWithTrades_37 : decode cX6_mixedWithTrades 37 = .ok (.getfield 44, 3) := by decide +kernel
theorem dX6_mixedWithTrades_40 : decode cX6_mixedWithTrades 40 = .ok (.bipush 10, 2) := by decide +kernel
theorem dX6_mixedWithTrades_42 : decode cX6_mixedWithTrades 42 = .ok (.iload 5, 2) := by decide +kernel
theorem dX6_mixedWithTrades_44 : decode cX6_mixedWithTrades 44 = .ok (.iadd, 1) := by decide +kernel
theorem dX6_mixedWithTrades_45 : decode cX6_mixedWithTrades 45 = .ok (.invokevirtual 299, 3) := by decide +kernel
theorem dX6_mixedWithTrades_48 : decode cX6_mixedWithTrades 48 = .ok (.i2l, 1) := by decide +kernel
theorem dX6_mixedWithTrades_49 : decode cX6_mixedWithTrades 49 = .ok (.invokestatic 308, 3) := by decide +kernel
theorem dX6_mixedWithTrades_52 : decode cX6_mixedWithTrades 52 = .ok (.lstore_n 3, 1) := by decide +kernel
theorem dX6_mixedWithTrades_53 : decode cX6_mixedWithTrades 53 = .ok (.iinc 5 1, 3) := by decide +kernel
theorem dX6_mixedWithTrades_56 : decode cX6_mixedWithTrades 56 = .ok (.goto (-28), 3) := by decide +kernel
theorem dX6_mixedWithTrades_59 : decode cX6_mixedWithTrades 59 = .ok (.lload_n 3, 1) := by decide +kernel
theorem dX6_mixedWithTrades_60 : decode cX6_mixedWithTrades 60 = .ok (.lreturn, 1) := by decide +kernel
theorem dX6_mixedWithRing_0 : decode cX6_mixedWithRing 0 = .ok (.aload_n 0, 1) := by decide +kernel
theorem dX6_mixedWithRing_1 : decode cX6_mixedWithRing 1 = .ok (.getfield 37, 3) := by decide +kernel
theorem dX6_mixedWithRing_4 : decode cX6_mixedWithRing 4 = .ok (.aload_n 0, 1) := by decide +kernel
theorem dX6_mixedWithRing_5 : decode cX6_mixedWithRing 5 = .ok (.getfield 10, 3) := by decide +kernel
theorem dX6_mixedWithRing_8 : decode cX6_mixedWithRing 8 = .ok (.invokevirtual 176, 3) := by decide +kernel
theorem dX6_mixedWithRing_11 : decode cX6_mixedWithRing 11 = .ok (.lload_n 1, 1) := by decide +kernel
theorem dX6_mixedWithRing_12 : decode cX6_mixedWithRing 12 = .ok (.aload_n 0, 1) := by decide +kernel
theorem dX6_mixedWithRing_13 : decode cX6_mixedWithRing 13 = .ok (.getfield 37, 3) := by decide +kernel
theorem dX6_mixedWithRing_16 : decode cX6_mixedWithRing 16 = .ok (.iconst 0, 1) := by decide +kernel
theorem dX6_mixedWithRing_17 : decode cX6_mixedWithRing 17 = .ok (.invokevirtual 302, 3) := by decide +kernel
theorem dX6_mixedWithRing_20 : decode cX6_mixedWithRing 20 = .ok (.i2l, 1) := by decide +kernel
theorem dX6_mixedWithRing_21 : decode cX6_mixedWithRing 21 = .ok (.invokestatic 308, 3) := by decide +kernel
theorem dX6_mixedWithRing_24 : decode cX6_mixedWithRing 24 = .ok (.lstore_n 3, 1) := by decide +kernel
theorem dX6_mixedWithRing_25 : decode cX6_mixedWithRing 25 = .ok (.lload_n 3, 1) := by decide +kernel
theorem dX6_mixedWithRing_26 : decode cX6_mixedWithRing 26 = .ok (.aload_n 0, 1) := by decide +kernel
theorem dX6_mixedWithRing_27 : decode cX6_mixedWithRing 27 = .ok (.getfield 37, 3) := by decide +kernel
theorem dX6_mixedWithRing_30 : decode cX6_mixedWithRing 30 = .ok (.iconst 1, 1) := by decide +kernel
theorem dX6_mixedWithRing_31 : decode cX6_mixedWithRing 31 = .ok (.invokevirtual 302, 3) := by decide +kernel
theorem dX6_mixedWithRing_34 : decode cX6_mixedWithRing 34 = .ok (.i2l, 1) := by decide +kernel
theorem dX6_mixedWithRing_35 : decode cX6_mixedWithRing 35 = .ok (.invokestatic 308, 3) := by decide +kernel
theorem dX6_mixedWithRing_38 : decode cX6_mixedWithRing 38 = .ok (.lstore_n 3, 1) := by decide +kernel
theorem dX6_mixedWithRing_39 : decode cX6_mixedWithRing 39 = .ok (.iconst 0, 1) := by decide +kernel
theorem dX6_mixedWithRing_40 : decode cX6_mixedWithRing 40 = .ok (.istore 5, 2) := by decide +kernel
theorem dX6_mixedWithRing_42 : decode cX6_mixedWithRing 42 = .ok (.iload 5, 2) := by decide +kernel
theorem dX6_mixedWithRing_44 : decode cX6_mixedWithRing 44 = .ok (.bipush 6, 2) := by decide +kernel
theorem dX6_mixedWithRing_46 : decode cX6_mixedWithRing 46 = .ok (.if_icmp .ge 27, 3) := by decide +kernel
theorem dX6_mixedWithRing_49 : decode cX6_mixedWithRing 49 = .ok (.lload_n 3, 1) := by decide +kernel
theorem dX6_mixedWithRing_50 : decode cX6_mixedWithRing 50 = .ok (.aload_n 0, 1) := by decide +kernel
theorem dX6_mixedWithRing_51 : decode cX6_mixedWithRing 51 = .ok (.getfield 37, 3) := by decide +kernel
theorem dX6_mixedWithRing_54 : decode cX6_mixedWithRing 54 = .ok (.bipush 10, 2) := by decide +kernel
theorem dX6_mixedWithRing_56 : decode cX6_mixedWithRing 56 = .ok (.iload 5, 2) := by decide +kernel
theorem dX6_mixedWithRing_58 : decode cX6_mixedWithRing 58 = .ok (.iadd, 1) := by decide +kernel
theorem dX6_mixedWithRing_59 : decode cX6_mixedWithRing 59 = .ok (.invokevirtual 302, 3) := by decide +kernel
theorem dX6_mixedWithRing_62 : decode cX6_mixedWithRing 62 = .ok (.i2l, 1) := by decide +kernel
theorem dX6_mixedWithRing_63 : decode cX6_mixedWithRing 63 = .ok (.invokestatic 308, 3) := by decide +kernel
theorem dX6_mixedWithRing_66 : decode cX6_mixedWithRing 66 = .ok (.lstore_n 3, 1) := by decide +kernel
theorem dX6_mixedWithRing_67 : decode cX6_mixedWithRing 67 = .ok (.iinc 5 1, 3) := by decide +kernel
theorem dX6_mixedWithRing_70 : decode cX6_mixedWithRing 70 = .ok (.goto (-28), 3) := by decide +kernel
theorem dX6_mixedWithRing_73 : decode cX6_mixedWithRing 73 = .ok (.lload_n 3, 1) := by decide +kernel
theorem dX6_mixedWithRing_74 : decode cX6_mixedWithRing 74 = .ok (.lreturn, 1) := by decide +kernel
theorem dX6_bitsOf_0 : decode cX6_bitsOf 0 = .ok (.dload_n 0, 1) := by decide +kernel
theorem dX6_bitsOf_1 : decode cX6_bitsOf 1 = .ok (.dconst 0, 1) := by decide +kernel
theorem dX6_bitsOf_2 : decode cX6_bitsOf 2 = .ok (.dcmp .g, 1) := by decide +kernel
theorem dX6_bitsOf_3 : decode cX6_bitsOf 3 = .ok (.ifCond .gt 5, 3) := by decide +kernel
theorem dX6_bitsOf_6 : decode cX6_bitsOf 6 = .ok (.lconst 0, 1) := by decide +kernel
theorem dX6_bitsOf_7 : decode cX6_bitsOf 7 = .ok (.lreturn, 1) := by decide +kernel
theorem dX6_bitsOf_8 : decode cX6_bitsOf 8 = .ok (.dload_n 0, 1) := by decide +kernel
theorem dX6_bitsOf_9 : decode cX6_bitsOf 9 = .ok (.dstore_n 2, 1) := by decide +kernel
theorem dX6_bitsOf_10 : decode cX6_bitsOf 10 = .ok (.ldc2_w 349, 3) := by decide +kernel
theorem dX6_bitsOf_13 : decode cX6_bitsOf 13 = .ok (.lstore 4, 2) := by decide +kernel
theorem dX6_bitsOf_15 : decode cX6_bitsOf 15 = .ok (.iconst 0, 1) := by decide +kernel
theorem dX6_bitsOf_16 : decode cX6_bitsOf 16 = .ok (.istore 6, 2) := by decide +kernel
theorem dX6_bitsOf_18 : decode cX6_bitsOf 18 = .ok (.iload 6, 2) := by decide +kernel
theorem dX6_bitsOf_20 : decode cX6_bitsOf 20 = .ok (.sipush 1023, 3) := by decide +kernel
theorem dX6_bitsOf_23 : decode cX6_bitsOf 23 = .ok (.if_icmp .ge 27, 3) := by decide +kernel
theorem dX6_bitsOf_26 : decode cX6_bitsOf 26 = .ok (.dload_n 2, 1) := by decide +kernel
theorem dX6_bitsOf_27 : decode cX6_bitsOf 27 = .ok (.dconst 1, 1) := by decide +kernel
theorem dX6_bitsOf_28 : decode cX6_bitsOf 28 = .ok (.dcmp .g, 1) := by decide +kernel
theorem dX6_bitsOf_29 : decode cX6_bitsOf 29 = .ok (.ifCond .ge 21, 3) := by decide +kernel
theorem dX6_bitsOf_32 : decode cX6_bitsOf 32 = .ok (.dload_n 2, 1) := by decide +kernel
theorem dX6_bitsOf_33 : decode cX6_bitsOf 33 = .ok (.ldc2_w 351, 3) := by decide +kernel
theorem dX6_bitsOf_36 : decode cX6_bitsOf 36 = .ok (.dmul, 1) := by decide +kernel
theorem dX6_bitsOf_37 : decode cX6_bitsOf 37 = .ok (.dstore_n 2, 1) := by decide +kernel
theorem dX6_bitsOf_38 : decode cX6_bitsOf 38 = .ok (.lload 4, 2) := by decide +kernel
theorem dX6_bitsOf_40 : decode cX6_bitsOf 40 = .ok (.lconst 1, 1) := by decide +kernel
theorem dX6_bitsOf_41 : decode cX6_bitsOf 41 = .ok (.lsub, 1) := by decide +kernel
theorem dX6_bitsOf_42 : decode cX6_bitsOf 42 = .ok (.lstore 4, 2) := by decide +kernel
theorem dX6_bitsOf_44 : decode cX6_bitsOf 44 = .ok (.iinc 6 1, 3) := by decide +kernel
theorem dX6_bitsOf_47 : decode cX6_bitsOf 47 = .ok (.goto (-29), 3) := by decide +kernel
theorem dX6_bitsOf_50 : decode cX6_bitsOf 50 = .ok (.dload_n 2, 1) := by decide +kernel
theorem dX6_bitsOf_51 : decode cX6_bitsOf 51 = .ok (.dconst 1, 1) := by decide +kernel
theorem dX6_bitsOf_52 : decode cX6_bitsOf 52 = .ok (.dsub, 1) := by decide +kernel
theorem dX6_bitsOf_53 : decode cX6_bitsOf 53 = .ok (.ldc2_w 353, 3) := by decide +kernel
theorem dX6_bitsOf_56 : decode cX6_bitsOf 56 = .ok (.dmul, 1) := by decide +kernel
theorem dX6_bitsOf_57 : decode cX6_bitsOf 57 = .ok (.dstore 6, 2) := by decide +kernel
theorem dX6_bitsOf_59 : decode cX6_bitsOf 59 = .ok (.lload 4, 2) := by decide +kernel
theorem dX6_bitsOf_61 : decode cX6_bitsOf 61 = .ok (.bipush 52, 2) := by decide +kernel
theorem dX6_bitsOf_63 : decode cX6_bitsOf 63 = .ok (.lshl, 1) := by decide +kernel
theorem dX6_bitsOf_64 : decode cX6_bitsOf 64 = .ok (.dload 6, 2) := by decide +kernel
theorem dX6_bitsOf_66 : decode cX6_bitsOf 66 = .ok (.d2l, 1) := by decide +kernel
theorem dX6_bitsOf_67 : decode cX6_bitsOf 67 = .ok (.ladd, 1) := by decide +kernel
theorem dX6_bitsOf_68 : decode cX6_bitsOf 68 = .ok (.lreturn, 1) := by decide +kernel
theorem dX6_checkTown_0 : decode cX6_checkTown 0 = .ok (.iload_n 1, 1) := by decide +kernel
theorem dX6_checkTown_1 : decode cX6_checkTown 1 = .ok (.ifCond .lt 14, 3) := by decide +kernel
theorem dX6_checkTown_4 : decode cX6_checkTown 4 = .ok (.iload_n 1, 1) := by decide +kernel
theorem dX6_checkTown_5 : decode cX6_checkTown 5 = .ok (.aload_n 0, 1) := by decide +kernel
theorem dX6_checkTown_6 : decode cX6_checkTown 6 = .ok (.getfield 10, 3) := by decide +kernel
theorem dX6_checkTown_9 : decode cX6_checkTown 9 = .ok (.getfield 59, 3) := by decide +kernel
theorem dX6_checkTown_12 : decode cX6_checkTown 12 = .ok (.if_icmp .lt 14, 3) := by decide +kernel
theorem dX6_checkTown_15 : decode cX6_checkTown 15 = .ok (.new 355, 3) := by decide +kernel
theorem dX6_checkTown_18 : decode cX6_checkTown 18 = .ok (.dup, 1) := by decide +kernel
theorem dX6_checkTown_19 : decode cX6_checkTown 19 = .ok (.ldc_w 357, 3) := by decide +kernel
theorem dX6_checkTown_22 : decode cX6_checkTown 22 = .ok (.invokespecial 359, 3) := by decide +kernel
theorem dX6_checkTown_25 : decode cX6_checkTown 25 = .ok (.athrow, 1) := by decide +kernel
theorem dX6_checkTown_26 : decode cX6_checkTown 26 = .ok (.return_, 1) := by decide +kernel
theorem dX6_checkStep_0 : decode cX6_checkStep 0 = .ok (.iload_n 0, 1) := by decide +kernel
theorem dX6_checkStep_1 : decode cX6_checkStep 1 = .ok (.ifCond .lt 9, 3) := by decide +kernel
theorem dX6_checkStep_4 : decode cX6_checkStep 4 = .ok (.iload_n 0, 1) := by decide +kernel
theorem dX6_checkStep_5 : decode cX6_checkStep 5 = .ok (.bipush 24, 2) := by decide +kernel
theorem dX6_checkStep_7 : decode cX6_checkStep 7 = .ok (.if_icmp .lt 14, 3) := by decide +kernel
theorem dX6_checkStep_10 : decode cX6_checkStep 10 = .ok (.new 355, 3) := by decide +kernel
theorem dX6_checkStep_13 : decode cX6_checkStep 13 = .ok (.dup, 1) := by decide +kernel
theorem dX6_checkStep_14 : decode cX6_checkStep 14 = .ok (.ldc_w 360, 3) := by decide +kernel
theorem dX6_checkStep_17 : decode cX6_checkStep 17 = .ok (.invokespecial 359, 3) := by decide +kernel
theorem dX6_checkStep_20 : decode cX6_checkStep 20 = .ok (.athrow, 1) := by decide +kernel
theorem dX6_checkStep_21 : decode cX6_checkStep 21 = .ok (.return_, 1) := by decide +kernel
theorem dX6_checkTooth_0 : decode cX6_checkTooth 0 = .ok (.iload_n 0, 1) := by decide +kernel
theorem dX6_checkTooth_1 : decode cX6_checkTooth 1 = .ok (.ifCond .lt 9, 3) := by decide +kernel
theorem dX6_checkTooth_4 : decode cX6_checkTooth 4 = .ok (.iload_n 0, 1) := by decide +kernel
theorem dX6_checkTooth_5 : decode cX6_checkTooth 5 = .ok (.bipush 12, 2) := by decide +kernel
theorem dX6_checkTooth_7 : decode cX6_checkTooth 7 = .ok (.if_icmp .lt 14, 3) := by decide +kernel
theorem dX6_checkTooth_10 : decode cX6_checkTooth 10 = .ok (.new 355, 3) := by decide +kernel
theorem dX6_checkTooth_13 : decode cX6_checkTooth 13 = .ok (.dup, 1) := by decide +kernel
theorem dX6_checkTooth_14 : decode cX6_checkTooth 14 = .ok (.ldc_w 362, 3) := by decide +kernel
theorem dX6_checkTooth_17 : decode cX6_checkTooth 17 = .ok (.invokespecial 359, 3) := by decide +kernel
theorem dX6_checkTooth_20 : decode cX6_checkTooth 20 = .ok (.athrow, 1) := by decide +kernel
theorem dX6_checkTooth_21 : decode cX6_checkTooth 21 = .ok (.return_, 1) := by decide +kernel
theorem dX6_checkPlace_0 : decode cX6_checkPlace 0 = .ok (.aload_n 0, 1) := by decide +kernel
theorem dX6_checkPlace_1 : decode cX6_checkPlace 1 = .ok (.iload_n 1, 1) := by decide +kernel
theorem dX6_checkPlace_2 : decode cX6_checkPlace 2 = .ok (.invokevirtual 120, 3) := by decide +kernel
theorem dX6_checkPlace_5 : decode cX6_checkPlace 5 = .ok (.iload_n 2, 1) := by decide +kernel
theorem dX6_checkPlace_6 : decode cX6_checkPlace 6 = .ok (.invokestatic 236, 3) := by decide +kernel
theorem dX6_checkPlace_9 : decode cX6_checkPlace 9 = .ok (.iload_n 3, 1) := by decide +kernel
theorem dX6_checkPlace_10 : decode cX6_checkPlace 10 = .ok (.invokestatic 139, 3) := by decide +kernel
theorem dX6_checkPlace_13 : decode cX6_checkPlace 13 = .ok (.return_, 1) := by decide +kernel
theorem dX6_checkSetting_0 : decode cX6_checkSetting 0 = .ok (.iload_n 0, 1) := by decide +kernel
theorem dX6_checkSetting_1 : decode cX6_checkSetting 1 = .ok (.ifCond .lt 8, 3) := by decide +kernel
theorem dX6_checkSetting_4 : decode cX6_checkSetting 4 = .ok (.iload_n 0, 1) := by decide +kernel
theorem dX6_checkSetting_5 : decode cX6_checkSetting 5 = .ok (.iconst 3, 1) := by decide +kernel
theorem dX6_checkSetting_6 : decode cX6_checkSetting 6 = .ok (.if_icmp .lt 14, 3) := by decide +kernel
theorem dX6_checkSetting_9 : decode cX6_checkSetting 9 = .ok (.new 355, 3) := by decide +kernel
theorem dX6_checkSetting_12 : decode cX6_checkSetting 12 = .ok (.dup, 1) := by decide +kernel
theorem dX6_checkSetting_13 : decode cX6_checkSetting 13 = .ok (.ldc_w 364, 3) := by decide +kernel
theorem dX6_checkSetting_16 : decode cX6_checkSetting 16 = .ok (.invokespecial 359, 3) := by decide +kernel
theorem dX6_checkSetting_19 : decode cX6_checkSetting 19 = .ok (.athrow, 1) := by decide +kernel
theorem dX6_checkSetting_20 : decode cX6_checkSetting 20 = .ok (.return_, 1) := by decide +kernel
theorem dX6_checkDifferent_0 : decode cX6_checkDifferent 0 = .ok (.iload_n 0, 1) := by decide +kernel
theorem dX6_checkDifferent_1 : decode cX6_checkDifferent 1 = .ok (.iload_n 1, 1) := by decide +kernel
theorem dX6_checkDifferent_2 : decode cX6_checkDifferent 2 = .ok (.if_icmp .ne 14, 3) := by decide +kernel
theorem dX6_checkDifferent_5 : decode cX6_checkDifferent 5 = .ok (.new 52, 3) := by decide +kernel
theorem dX6_checkDifferent_8 : decode cX6_checkDifferent 8 = .ok (.dup, 1) := by decide +kernel
theorem dX6_checkDifferent_9 : decode cX6_checkDifferent 9 = .ok (.ldc_w 366, 3) := by decide +kernel
theorem dX6_checkDifferent_12 : decode cX6_checkDifferent 12 = .ok (.invokespecial 56, 3) := by decide +kernel
theorem dX6_checkDifferent_15 : decode cX6_checkDifferent 15 = .ok (.athrow, 1) := by decide +kernel
theorem dX6_checkDifferent_16 : decode cX6_checkDifferent 16 = .ok (.return_, 1) := by decide +kernel
theorem dX6_checkGiven_0 : decode cX6_checkGiven 0 = .ok (.iload_n 0, 1) := by decide +kernel
theorem dX6_checkGiven_1 : decode cX6_checkGiven 1 = .ok (.iconst 1, 1) := by decide +kernel
theorem dX6_checkGiven_2 : decode cX6_checkGiven 2 = .ok (.if_icmp .lt 10, 3) := by decide +kernel
theorem dX6_checkGiven_5 : decode cX6_checkGiven 5 = .ok (.iload_n 0, 1) := by decide +kernel
theorem dX6_checkGiven_6 : decode cX6_checkGiven 6 = .ok (.sipush 200, 3) := by decide +kernel
theorem dX6_checkGiven_9 : decode cX6_checkGiven 9 = .ok (.if_icmp .le 13, 3) := by decide +kernel
theorem dX6_checkGiven_12 : decode cX6_checkGiven 12 = .ok (.new 52, 3) := by decide +kernel
theorem dX6_checkGiven_15 : decode cX6_checkGiven 15 = .ok (.dup, 1) := by decide +kernel
theorem dX6_checkGiven_16 : decode cX6_checkGiven 16 = .ok (.ldc 54, 2) := by decide +kernel
theorem dX6_checkGiven_18 : decode cX6_checkGiven 18 = .ok (.invokespecial 56, 3) := by decide +kernel
theorem dX6_checkGiven_21 : decode cX6_checkGiven 21 = .ok (.athrow, 1) := by decide +kernel
theorem dX6_checkGiven_22 : decode cX6_checkGiven 22 = .ok (.return_, 1) := by decide +kernel
theorem dX6_checkBoxes_0 : decode cX6_checkBoxes 0 = .ok (.aload_n 0, 1) := by decide +kernel
theorem dX6_checkBoxes_1 : decode cX6_checkBoxes 1 = .ok (.getfield 10, 3) := by decide +kernel
theorem dX6_checkBoxes_4 : decode cX6_checkBoxes 4 = .ok (.getfield 76, 3) := by decide +kernel
theorem dX6_checkBoxes_7 : decode cX6_checkBoxes 7 = .ok (.iload_n 1, 1) := by decide +kernel
theorem dX6_checkBoxes_8 : decode cX6_checkBoxes 8 = .ok (.aaload, 1) := by decide +kernel
theorem dX6_checkBoxes_9 : decode cX6_checkBoxes 9 = .ok (.getfield 80, 3) := by decide +kernel
theorem dX6_checkBoxes_12 : decode cX6_checkBoxes 12 = .ok (.iload_n 3, 1) := by decide +kernel
theorem dX6_checkBoxes_13 : decode cX6_checkBoxes 13 = .ok (.if_icmp .ge 14, 3) := by decide +kernel
theorem dX6_checkBoxes_16 : decode cX6_checkBoxes 16 = .ok (.new 63, 3) := by decide +kernel
theorem dX6_checkBoxes_19 : decode cX6_checkBoxes 19 = .ok (.dup, 1) := by decide +kernel
theorem dX6_checkBoxes_20 : decode cX6_checkBoxes 20 = .ok (.ldc_w 368, 3) := by decide +kernel
theorem dX6_checkBoxes_23 : decode cX6_checkBoxes 23 = .ok (.invokespecial 67, 3) := by decide +kernel
theorem dX6_checkBoxes_26 : decode cX6_checkBoxes 26 = .ok (.athrow, 1) := by decide +kernel
theorem dX6_checkBoxes_27 : decode cX6_checkBoxes 27 = .ok (.aload_n 0, 1) := by decide +kernel
theorem dX6_checkBoxes_28 : decode cX6_checkBoxes 28 = .ok (.getfield 10, 3) := by decide +kernel
theorem dX6_checkBoxes_31 : decode cX6_checkBoxes 31 = .ok (.getfield 76, 3) := by decide +kernel
theorem dX6_checkBoxes_34 : decode cX6_checkBoxes 34 = .ok (.iload_n 2, 1) := by decide +kernel
theorem dX6_checkBoxes_35 : decode cX6_checkBoxes 35 = .ok (.aaload, 1) := by decide +kernel
theorem dX6_checkBoxes_36 : decode cX6_checkBoxes 36 = .ok (.getfield 80, 3) := by decide +kernel
theorem dX6_checkBoxes_39 : decode cX6_checkBoxes 39 = .ok (.iload_n 3, 1) := by decide +kernel
theorem dX6_checkBoxes_40 : decode cX6_checkBoxes 40 = .ok (.iadd, 1) := by decide +kernel
theorem dX6_checkBoxes_41 : decode cX6_checkBoxes 41 = .ok (.aload_n 0, 1) := by decide +kernel
theorem dX6_checkBoxes_42 : decode cX6_checkBoxes 42 = .ok (.getfield 10, 3) := by decide +kernel
theorem dX6_checkBoxes_45 : decode cX6_checkBoxes 45 = .ok (.getfield 68, 3) := by decide +kernel
theorem dX6_checkBoxes_48 : decode cX6_checkBoxes 48 = .ok (.iconst 2, 1) := by decide +kernel
theorem dX6_checkBoxes_49 : decode cX6_checkBoxes 49 = .ok (.iaload, 1) := by decide +kernel
theorem dX6_checkBoxes_50 : decode cX6_checkBoxes 50 = .ok (.if_icmp .le 14, 3) := by decide +kernel
theorem dX6_checkBoxes_53 : decode cX6_checkBoxes 53 = .ok (.new 63, 3) := by decide +kernel
theorem dX6_checkBoxes_56 : decode cX6_checkBoxes 56 = .ok (.dup, 1) := by decide +kernel
theorem dX6_checkBoxes_57 : decode cX6_checkBoxes 57 = .ok (.ldc_w 370, 3) := by decide +kernel
theorem dX6_checkBoxes_60 : decode cX6_checkBoxes 60 = .ok (.invokespecial 67, 3) := by decide +kernel
theorem dX6_checkBoxes_63 : decode cX6_checkBoxes 63 = .ok (.athrow, 1) := by decide +kernel
theorem dX6_checkBoxes_64 : decode cX6_checkBoxes 64 = .ok (.return_, 1) := by decide +kernel
theorem dX6_isPlace_0 : decode cX6_isPlace 0 = .ok (.iload_n 0, 1) := by decide +kernel
theorem dX6_isPlace_1 : decode cX6_isPlace 1 = .ok (.bipush 10, 2) := by decide +kernel
theorem dX6_isPlace_3 : decode cX6_isPlace 3 = .ok (.if_icmp .lt 13, 3) := by decide +kernel
theorem dX6_isPlace_6 : decode cX6_isPlace 6 = .ok (.iload_n 0, 1) := by decide +kernel
theorem dX6_isPlace_7 : decode cX6_isPlace 7 = .ok (.bipush 16, 2) := by decide +kernel
theorem dX6_isPlace_9 : decode cX6_isPlace 9 = .ok (.if_icmp .ge 7, 3) := by decide +kernel
theorem dX6_isPlace_12 : decode cX6_isPlace 12 = .ok (.iconst 1, 1) := by decide +kernel
theorem dX6_isPlace_13 : decode cX6_isPlace 13 = .ok (.goto 4, 3) := by decide +kernel
theorem dX6_isPlace_16 : decode cX6_isPlace 16 = .ok (.iconst 0, 1) := by decide +kernel
theorem dX6_isPlace_17 : decode cX6_isPlace 17 = .ok (.ireturn, 1) := by decide +kernel
theorem dX6_saveState_0 : decode cX6_saveState 0 = .ok (.aload_n 0, 1) := by decide +kernel
theorem dX6_saveState_1 : decode cX6_saveState 1 = .ok (.getfield 208, 3) := by decide +kernel
theorem dX6_saveState_4 : decode cX6_saveState 4 = .ok (.bipush 6, 2) := by decide +kernel
theorem dX6_saveState_6 : decode cX6_saveState 6 = .ok (.if_icmp .lt 7, 3) := by decide +kernel
theorem dX6_saveState_9 : decode cX6_saveState 9 = .ok (.aload_n 0, 1) := by decide +kernel
theorem dX6_saveState_10 : decode cX6_saveState 10 = .ok (.invokevirtual 372, 3) := by decide +kernel
theorem dX6_saveState_13 : decode cX6_saveState 13 = .ok (.aload_n 0, 1) := by decide +kernel
theorem dX6_saveState_14 : decode cX6_saveState 14 = .ok (.getfield 16, 3) := by decide +kernel
theorem dX6_saveState_17 : decode cX6_saveState 17 = .ok (.aload_n 0, 1) := by decide +kernel
theorem dX6_saveState_18 : decode cX6_saveState 18 = .ok (.getfield 208, 3) := by decide +kernel
theorem dX6_saveState_21 : decode cX6_saveState 21 = .ok (.aaload, 1) := by decide +kernel
theorem dX6_saveState_22 : decode cX6_saveState 22 = .ok (.aload_n 0, 1) := by decide +kernel
theorem dX6_saveState_23 : decode cX6_saveState 23 = .ok (.getfield 10, 3) := by decide +kernel
theorem dX6_saveState_26 : decode cX6_saveState 26 = .ok (.invokevirtual 213, 3) := by decide +kernel
theorem dX6_saveState_29 : decode cX6_saveState 29 = .ok (.aload_n 0, 1) := by decide +kernel
theorem dX6_saveState_30 : decode cX6_saveState 30 = .ok (.dup, 1) := by decide +kernel
theorem dX6_saveState_31 : decode cX6_saveState 31 = .ok (.getfield 208, 3) := by decide +kernel
theorem dX6_saveState_34 : decode cX6_saveState 34 = .ok (.iconst 1, 1) := by decide +kernel
theorem dX6_saveState_35 : decode cX6_saveState 35 = .ok (.iadd, 1) := by decide +kernel
theorem dX6_saveState_36 : decode cX6_saveState 36 = .ok (.putfield 208, 3) := by decide +kernel
theorem dX6_saveState_39 : decode cX6_saveState 39 = .ok (.return_, 1) := by decide +kernel
theorem dX6_dropOldest_0 : decode cX6_dropOldest 0 = .ok (.aload_n 0, 1) := by decide +kernel
theorem dX6_dropOldest_1 : decode cX6_dropOldest 1 = .ok (.getfield 16, 3) := by decide +kernel
theorem dX6_dropOldest_4 : decode cX6_dropOldest 4 = .ok (.iconst 0, 1) := by decide +kernel
theorem dX6_dropOldest_5 : decode cX6_dropOldest 5 = .ok (.aaload, 1) := by decide +kernel
theorem dX6_dropOldest_6 : decode cX6_dropOldest 6 = .ok (.astore_n 1, 1) := by decide +kernel
theorem dX6_dropOldest_7 : decode cX6_dropOldest 7 = .ok (.iconst 1, 1) := by decide +kernel
theorem dX6_dropOldest_8 : decode cX6_dropOldest 8 = .ok (.istore_n 2, 1) := by decide +kernel
theorem dX6_dropOldest_9 : decode cX6_dropOldest 9 = .ok (.iload_n 2, 1) := by decide +kernel
theorem dX6_dropOldest_10 : decode cX6_dropOldest 10 = .ok (.bipush 6, 2) := by decide +kernel
theorem dX6_dropOldest_12 : decode cX6_dropOldest 12 = .ok (.if_icmp .ge 23, 3) := by decide +kernel
theorem dX6_dropOldest_15 : decode cX6_dropOldest 15 = .ok (.aload_n 0, 1) := by decide +kernel
theorem dX6_dropOldest_16 : decode cX6_dropOldest 16 = .ok (.getfield 16, 3) := by decide +kernel
theorem dX6_dropOldest_19 : decode cX6_dropOldest 19 = .ok (.iload_n 2, 1) := by decide +kernel
theorem dX6_dropOldest_20 : decode cX6_dropOldest 20 = .ok (.iconst 1, 1) := by decide +kernel
theorem dX6_dropOldest_21 : decode cX6_dropOldest 21 = .ok (.isub, 1) := by decide +kernel
theorem dX6_dropOldest_22 : decode cX6_dropOldest 22 = .ok (.aload_n 0, 1) := by decide +kernel
theorem dX6_dropOldest_23 : decode cX6_dropOldest 23 = .ok (.getfield 16, 3) := by decide +kernel
theorem dX6_dropOldest_26 : decode cX6_dropOldest 26 = .ok (.iload_n 2, 1) := by decide +kernel
theorem dX6_dropOldest_27 : decode cX6_dropOldest 27 = .ok (.aaload, 1) := by decide +kernel
theorem dX6_dropOldest_28 : decode cX6_dropOldest 28 = .ok (.aastore, 1) := by decide +kernel
theorem dX6_dropOldest_29 : decode cX6_dropOldest 29 = .ok (.iinc 2 1, 3) := by decide +kernel
theorem dX6_dropOldest_32 : decode cX6_dropOldest 32 = .ok (.goto (-23), 3) := by decide +kernel
theorem dX6_dropOldest_35 : decode cX6_dropOldest 35 = .ok (.aload_n 0, 1) := by decide +kernel
theorem dX6_dropOldest_36 : decode cX6_dropOldest 36 = .ok (.getfield 16, 3) := by decide +kernel
theorem dX6_dropOldest_39 : decode cX6_dropOldest 39 = .ok (.iconst 5, 1) := by decide +kernel
theorem dX6_dropOldest_40 : decode cX6_dropOldest 40 = .ok (.aload_n 1, 1) := by decide +kernel
theorem dX6_dropOldest_41 : decode cX6_dropOldest 41 = .ok (.aastore, 1) := by decide +kernel
theorem dX6_dropOldest_42 : decode cX6_dropOldest 42 = .ok (.aload_n 0, 1) := by decide +kernel
theorem dX6_dropOldest_43 : decode cX6_dropOldest 43 = .ok (.iconst 5, 1) := by decide +kernel
theorem dX6_dropOldest_44 : decode cX6_dropOldest 44 = .ok (.putfield 208, 3) := by decide +kernel
theorem dX6_dropOldest_47 : decode cX6_dropOldest 47 = .ok (.return_, 1) := by decide +kernel
theorem dX6_foresee_0 : decode cX6_foresee 0 = .ok (.aload_n 0, 1) := by decide +kernel
theorem dX6_foresee_1 : decode cX6_foresee 1 = .ok (.getfield 10, 3) := by decide +kernel
theorem dX6_foresee_4 : decode cX6_foresee 4 = .ok (.getfield 76, 3) := by decide +kernel
theorem dX6_foresee_7 : decode cX6_foresee 7 = .ok (.iload_n 1, 1) := by decide +kernel
theorem dX6_foresee_8 : decode cX6_foresee 8 = .ok (.aaload, 1) := by decide +kernel
theorem dX6_foresee_9 : decode cX6_foresee 9 = .ok (.astore_n 2, 1) := by decide +kernel
theorem dX6_foresee_10 : decode cX6_foresee 10 = .ok (.aload_n 0, 1) := by decide +kernel
theorem dX6_foresee_11 : decode cX6_foresee 11 = .ok (.getfield 30, 3) := by decide +kernel
theorem dX6_foresee_14 : decode cX6_foresee 14 = .ok (.aload_n 2, 1) := by decide +kernel
theorem dX6_foresee_15 : decode cX6_foresee 15 = .ok (.aload_n 0, 1) := by decide +kernel
theorem dX6_foresee_16 : decode cX6_foresee 16 = .ok (.getfield 10, 3) := by decide +kernel
theorem dX6_foresee_19 : decode cX6_foresee 19 = .ok (.getfield 68, 3) := by decide +kernel
theorem dX6_foresee_22 : decode cX6_foresee 22 = .ok (.invokevirtual 272, 3) := by decide +kernel
theorem dX6_foresee_25 : decode cX6_foresee 25 = .ok (.aload_n 0, 1) := by decide +kernel
theorem dX6_foresee_26 : decode cX6_foresee 26 = .ok (.getfield 30, 3) := by decide +kernel
theorem dX6_foresee_29 : decode cX6_foresee 29 = .ok (.aload_n 2, 1) := by decide +kernel
theorem dX6_foresee_30 : decode cX6_foresee 30 = .ok (.getfield 207, 3) := by decide +kernel
theorem dX6_foresee_33 : decode cX6_foresee 33 = .ok (.invokevirtual 276, 3) := by decide +kernel
theorem dX6_foresee_36 : decode cX6_foresee 36 = .ok (.return_, 1) := by decide +kernel
theorem dX6_copyRow_0 : decode cX6_copyRow 0 = .ok (.aload_n 0, 1) := by decide +kernel
theorem dX6_copyRow_1 : decode cX6_copyRow 1 = .ok (.iconst 0, 1) := by decide +kernel
theorem dX6_copyRow_2 : decode cX6_copyRow 2 = .ok (.aload_n 1, 1) := by decide +kernel
theorem dX6_copyRow_3 : decode cX6_copyRow 3 = .ok (.iconst 0, 1) := by decide +kernel
theorem dX6_copyRow_4 : decode cX6_copyRow 4 = .ok (.aload_n 0, 1) := by decide +kernel
theorem dX6_copyRow_5 : decode cX6_copyRow 5 = .ok (.arraylength, 1) := by decide +kernel
theorem dX6_copyRow_6 : decode cX6_copyRow 6 = .ok (.aload_n 1, 1) := by decide +kernel
theorem dX6_copyRow_7 : decode cX6_copyRow 7 = .ok (.arraylength, 1) := by decide +kernel
theorem dX6_copyRow_8 : decode cX6_copyRow 8 = .ok (.invokestatic 375, 3) := by decide +kernel
theorem dX6_copyRow_11 : decode cX6_copyRow 11 = .ok (.invokestatic 380, 3) := by decide +kernel
theorem dX6_copyRow_14 : decode cX6_copyRow 14 = .ok (.return_, 1) := by decide +kernel
theorem dX6_sizeOf_0 : decode cX6_sizeOf 0 = .ok (.iconst 0, 1) := by decide +kernel
theorem dX6_sizeOf_1 : decode cX6_sizeOf 1 = .ok (.istore_n 1, 1) := by decide +kernel
theorem dX6_sizeOf_2 : decode cX6_sizeOf 2 = .ok (.aload_n 0, 1) := by decide +kernel
theorem dX6_sizeOf_3 : decode cX6_sizeOf 3 = .ok (.astore_n 2, 1) := by decide +kernel
theorem dX6_sizeOf_4 : decode cX6_sizeOf 4 = .ok (.aload_n 2, 1) := by decide +kernel
theorem dX6_sizeOf_5 : decode cX6_sizeOf 5 = .ok (.arraylength, 1) := by decide +kernel
theorem dX6_sizeOf_6 : decode cX6_sizeOf 6 = .ok (.istore_n 3, 1) := by decide +kernel
theorem dX6_sizeOf_7 : decode cX6_sizeOf 7 = .ok (.iconst 0, 1) := by decide +kernel
theorem dX6_sizeOf_8 : decode cX6_sizeOf 8 = .ok (.istore 4, 2) := by decide +kernel
theorem dX6_sizeOf_10 : decode cX6_sizeOf 10 = .ok (.iload 4, 2) := by decide +kernel
theorem dX6_sizeOf_12 : decode cX6_sizeOf 12 = .ok (.iload_n 3, 1) := by decide +kernel
theorem dX6_sizeOf_13 : decode cX6_sizeOf 13 = .ok (.if_icmp .ge 23, 3) := by decide +kernel
theorem dX6_sizeOf_16 : decode cX6_sizeOf 16 = .ok (.aload_n 2, 1) := by decide +kernel
theorem dX6_sizeOf_17 : decode cX6_sizeOf 17 = .ok (.iload 4, 2) := by decide +kernel
theorem dX6_sizeOf_19 : decode cX6_sizeOf 19 = .ok (.iaload, 1) := by decide +kernel
theorem dX6_sizeOf_20 : decode cX6_sizeOf 20 = .ok (.istore 5, 2) := by decide +kernel
theorem dX6_sizeOf_22 : decode cX6_sizeOf 22 = .ok (.iload_n 1, 1) := by decide +kernel
theorem dX6_sizeOf_23 : decode cX6_sizeOf 23 = .ok (.iload 5, 2) := by decide +kernel
theorem dX6_sizeOf_25 : decode cX6_sizeOf 25 = .ok (.invokestatic 386, 3) := by decide +kernel
theorem dX6_sizeOf_28 : decode cX6_sizeOf 28 = .ok (.iadd, 1) := by decide +kernel
theorem dX6_sizeOf_29 : decode cX6_sizeOf 29 = .ok (.istore_n 1, 1) := by decide +kernel
theorem dX6_sizeOf_30 : decode cX6_sizeOf 30 = .ok (.iinc 4 1, 3) := by decide +kernel
theorem dX6_sizeOf_33 : decode cX6_sizeOf 33 = .ok (.goto (-23), 3) := by decide +kernel
theorem dX6_sizeOf_36 : decode cX6_sizeOf 36 = .ok (.iload_n 1, 1) := by decide +kernel
theorem dX6_sizeOf_37 : decode cX6_sizeOf 37 = .ok (.ireturn, 1) := by decide +kernel
theorem dX6_sharedBy_0 : decode cX6_sharedBy 0 = .ok (.iconst 0, 1) := by decide +kernel
theorem dX6_sharedBy_1 : decode cX6_sharedBy 1 = .ok (.istore_n 2, 1) := by decide +kernel
theorem dX6_sharedBy_2 : decode cX6_sharedBy 2 = .ok (.iconst 0, 1) := by decide +kernel
theorem dX6_sharedBy_3 : decode cX6_sharedBy 3 = .ok (.istore_n 3, 1) := by decide +kernel
theorem dX6_sharedBy_4 : decode cX6_sharedBy 4 = .ok (.iload_n 3, 1) := by decide +kernel
theorem dX6_sharedBy_5 : decode cX6_sharedBy 5 = .ok (.bipush 24, 2) := by decide +kernel
theorem dX6_sharedBy_7 : decode cX6_sharedBy 7 = .ok (.if_icmp .ge 22, 3) := by decide +kernel
theorem dX6_sharedBy_10 : decode cX6_sharedBy 10 = .ok (.iload_n 2, 1) := by decide +kernel
theorem dX6_sharedBy_11 : decode cX6_sharedBy 11 = .ok (.aload_n 0, 1) := by decide +kernel
theorem dX6_sharedBy_12 : decode cX6_sharedBy 12 = .ok (.iload_n 3, 1) := by decide +kernel
theorem dX6_sharedBy_13 : decode cX6_sharedBy 13 = .ok (.iaload, 1) := by decide +kernel
theorem dX6_sharedBy_14 : decode cX6_sharedBy 14 = .ok (.aload_n 1, 1) := by decide +kernel
theorem dX6_sharedBy_15 : decode cX6_sharedBy 15 = .ok (.iload_n 3, 1) := by decide +kernel
theorem dX6_sharedBy_16 : decode cX6_sharedBy 16 = .ok (.iaload, 1) := by decide +kernel
theorem dX6_sharedBy_17 : decode cX6_sharedBy 17 = .ok (.iand, 1) := by decide +kernel
theorem dX6_sharedBy_18 : decode cX6_sharedBy 18 = .ok (.invokestatic 386, 3) := by decide +kernel
theorem dX6_sharedBy_21 : decode cX6_sharedBy 21 = .ok (.iadd, 1) := by decide +kernel
theorem dX6_sharedBy_22 : decode cX6_sharedBy 22 = .ok (.istore_n 2, 1) := by decide +kernel
theorem dX6_sharedBy_23 : decode cX6_sharedBy 23 = .ok (.iinc 3 1, 3) := by decide +kernel
theorem dX6_sharedBy_26 : decode cX6_sharedBy 26 = .ok (.goto (-22), 3) := by decide +kernel
theorem dX6_sharedBy_29 : decode cX6_sharedBy 29 = .ok (.iload_n 2, 1) := by decide +kernel
theorem dX6_sharedBy_30 : decode cX6_sharedBy 30 = .ok (.ireturn, 1) := by decide +kernel
theorem dX6_dullTeeth_0 : decode cX6_dullTeeth 0 = .ok (.iconst 0, 1) := by decide +kernel
theorem dX6_dullTeeth_1 : decode cX6_dullTeeth 1 = .ok (.istore_n 2, 1) := by decide +kernel
theorem dX6_dullTeeth_2 : decode cX6_dullTeeth 2 = .ok (.aload_n 0, 1) := by decide +kernel
theorem dX6_dullTeeth_3 : decode cX6_dullTeeth 3 = .ok (.astore_n 3, 1) := by decide +kernel
theorem dX6_dullTeeth_4 : decode cX6_dullTeeth 4 = .ok (.aload_n 3, 1) := by decide +kernel
theorem dX6_dullTeeth_5 : decode cX6_dullTeeth 5 = .ok (.arraylength, 1) := by decide +kernel
theorem dX6_dullTeeth_6 : decode cX6_dullTeeth 6 = .ok (.istore 4, 2) := by decide +kernel
theorem dX6_dullTeeth_8 : decode cX6_dullTeeth 8 = .ok (.iconst 0, 1) := by decide +kernel
theorem dX6_dullTeeth_9 : decode cX6_dullTeeth 9 = .ok (.istore 5, 2) := by decide +kernel
theorem dX6_dullTeeth_11 : decode cX6_dullTeeth 11 = .ok (.iload 5, 2) := by decide +kernel
theorem dX6_dullTeeth_13 : decode cX6_dullTeeth 13 = .ok (.iload 4, 2) := by decide +kernel
theorem dX6_dullTeeth_15 : decode cX6_dullTeeth 15 = .ok (.if_icmp .ge 24, 3) := by decide +kernel
theorem dX6_dullTeeth_18 : decode cX6_dullTeeth 18 = .ok (.aload_n 3, 1) := by decide +kernel
theorem dX6_dullTeeth_19 : decode cX6_dullTeeth 19 = .ok (.iload 5, 2) := by decide +kernel
theorem dX6_dullTeeth_21 : decode cX6_dullTeeth 21 = .ok (.iaload, 1) := by decide +kernel
theorem dX6_dullTeeth_22 : decode cX6_dullTeeth 22 = .ok (.istore 6, 2) := by decide +kernel
theorem dX6_dullTeeth_24 : decode cX6_dullTeeth 24 = .ok (.iload 6, 2) := by decide +kernel
theorem dX6_dullTeeth_26 : decode cX6_dullTeeth 26 = .ok (.iload_n 1, 1) := by decide +kernel
theorem dX6_dullTeeth_27 : decode cX6_dullTeeth 27 = .ok (.if_icmp .lt 6, 3) := by decide +kernel
theorem dX6_dullTeeth_30 : decode cX6_dullTeeth 30 = .ok (.iinc 2 1, 3) := by decide +kernel
theorem dX6_dullTeeth_33 : decode cX6_dullTeeth 33 = .ok (.iinc 5 1, 3) := by decide +kernel
theorem dX6_dullTeeth_36 : decode cX6_dullTeeth 36 = .ok (.goto (-25), 3) := by decide +kernel
theorem dX6_dullTeeth_39 : decode cX6_dullTeeth 39 = .ok (.iload_n 2, 1) := by decide +kernel
theorem dX6_dullTeeth_40 : decode cX6_dullTeeth 40 = .ok (.ireturn, 1) := by decide +kernel
theorem dX7_init_0 : decode cX7_init 0 = .ok (.aload_n 0, 1) := by decide +kernel
theorem dX7_init_1 : decode cX7_init 1 = .ok (.invokespecial 1, 3) := by decide +kernel
theorem dX7_init_4 : decode cX7_init 4 = .ok (.aload_n 0, 1) := by decide +kernel
theorem dX7_init_5 : decode cX7_init 5 = .ok (.sipush 3424, 3) := by decide +kernel
theorem dX7_init_8 : decode cX7_init 8 = .ok (.newarray .int, 2) := by decide +kernel
theorem dX7_init_10 : decode cX7_init 10 = .ok (.putfield 7, 3) := by decide +kernel
theorem dX7_init_13 : decode cX7_init 13 = .ok (.aload_n 0, 1) := by decide +kernel
theorem dX7_init_14 : decode cX7_init 14 = .ok (.bipush 60, 2) := by decide +kernel
theorem dX7_init_16 : decode cX7_init 16 = .ok (.newarray .int, 2) := by decide +kernel
theorem dX7_init_18 : decode cX7_init 18 = .ok (.putfield 13, 3) := by decide +kernel
theorem dX7_init_21 : decode cX7_init 21 = .ok (.aload_n 0, 1) := by decide +kernel
theorem dX7_init_22 : decode cX7_init 22 = .ok (.bipush 12, 2) := by decide +kernel
theorem dX7_init_24 : decode cX7_init 24 = .ok (.newarray .int, 2) := by decide +kernel
theorem dX7_init_26 : decode cX7_init 26 = .ok (.putfield 16, 3) := by decide +kernel
theorem dX7_init_29 : decode cX7_init 29 = .ok (.aload_n 0, 1) := by decide +kernel
theorem dX7_init_30 : decode cX7_init 30 = .ok (.bipush 24, 2) := by decide +kernel
theorem dX7_init_32 : decode cX7_init 32 = .ok (.newarray .int, 2) := by decide +kernel
theorem dX7_init_34 : decode cX7_init 34 = .ok (.putfield 19, 3) := by decide +kernel
theorem dX7_init_37 : decode cX7_init 37 = .ok (.aload_n 0, 1) := by decide +kernel
theorem dX7_init_38 : decode cX7_init 38 = .ok (.bipush 7, 2) := by decide +kernel
theorem dX7_init_40 : decode cX7_init 40 = .ok (.newarray .int, 2) := by decide +kernel
theorem dX7_init_42 : decode cX7_init 42 = .ok (.putfield 22, 3) := by decide +kernel
theorem dX7_init_45 : decode cX7_init 45 = .ok (.aload_n 0, 1) := by decide +kernel
theorem dX7_init_46 : decode cX7_init 46 = .ok (.bipush 24, 2) := by decide +kernel
theorem dX7_init_48 : decode cX7_init 48 = .ok (.newarray .int, 2) := by decide +kernel
theorem dX7_init_50 : decode cX7_init 50 = .ok (.putfield 25, 3) := by decide +kernel
theorem dX7_init_53 : decode cX7_init 53 = .ok (.aload_n 0, 1) := by decide +kernel
theorem dX7_init_54 : decode cX7_init 54 = .ok (.bipush 36, 2) := by decide +kernel
theorem dX7_init_56 : decode cX7_init 56 = .ok (.newarray .int, 2) := by decide +kernel
theorem dX7_init_58 : decode cX7_init 58 = .ok (.putfield 28, 3) := by decide +kernel
theorem dX7_init_61 : decode cX7_init 61 = .ok (.aload_n 0, 1) := by decide +kernel
theorem dX7_init_62 : decode cX7_init 62 = .ok (.bipush 6, 2) := by decide +kernel
theorem dX7_init_64 : decode cX7_init 64 = .ok (.newarray .int, 2) := by decide +kernel
theorem dX7_init_66 : decode cX7_init 66 = .ok (.putfield 31, 3) := by decide +kernel
theorem dX7_init_69 : decode cX7_init 69 = .ok (.aload_n 0, 1) := by decide +kernel
theorem dX7_init_70 : decode cX7_init 70 = .ok (.bipush 6, 2) := by decide +kernel
theorem dX7_init_72 : decode cX7_init 72 = .ok (.newarray .int, 2) := by decide +kernel
theorem dX7_init_74 : decode cX7_init 74 = .ok (.putfield 34, 3) := by decide +kernel
theorem dX7_init_77 : decode cX7_init 77 = .ok (.aload_n 0, 1) := by decide +kernel
theorem dX7_init_78 : decode cX7_init 78 = .ok (.getfield 7, 3) := by decide +kernel
theorem dX7_init_81 : decode cX7_init 81 = .ok (.sipush 420, 3) := by decide +kernel
theorem dX7_init_84 : decode cX7_init 84 = .ok (.iconst 2, 1) := by decide +kernel
theorem dX7_init_85 : decode cX7_init 85 = .ok (.iastore, 1) := by decide +kernel
theorem dX7_init_86 : decode cX7_init 86 = .ok (.aload_n 0, 1) := by decide +kernel
theorem dX7_init_87 : decode cX7_init 87 = .ok (.getfield 7, 3) := by decide +kernel
theorem dX7_init_90 : decode cX7_init 90 = .ok (.sipush 421, 3) := by decide +kernel
theorem dX7_init_93 : decode cX7_init 93 = .ok (.bipush 10, 2) := by decide +kernel
theorem dX7_init_95 : decode cX7_init 95 = .ok (.iastore, 1) := by decide +kernel
theorem dX7_init_96 : decode cX7_init 96 = .ok (.aload_n 0, 1) := by decide +kernel
theorem dX7_init_97 : decode cX7_init 97 = .ok (.getfield 7, 3) := by decide +kernel
theorem dX7_init_100 : decode cX7_init 100 = .ok (.sipush 422, 3) := by decide +kernel
theorem dX7_init_103 : decode cX7_init 103 = .ok (.sipush 200, 3) := by decide +kernel
theorem dX7_init_106 : decode cX7_init 106 = .ok (.iastore, 1) := by decide +kernel
theorem dX7_init_107 : decode cX7_init 107 = .ok (.return_, 1) := by decide +kernel
theorem dX7_thrown_0 : decode cX7_thrown 0 = .ok (.aload_n 0, 1) := by decide +kernel
theorem dX7_thrown_1 : decode cX7_thrown 1 = .ok (.getfield 37, 3) := by decide +kernel
theorem dX7_thrown_4 : decode cX7_thrown 4 = .ok (.ireturn, 1) := by decide +kernel
theorem dX7_in_0 : decode cX7_in 0 = .ok (.iload_n 0, 1) := by decide +kernel
theorem dX7_in_1 : decode cX7_in 1 = .ok (.iload_n 1, 1) := by decide +kernel
theorem dX7_in_2 : decode cX7_in 2 = .ok (.if_icmp .lt 12, 3) := by decide +kernel
theorem dX7_in_5 : decode cX7_in 5 = .ok (.iload_n 0, 1) := by decide +kernel
theorem dX7_in_6 : decode cX7_in 6 = .ok (.iload_n 2, 1) := by decide +kernel
theorem dX7_in_7 : decode cX7_in 7 = .ok (.if_icmp .gt 7, 3) := by decide +kernel
theorem dX7_in_10 : decode cX7_in 10 = .ok (.iconst 1, 1) := by decide +kernel
theorem dX7_in_11 : decode cX7_in 11 = .ok (.goto 4, 3) := by decide +kernel
theorem dX7_in_14 : decode cX7_in 14 = .ok (.iconst 0, 1) := by decide +kernel
theorem dX7_in_15 : decode cX7_in 15 = .ok (.ireturn, 1) := by decide +kernel
theorem dX7_has_0 : decode cX7_has 0 = .ok (.iload_n 0, 1) := by decide +kernel
theorem dX7_has_1 : decode cX7_has 1 = .ok (.iload_n 1, 1) := by decide +kernel
theorem dX7_has_2 : decode cX7_has 2 = .ok (.ishr, 1) := by decide +kernel
theorem dX7_has_3 : decode cX7_has 3 = .ok (.iconst 1, 1) := by decide +kernel
theorem dX7_has_4 : decode cX7_has 4 = .ok (.iand, 1) := by decide +kernel
theorem dX7_has_5 : decode cX7_has 5 = .ok (.iconst 1, 1) := by decide +kernel
theorem dX7_has_6 : decode cX7_has 6 = .ok (.if_icmp .ne 7, 3) := by decide +kernel
theorem dX7_has_9 : decode cX7_has 9 = .ok (.iconst 1, 1) := by decide +kernel
theorem dX7_has_10 : decode cX7_has 10 = .ok (.goto 4, 3) := by decide +kernel
theorem dX7_has_13 : decode cX7_has 13 = .ok (.iconst 0, 1) := by decide +kernel
theorem dX7_has_14 : decode cX7_has 14 = .ok (.ireturn, 1) := by decide +kernel
theorem dX7_bits_0 : decode cX7_bits 0 = .ok (.iconst 0, 1) := by decide +kernel
theorem dX7_bits_1 : decode cX7_bits 1 = .ok (.istore_n 1, 1) := by decide +kernel
theorem dX7_bits_2 : decode cX7_bits 2 = .ok (.iconst 0, 1) := by decide +kernel
theorem dX7_bits_3 : decode cX7_bits 3 = .ok (.istore_n 2, 1) := by decide +kernel
theorem dX7_bits_4 : decode cX7_bits 4 = .ok (.iload_n 2, 1) := by decide +kernel
theorem dX7_bits_5 : decode cX7_bits 5 = .ok (.bipush 12, 2) := by decide +kernel
theorem dX7_bits_7 : decode cX7_bits 7 = .ok (.if_icmp .ge 17, 3) := by decide +kernel
theorem dX7_bits_10 : decode cX7_bits 10 = .ok (.iload_n 1, 1) := by decide +kernel
theorem dX7_bits_11 : decode cX7_bits 11 = .ok (.iload_n 0, 1) := by decide +kernel
theorem dX7_bits_12 : decode cX7_bits 12 = .ok (.iload_n 2, 1) := by decide +kernel
theorem dX7_bits_13 : decode cX7_bits 13 = .ok (.ishr, 1) := by decide +kernel
theorem dX7_bits_14 : decode cX7_bits 14 = .ok (.iconst 1, 1) := by decide +kernel
theorem dX7_bits_15 : decode cX7_bits 15 = .ok (.iand, 1) := by decide +kernel
theorem dX7_bits_16 : decode cX7_bits 16 = .ok (.iadd, 1) := by decide +kernel
theorem dX7_bits_17 : decode cX7_bits 17 = .ok (.istore_n 1, 1) := by decide +kernel
theorem dX7_bits_18 : decode cX7_bits 18 = .ok (.iinc 2 1, 3) := by decide +kernel
theorem dX7_bits_21 : decode cX7_bits 21 = .ok (.goto (-17), 3) := by decide +kernel
theorem dX7_bits_24 : decode cX7_bits 24 = .ok (.iload_n 1, 1) := by decide +kernel
theorem dX7_bits_25 : decode cX7_bits 25 = .ok (.ireturn, 1) := by decide +kernel
theorem dX7_isTown_0 : decode cX7_isTown 0 = .ok (.iload_n 1, 1) := by decide +kernel
theorem dX7_isTown_1 : decode cX7_isTown 1 = .ok (.iconst 0, 1) := by decide +kernel
theorem dX7_isTown_2 : decode cX7_isTown 2 = .ok (.aload_n 0, 1) := by decide +kernel
theorem dX7_isTown_3 : decode cX7_isTown 3 = .ok (.getfield 7, 3) := by decide +kernel
theorem dX7_isTown_6 : decode cX7_isTown 6 = .ok (.sipush 423, 3) := by decide +kernel
theorem dX7_isTown_9 : decode cX7_isTown 9 = .ok (.iaload, 1) := by decide +kernel
theorem dX7_isTown_10 : decode cX7_isTown 10 = .ok (.iconst 1, 1) := by decide +kernel
theorem dX7_isTown_11 : decode cX7_isTown 11 = .ok (.isub, 1) := by decide +kernel
theorem dX7_isTown_12 : decode cX7_isTown 12 = .ok (.invokestatic 41, 3) := by decide +kernel
theorem dX7_isTown_15 : decode cX7_isTown 15 = .ok (.ireturn, 1) := by decide +kernel
theorem dX7_isPlace_0 : decode cX7_isPlace 0 = .ok (.aload_n 0, 1) := by decide +kernel
theorem dX7_isPlace_1 : decode cX7_isPlace 1 = .ok (.iload_n 1, 1) := by decide +kernel
theorem dX7_isPlace_2 : decode cX7_isPlace 2 = .ok (.invokevirtual 45, 3) := by decide +kernel
theorem dX7_isPlace_5 : decode cX7_isPlace 5 = .ok (.ifCond .eq 27, 3) := by decide +kernel
theorem dX7_isPlace_8 : decode cX7_isPlace 8 = .ok (.iload_n 2, 1) := by decide +kernel
theorem dX7_isPlace_9 : decode cX7_isPlace 9 = .ok (.iconst 0, 1) := by decide +kernel
theorem dX7_isPlace_10 : decode cX7_isPlace 10 = .ok (.bipush 23, 2) := by decide +kernel
theorem dX7_isPlace_12 : decode cX7_isPlace 12 = .ok (.invokestatic 41, 3) := by decide +kernel
theorem dX7_isPlace_15 : decode cX7_isPlace 15 = .ok (.ifCond .eq 17, 3) := by decide +kernel
theorem dX7_isPlace_18 : decode cX7_isPlace 18 = .ok (.iload_n 3, 1) := by decide +kernel
theorem dX7_isPlace_19 : decode cX7_isPlace 19 = .ok (.iconst 0, 1) := by decide +kernel
theorem dX7_isPlace_20 : decode cX7_isPlace 20 = .ok (.bipush 11, 2) := by decide +kernel
theorem dX7_isPlace_22 : decode cX7_isPlace 22 = .ok (.invokestatic 41, 3) := by decide +kernel
theorem dX7_isPlace_25 : decode cX7_isPlace 25 = .ok (.ifCond .eq 7, 3) := by decide +kernel
theorem dX7_isPlace_28 : decode cX7_isPlace 28 = .ok (.iconst 1, 1) := by decide +kernel
theorem dX7_isPlace_29 : decode cX7_isPlace 29 = .ok (.goto 4, 3) := by decide +kernel
theorem dX7_isPlace_32 : decode cX7_isPlace 32 = .ok (.iconst 0, 1) := by decide +kernel
theorem dX7_isPlace_33 : decode cX7_isPlace 33 = .ok (.ireturn, 1) := by decide +kernel
theorem dX7_copy_0 : decode cX7_copy 0 = .ok (.iconst 0, 1) := by decide +kernel
theorem dX7_copy_1 : decode cX7_copy 1 = .ok (.istore_n 3, 1) := by decide +kernel
theorem dX7_copy_2 : decode cX7_copy 2 = .ok (.iload_n 3, 1) := by decide +kernel
theorem dX7_copy_3 : decode cX7_copy 3 = .ok (.sipush 428, 3) := by decide +kernel
theorem dX7_copy_6 : decode cX7_copy 6 = .ok (.if_icmp .ge 25, 3) := by decide +kernel
theorem dX7_copy_9 : decode cX7_copy 9 = .ok (.aload_n 0, 1) := by decide +kernel
theorem dX7_copy_10 : decode cX7_copy 10 = .ok (.getfield 7, 3) := by decide +kernel
theorem dX7_copy_13 : decode cX7_copy 13 = .ok (.iload_n 2, 1) := by decide +kernel
theorem dX7_copy_14 : decode cX7_copy 14 = .ok (.iload_n 3, 1) := by decide +kernel
theorem dX7_copy_15 : decode cX7_copy 15 = .ok (.iadd, 1) := by decide +kernel
theorem dX7_copy_16 : decode cX7_copy 16 = .ok (.aload_n 0, 1) := by decide +kernel
theorem dX7_copy_17 : decode cX7_copy 17 = .ok (.getfield 7, 3) := by decide +kernel
theorem dX7_copy_20 : decode cX7_copy 20 = .ok (.iload_n 1, 1) := by decide +kernel
theorem dX7_copy_21 : decode cX7_copy 21 = .ok (.iload_n 3, 1) := by decide +kernel
theorem dX7_copy_22 : decode cX7_copy 22 = .ok (.iadd, 1) := by decide +kernel
theorem dX7_copy_23 : decode cX7_copy 23 = .ok (.iaload, 1) := by decide +kernel
theorem dX7_copy_24 : decode cX7_copy 24 = .ok (.iastore, 1) := by decide +kernel
theorem dX7_copy_25 : decode cX7_copy 25 = .ok (.iinc 3 1, 3) := by decide +kernel
theorem dX7_copy_28 : decode cX7_copy 28 = .ok (.goto (-26), 3) := by decide +kernel
theorem dX7_copy_31 : decode cX7_copy 31 = .ok (.return_, 1) := by decide +kernel
theorem dX7_keep_0 : decode cX7_keep 0 = .ok (.aload_n 0, 1) := by decide +kernel
theorem dX7_keep_1 : decode cX7_keep 1 = .ok (.getfield 49, 3) := by decide +kernel
theorem dX7_keep_4 : decode cX7_keep 4 = .ok (.bipush 6, 2) := by decide +kernel
theorem dX7_keep_6 : decode cX7_keep 6 = .ok (.if_icmp .ne 45, 3) := by decide +kernel
theorem dX7_keep_9 : decode cX7_keep 9 = .ok (.iconst 1, 1) := by decide +kernel
theorem dX7_keep_10 : decode cX7_keep 10 = .ok (.istore_n 1, 1) := by decide +kernel
theorem dX7_keep_11 : decode cX7_keep 11 = .ok (.iload_n 1, 1) := by decide +kernel
theorem dX7_keep_12 : decode cX7_keep 12 = .ok (.bipush 6, 2) := by decide +kernel
theorem dX7_keep_14 : decode cX7_keep 14 = .ok (.if_icmp .ge 27, 3) := by decide +kernel
theorem dX7_keep_17 : decode cX7_keep 17 = .ok (.aload_n 0, 1) := by decide +kernel
theorem dX7_keep_18 : decode cX7_keep 18 = .ok (.sipush 428, 3) := by decide +kernel
theorem dX7_keep_21 : decode cX7_keep 21 = .ok (.sipush 428, 3) := by decide +kernel
theorem dX7_keep_24 : decode cX7_keep 24 = .ok (.iload_n 1, 1) := by decide +kernel
theorem dX7_keep_25 : decode cX7_keep 25 = .ok (.imul, 1) := by decide +kernel
theorem dX7_keep_26 : decode cX7_keep 26 = .ok (.iadd, 1) := by decide +kernel
theorem dX7_keep_27 : decode cX7_keep 27 = .ok (.sipush 428, 3) := by decide +kernel
theorem dX7_keep_30 : decode cX7_keep 30 = .ok (.iload_n 1, 1) := by decide +kernel
theorem dX7_keep_31 : decode cX7_keep 31 = .ok (.imul, 1) := by decide +kernel
theorem dX7_keep_32 : decode cX7_keep 32 = .ok (.invokevirtual 52, 3) := by decide +kernel
theorem dX7_keep_35 : decode cX7_keep 35 = .ok (.iinc 1 1, 3) := by decide +kernel
theorem dX7_keep_38 : decode cX7_keep 38 = .ok (.goto (-27), 3) := by decide +kernel
theorem dX7_keep_41 : decode cX7_keep 41 = .ok (.aload_n 0, 1) := by decide +kernel
theorem dX7_keep_42 : decode cX7_keep 42 = .ok (.dup, 1) := by decide +kernel
theorem dX7_keep_43 : decode cX7_keep 43 = .ok (.getfield 49, 3) := by decide +kernel
theorem dX7_keep_46 : decode cX7_keep 46 = .ok (.iconst 1, 1) := by decide +kernel
theorem dX7_keep_47 : decode cX7_keep 47 = .ok (.isub, 1) := by decide +kernel
theorem dX7_keep_48 : decode cX7_keep 48 = .ok (.putfield 49, 3) := by decide +kernel
theorem dX7_keep_51 : decode cX7_keep 51 = .ok (.aload_n 0, 1) := by decide +kernel
theorem dX7_keep_52 : decode cX7_keep 52 = .ok (.iconst 0, 1) := by decide +kernel
theorem dX7_keep_53 : decode cX7_keep 53 = .ok (.sipush 428, 3) := by decide +kernel
theorem dX7_keep_56 : decode cX7_keep 56 = .ok (.sipush 428, 3) := by decide +kernel
theorem dX7_keep_59 : decode cX7_keep 59 = .ok (.aload_n 0, 1) := by decide +kernel
theorem dX7_keep_60 : decode cX7_keep 60 = .ok (.getfield 49, 3) := by decide +kernel
theorem dX7_keep_63 : decode cX7_keep 63 = .ok (.imul, 1) := by decide +kernel
theorem dX7_keep_64 : decode cX7_keep 64 = .ok (.iadd, 1) := by decide +kernel
theorem dX7_keep_65 : decode cX7_keep 65 = .ok (.invokevirtual 52, 3) := by decide +kernel
theorem dX7_keep_68 : decode cX7_keep 68 = .ok (.aload_n 0, 1) := by decide +kernel
theorem dX7_keep_69 : decode cX7_keep 69 = .ok (.dup, 1) := by decide +kernel
theorem dX7_keep_70 : decode cX7_keep 70 = .ok (.getfield 49, 3) := by decide +kernel
theorem dX7_keep_73 : decode cX7_keep 73 = .ok (.iconst 1, 1) := by decide +kernel
theorem dX7_keep_74 : decode cX7_keep 74 = .ok (.iadd, 1) := by decide +kernel
theorem dX7_keep_75 : decode cX7_keep 75 = .ok (.putfield 49, 3) := by decide +kernel
theorem dX7_keep_78 : decode cX7_keep 78 = .ok (.return_, 1) := by decide +kernel
theorem dX7_undo_0 : decode cX7_undo 0 = .ok (.aload_n 0, 1) := by decide +kernel
theorem dX7_undo_1 : decode cX7_undo 1 = .ok (.aload_n 0, 1) := by decide +kernel
theorem dX7_undo_2 : decode cX7_undo 2 = .ok (.getfield 49, 3) := by decide +kernel
theorem dX7_undo_5 : decode cX7_undo 5 = .ok (.ifCond .ne 7, 3) := by decide +kernel
theorem dX7_undo_8 : decode cX7_undo 8 = .ok (.iconst 1, 1) := by decide +kernel
theorem dX7_undo_9 : decode cX7_undo 9 = .ok (.goto 4, 3) := by decide +kernel
theorem dX7_undo_12 : decode cX7_undo 12 = .ok (.iconst 0, 1) := by decide +kernel
theorem dX7_undo_13 : decode cX7_undo 13 = .ok (.putfield 37, 3) := by decide +kernel
theorem dX7_undo_16 : decode cX7_undo 16 = .ok (.aload_n 0, 1) := by decide +kernel
theorem dX7_undo_17 : decode cX7_undo 17 = .ok (.getfield 37, 3) := by decide +kernel
theorem dX7_undo_20 : decode cX7_undo 20 = .ok (.ifCond .eq 5, 3) := by decide +kernel
theorem dX7_undo_23 : decode cX7_undo 23 = .ok (.iconst 0, 1) := by decide +kernel
theorem dX7_undo_24 : decode cX7_undo 24 = .ok (.ireturn, 1) := by decide +kernel
theorem dX7_undo_25 : decode cX7_undo 25 = .ok (.aload_n 0, 1) := by decide +kernel
theorem dX7_undo_26 : decode cX7_undo 26 = .ok (.dup, 1) := by decide +kernel
theorem dX7_undo_27 : decode cX7_undo 27 = .ok (.getfield 49, 3) := by decide +kernel
theorem dX7_undo_30 : decode cX7_undo 30 = .ok (.iconst 1, 1) := by decide +kernel
theorem dX7_undo_31 : decode cX7_undo 31 = .ok (.isub, 1) := by decide +kernel
theorem dX7_undo_32 : decode cX7_undo 32 = .ok (.putfield 49, 3) := by decide +kernel
theorem dX7_undo_35 : decode cX7_undo 35 = .ok (.aload_n 0, 1) := by decide +kernel
theorem dX7_undo_36 : decode cX7_undo 36 = .ok (.sipush 428, 3) := by decide +kernel
theorem dX7_undo_39 : decode cX7_undo 39 = .ok (.sipush 428, 3) := by decide +kernel
theorem dX7_undo_42 : decode cX7_undo 42 = .ok (.aload_n 0, 1) := by decide +kernel
theorem dX7_undo_43 : decode cX7_undo 43 = .ok (.getfield 49, 3) := by decide +kernel
theorem dX7_undo_46 : decode cX7_undo 46 = .ok (.imul, 1) := by decide +kernel
theorem dX7_undo_47 : decode cX7_undo 47 = .ok (.iadd, 1) := by decide +kernel
theorem dX7_undo_48 : decode cX7_undo 48 = .ok (.iconst 0, 1) := by decide +kernel
theorem dX7_undo_49 : decode cX7_undo 49 = .ok (.invokevirtual 52, 3) := by decide +kernel
theorem dX7_undo_52 : decode cX7_undo 52 = .ok (.aload_n 0, 1) := by decide +kernel
theorem dX7_undo_53 : decode cX7_undo 53 = .ok (.getfield 49, 3) := by decide +kernel
theorem dX7_undo_56 : decode cX7_undo 56 = .ok (.ireturn, 1) := by decide +kernel
theorem dX7_at_0 : decode cX7_at 0 = .ok (.iload_n 0, 1) := by decide +kernel
theorem dX7_at_1 : decode cX7_at 1 = .ok (.bipush 24, 2) := by decide +kernel
theorem dX7_at_3 : decode cX7_at 3 = .ok (.iload_n 1, 1) := by decide +kernel
theorem dX7_at_4 : decode cX7_at 4 = .ok (.imul, 1) := by decide +kernel
theorem dX7_at_5 : decode cX7_at 5 = .ok (.iadd, 1) := by decide +kernel
theorem dX7_at_6 : decode cX7_at 6 = .ok (.iload_n 2, 1) := by decide +kernel
theorem dX7_at_7 : decode cX7_at 7 = .ok (.iadd, 1) := by decide +kernel
theorem dX7_at_8 : decode cX7_at 8 = .ok (.ireturn, 1) := by decide +kernel
theorem dX7_pinsOf_0 : decode cX7_pinsOf 0 = .ok (.iconst 0, 1) := by decide +kernel
theorem dX7_pinsOf_1 : decode cX7_pinsOf 1 = .ok (.istore_n 3, 1) := by decide +kernel
theorem dX7_pinsOf_2 : decode cX7_pinsOf 2 = .ok (.iconst 0, 1) := by decide +kernel
theorem dX7_pinsOf_3 : decode cX7_pinsOf 3 = .ok (.istore 4, 2) := by decide +kernel
theorem dX7_pinsOf_5 : decode cX7_pinsOf 5 = .ok (.iload 4, 2) := by decide +kernel
theorem dX7_pinsOf_7 : decode cX7_pinsOf 7 = .ok (.bipush 24, 2) := by decide +kernel
theorem dX7_pinsOf_9 : decode cX7_pinsOf 9 = .ok (.if_icmp .ge 27, 3) := by decide +kernel
theorem dX7_pinsOf_12 : decode cX7_pinsOf 12 = .ok (.iload_n 3, 1) := by decide +kernel
theorem dX7_pinsOf_13 : decode cX7_pinsOf 13 = .ok (.aload_n 0, 1) := by decide +kernel
theorem dX7_pinsOf_14 : decode cX7_pinsOf 14 = .ok (.getfield 7, 3) := by decide +kernel
theorem dX7_pinsOf_17 : decode cX7_pinsOf 17 = .ok (.iload_n 1, 1) := by decide +kernel
theorem dX7_pinsOf_18 : decode cX7_pinsOf 18 = .ok (.iload_n 2, 1) := by decide +kernel
theorem dX7_pinsOf_19 : decode cX7_pinsOf 19 = .ok (.iload 4, 2) := by decide +kernel
theorem dX7_pinsOf_21 : decode cX7_pinsOf 21 = .ok (.invokestatic 56, 3) := by decide +kernel
theorem dX7_pinsOf_24 : decode cX7_pinsOf 24 = .ok (.iaload, 1) := by decide +kernel
theorem dX7_pinsOf_25 : decode cX7_pinsOf 25 = .ok (.invokestatic 60, 3) := by decide +kernel
theorem dX7_pinsOf_28 : decode cX7_pinsOf 28 = .ok (.iadd, 1) := by decide +kernel
theorem dX7_pinsOf_29 : decode cX7_pinsOf 29 = .ok (.istore_n 3, 1) := by decide +kernel
theorem dX7_pinsOf_30 : decode cX7_pinsOf 30 = .ok (.iinc 4 1, 3) := by decide +kernel
theorem dX7_pinsOf_33 : decode cX7_pinsOf 33 = .ok (.goto (-28), 3) := by decide +kernel
theorem dX7_pinsOf_36 : decode cX7_pinsOf 36 = .ok (.iload_n 3, 1) := by decide +kernel
theorem dX7_pinsOf_37 : decode cX7_pinsOf 37 = .ok (.ireturn, 1) := by decide +kernel
theorem dX7_rightOf_0 : decode cX7_rightOf 0 = .ok (.iconst 0, 1) := by decide +kernel
theorem dX7_rightOf_1 : decode cX7_rightOf 1 = .ok (.istore 4, 2) := by decide +kernel
theorem dX7_rightOf_3 : decode cX7_rightOf 3 = .ok (.iconst 0, 1) := by decide +kernel
theorem dX7_rightOf_4 : decode cX7_rightOf 4 = .ok (.istore 5, 2) := by decide +kernel
theorem dX7_rightOf_6 : decode cX7_rightOf 6 = .ok (.iload 5, 2) := by decide +kernel
theorem dX7_rightOf_8 : decode cX7_rightOf 8 = .ok (.bipush 24, 2) := by decide +kernel
theorem dX7_rightOf_10 : decode cX7_rightOf 10 = .ok (.if_icmp .ge 50, 3) := by decide +kernel
theorem dX7_rightOf_13 : decode cX7_rightOf 13 = .ok (.iload 4, 2) := by decide +kernel
theorem dX7_rightOf_15 : decode cX7_rightOf 15 = .ok (.aload_n 0, 1) := by decide +kernel
theorem dX7_rightOf_16 : decode cX7_rightOf 16 = .ok (.getfield 7, 3) := by decide +kernel
theorem dX7_rightOf_19 : decode cX7_rightOf 19 = .ok (.bipush 6, 2) := by decide +kernel
theorem dX7_rightOf_21 : decode cX7_rightOf 21 = .ok (.iload_n 1, 1) := by decide +kernel
theorem dX7_rightOf_22 : decode cX7_rightOf 22 = .ok (.iload 5, 2) := by decide +kernel
theorem dX7_rightOf_24 : decode cX7_rightOf 24 = .ok (.invokestatic 56, 3) := by decide +kernel
theorem dX7_rightOf_27 : decode cX7_rightOf 27 = .ok (.iaload, 1) := by decide +kernel
theorem dX7_rightOf_28 : decode cX7_rightOf 28 = .ok (.aload_n 0, 1) := by decide +kernel
theorem dX7_rightOf_29 : decode cX7_rightOf 29 = .ok (.getfield 7, 3) := by decide +kernel
theorem dX7_rightOf_32 : decode cX7_rightOf 32 = .ok (.sipush 150, 3) := by decide +kernel
theorem dX7_rightOf_35 : decode cX7_rightOf 35 = .ok (.iload_n 2, 1) := by decide +kernel
theorem dX7_rightOf_36 : decode cX7_rightOf 36 = .ok (.iload 5, 2) := by decide +kernel
theorem dX7_rightOf_38 : decode cX7_rightOf 38 = .ok (.iload_n 3, 1) := by decide +kernel
theorem dX7_rightOf_39 : decode cX7_rightOf 39 = .ok (.iadd, 1) := by decide +kernel
theorem dX7_rightOf_40 : decode cX7_rightOf 40 = .ok (.bipush 24, 2) := by decide +kernel
theorem dX7_rightOf_42 : decode cX7_rightOf 42 = .ok (.irem, 1) := by decide +kernel
theorem dX7_rightOf_43 : decode cX7_rightOf 43 = .ok (.invokestatic 56, 3) := by decide +kernel
theorem dX7_rightOf_46 : decode cX7_rightOf 46 = .ok (.iaload, 1) := by decide +kernel
theorem dX7_rightOf_47 : decode cX7_rightOf 47 = .ok (.iand, 1) := by decide +kernel
theorem dX7_rightOf_48 : decode cX7_rightOf 48 = .ok (.invokestatic 60, 3) := by decide +kernel
theorem dX7_rightOf_51 : decode cX7_rightOf 51 = .ok (.iadd, 1) := by decide +kernel
theorem dX7_rightOf_52 : decode cX7_rightOf 52 = .ok (.istore 4, 2) := by decide +kernel
theorem dX7_rightOf_54 : decode cX7_rightOf 54 = .ok (.iinc 5 1, 3) := by decide +kernel
theorem dX7_rightOf_57 : decode cX7_rightOf 57 = .ok (.goto (-51), 3) := by decide +kernel
theorem dX7_rightOf_60 : decode cX7_rightOf 60 = .ok (.iload 4, 2) := by decide +kernel
theorem dX7_rightOf_62 : decode cX7_rightOf 62 = .ok (.ireturn, 1) := by decide +kernel
theorem dX7_addTown_0 : decode cX7_addTown 0 = .ok (.aload_n 0, 1) := by decide +kernel
theorem dX7_addTown_1 : decode cX7_addTown 1 = .ok (.iload_n 1, 1) := by decide +kernel
theorem dX7_addTown_2 : decode cX7_addTown 2 = .ok (.iconst 0, 1) := by decide +kernel
theorem dX7_addTown_3 : decode cX7_addTown 3 = .ok (.sipush 200, 3) := by decide +kernel
theorem dX7_addTown_6 : decode cX7_addTown 6 = .ok (.invokestatic 41, 3) := by decide +kernel
theorem dX7_addTown_9 : decode cX7_addTown 9 = .ok (.ifCond .ne 7, 3) := by decide +kernel
theorem dX7_addTown_12 : decode cX7_addTown 12 = .ok (.iconst 1, 1) := by decide +kernel
theorem dX7_addTown_13 : decode cX7_addTown 13 = .ok (.goto 33, 3) := by decide +kernel
theorem dX7_addTown_16 : decode cX7_addTown 16 = .ok (.aload_n 0, 1) := by decide +kernel
theorem dX7_addTown_17 : decode cX7_addTown 17 = .ok (.getfield 7, 3) := by decide +kernel
theorem dX7_addTown_20 : decode cX7_addTown 20 = .ok (.sipush 423, 3) := by decide +kernel
theorem dX7_addTown_23 : decode cX7_addTown 23 = .ok (.iaload, 1) := by decide +kernel
theorem dX7_addTown_24 : decode cX7_addTown 24 = .ok (.bipush 6, 2) := by decide +kernel
theorem dX7_addTown_26 : decode cX7_addTown 26 = .ok (.if_icmp .eq 15, 3) := by decide +kernel
theorem dX7_addTown_29 : decode cX7_addTown 29 = .ok (.iload_n 1, 1) := by decide +kernel
theorem dX7_addTown_30 : decode cX7_addTown 30 = .ok (.aload_n 0, 1) := by decide +kernel
theorem dX7_addTown_31 : decode cX7_addTown 31 = .ok (.getfield 7, 3) := by decide +kernel
theorem dX7_addTown_34 : decode cX7_addTown 34 = .ok (.sipush 422, 3) := by decide +kernel
theorem dX7_addTown_37 : decode cX7_addTown 37 = .ok (.iaload, 1) := by decide +kernel
theorem dX7_addTown_38 : decode cX7_addTown 38 = .ok (.if_icmp .le 7, 3) := by decide +kernel
theorem dX7_addTown_41 : decode cX7_addTown 41 = .ok (.iconst 2, 1) := by decide +kernel
theorem dX7_addTown_42 : decode cX7_addTown 42 = .ok (.goto 4, 3) := by decide +kernel
theorem dX7_addTown_45 : decode cX7_addTown 45 = .ok (.iconst 0, 1) := by decide +kernel
theorem dX7_addTown_46 : decode cX7_addTown 46 = .ok (.putfield 37, 3) := by decide +kernel
theorem dX7_addTown_49 : decode cX7_addTown 49 = .ok (.aload_n 0, 1) := by decide +kernel
theorem dX7_addTown_50 : decode cX7_addTown 50 = .ok (.getfield 37, 3) := by decide +kernel
theorem dX7_addTown_53 : decode cX7_addTown 53 = .ok (.ifCond .eq 5, 3) := by decide +kernel
theorem dX7_addTown_56 : decode cX7_addTown 56 = .ok (.iconst 0, 1) := by decide +kernel
theorem dX7_addTown_57 : decode cX7_addTown 57 = .ok (.ireturn, 1) := by decide +kernel
theorem dX7_addTown_58 : decode cX7_addTown 58 = .ok (.aload_n 0, 1) := by decide +kernel
theorem dX7_addTown_59 : decode cX7_addTown 59 = .ok (.invokevirtual 64, 3) := by decide +kernel
theorem dX7_addTown_62 : decode cX7_addTown 62 = .ok (.aload_n 0, 1) := by decide +kernel
theorem dX7_addTown_63 : decode cX7_addTown 63 = .ok (.getfield 7, 3) := by decide +kernel
theorem dX7_addTown_66 : decode cX7_addTown 66 = .ok (.iconst 0, 1) := by decide +kernel
theorem dX7_addTown_67 : decode cX7_addTown 67 = .ok (.aload_n 0, 1) := by decide +kernel
theorem dX7_addTown_68 : decode cX7_addTown 68 = .ok (.getfield 7, 3) := by decide +kernel
theorem dX7_addTown_71 : decode cX7_addTown 71 = .ok (.sipush 423, 3) := by decide +kernel
theorem dX7_addTown_74 : decode cX7_addTown 74 = .ok (.iaload, 1) := by decide +kernel
theorem dX7_addTown_75 : decode cX7_addTown 75 = .ok (.iadd, 1) := by decide +kernel
theorem dX7_addTown_76 : decode cX7_addTown 76 = .ok (.iload_n 1, 1) := by decide +kernel
theorem dX7_addTown_77 : decode cX7_addTown 77 = .ok (.iastore, 1) := by decide +kernel
theorem dX7_addTown_78 : decode cX7_addTown 78 = .ok (.aload_n 0, 1) := by decide +kernel
theorem dX7_addTown_79 : decode cX7_addTown 79 = .ok (.getfield 7, 3) := by decide +kernel
theorem dX7_addTown_82 : decode cX7_addTown 82 = .ok (.sipush 423, 3) := by decide +kernel
theorem dX7_addTown_85 : decode cX7_addTown 85 = .ok (.dup2, 1) := by decide +kernel
theorem dX7_addTown_86 : decode cX7_addTown 86 = .ok (.iaload, 1) := by decide +kernel
theorem dX7_addTown_87 : decode cX7_addTown 87 = .ok (.iconst 1, 1) := by decide +kernel
theorem dX7_addTown_88 : decode cX7_addTown 88 = .ok (.iadd, 1) := by decide +kernel
theorem dX7_addTown_89 : decode cX7_addTown 89 = .ok (.iastore, 1) := by decide +kernel
theorem dX7_addTown_90 : decode cX7_addTown 90 = .ok (.aload_n 0, 1) := by decide +kernel
theorem dX7_addTown_91 : decode cX7_addTown 91 = .ok (.getfield 7, 3) := by decide +kernel
theorem dX7_addTown_94 : decode cX7_addTown 94 = .ok (.sipush 423, 3) := by decide +kernel
theorem dX7_addTown_97 : decode cX7_addTown 97 = .ok (.iaload, 1) := by decide +kernel
theorem dX7_addTown_98 : decode cX7_addTown 98 = .ok (.iconst 1, 1) := by decide +kernel
theorem dX7_addTown_99 : decode cX7_addTown 99 = .ok (.isub, 1) := by decide +kernel
theorem dX7_addTown_100 : decode cX7_addTown 100 = .ok (.ireturn, 1) := by decide +kernel
theorem dX7_set_0 : decode cX7_set 0 = .ok (.iload_n 1, 1) := by decide +kernel
theorem dX7_set_1 : decode cX7_set 1 = .ok (.ifCond .ne 7, 3) := by decide +kernel
theorem dX7_set_4 : decode cX7_set 4 = .ok (.iconst 0, 1) := by decide +kernel
theorem dX7_set_5 : decode cX7_set 5 = .ok (.goto 4, 3) := by decide +kernel
theorem dX7_set_8 : decode cX7_set 8 = .ok (.iconst 1, 1) := by decide +kernel
theorem dX7_set_9 : decode cX7_set 9 = .ok (.istore_n 3, 1) := by decide +kernel
theorem dX7_set_10 : decode cX7_set 10 = .ok (.iload_n 1, 1) := by decide +kernel
theorem dX7_set_11 : decode cX7_set 11 = .ok (.ifCond .ne 8, 3) := by decide +kernel
theorem dX7_set_14 : decode cX7_set 14 = .ok (.bipush 24, 2) := by decide +kernel
theorem dX7_set_16 : decode cX7_set 16 = .ok (.goto 16, 3) := by decide +kernel
theorem dX7_set_19 : decode cX7_set 19 = .ok (.iload_n 1, 1) := by decide +kernel
theorem dX7_set_20 : decode cX7_set 20 = .ok (.iconst 1, 1) := by decide +kernel
theorem dX7_set_21 : decode cX7_set 21 = .ok (.if_icmp .ne 8, 3) := by decide +kernel
theorem dX7_set_24 : decode cX7_set 24 = .ok (.bipush 100, 2) := by decide +kernel
theorem dX7_set_26 : decode cX7_set 26 = .ok (.goto 6, 3) := by decide +kernel
theorem dX7_set_29 : decode cX7_set 29 = .ok (.sipush 999, 3) := by decide +kernel
theorem dX7_set_32 : decode cX7_set 32 = .ok (.istore 4, 2) := by decide +kernel
theorem dX7_set_34 : decode cX7_set 34 = .ok (.aload_n 0, 1) := by decide +kernel
theorem dX7_set_35 : decode cX7_set 35 = .ok (.iload_n 1, 1) := by decide +kernel
theorem dX7_set_36 : decode cX7_set 36 = .ok (.iconst 0, 1) := by decide +kernel
theorem dX7_set_37 : decode cX7_set 37 = .ok (.iconst 2, 1) := by decide +kernel
theorem dX7_set_38 : decode cX7_set 38 = .ok (.invokestatic 41, 3) := by decide +kernel
theorem dX7_set_41 : decode cX7_set 41 = .ok (.ifCond .ne 7, 3) := by decide +kernel
theorem dX7_set_44 : decode cX7_set 44 = .ok (.iconst 1, 1) := by decide +kernel
theorem dX7_set_45 : decode cX7_set 45 = .ok (.goto 18, 3) := by decide +kernel
theorem dX7_set_48 : decode cX7_set 48 = .ok (.iload_n 2, 1) := by decide +kernel
theorem dX7_set_49 : decode cX7_set 49 = .ok (.iload_n 3, 1) := by decide +kernel
theorem dX7_set_50 : decode cX7_set 50 = .ok (.iload 4, 2) := by decide +kernel
theorem dX7_set_52 : decode cX7_set 52 = .ok (.invokestatic 41, 3) := by decide +kernel
theorem dX7_set_55 : decode cX7_set 55 = .ok (.ifCond .ne 7, 3) := by decide +kernel
theorem dX7_set_58 : decode cX7_set 58 = .ok (.iconst 2, 1) := by decide +kernel
theorem dX7_set_59 : decode cX7_set 59 = .ok (.goto 4, 3) := by decide +kernel
theorem dX7_set_62 : decode cX7_set 62 = .ok (.iconst 0, 1) := by decide +kernel
theorem dX7_set_63 : decode cX7_set 63 = .ok (.putfield 37, 3) := by decide +kernel
theorem dX7_set_66 : decode cX7_set 66 = .ok (.aload_n 0, 1) := by decide +kernel
theorem dX7_set_67 : decode cX7_set 67 = .ok (.getfield 37, 3) := by decide +kernel
theorem dX7_set_70 : decode cX7_set 70 = .ok (.ifCond .eq 5, 3) := by decide +kernel
theorem dX7_set_73 : decode cX7_set 73 = .ok (.iconst 0, 1) := by decide +kernel
theorem dX7_set_74 : decode cX7_set 74 = .ok (.ireturn, 1) := by decide +kernel
theorem dX7_set_75 : decode cX7_set 75 = .ok (.aload_n 0, 1) := by decide +kernel
theorem dX7_set_76 : decode cX7_set 76 = .ok (.invokevirtual 64, 3) := by decide +kernel
theorem dX7_set_79 : decode cX7_set 79 = .ok (.aload_n 0, 1) := by decide +kernel
theorem dX7_set_80 : decode cX7_set 80 = .ok (.getfield 7, 3) := by decide +kernel
theorem dX7_set_83 : decode cX7_set 83 = .ok (.sipush 420, 3) := by decide +kernel
theorem dX7_set_86 : decode cX7_set 86 = .ok (.iload_n 1, 1) := by decide +kernel
theorem dX7_set_87 : decode cX7_set 87 = .ok (.iadd, 1) := by decide +kernel
theorem dX7_set_88 : decode cX7_set 88 = .ok (.iaload, 1) := by decide +kernel
theorem dX7_set_89 : decode cX7_set 89 = .ok (.istore 5, 2) := by decide +kernel
theorem dX7_set_91 : decode cX7_set 91 = .ok (.aload_n 0, 1) := by decide +kernel
theorem dX7_set_92 : decode cX7_set 92 = .ok (.getfield 7, 3) := by decide +kernel
theorem dX7_set_95 : decode cX7_set 95 = .ok (.sipush 420, 3) := by decide +kernel
theorem dX7_set_98 : decode cX7_set 98 = .ok (.iload_n 1, 1) := by decide +kernel
theorem dX7_set_99 : decode cX7_set 99 = .ok (.iadd, 1) := by decide +kernel
theorem dX7_set_100 : decode cX7_set 100 = .ok (.iload_n 2, 1) := by decide +kernel
theorem dX7_set_101 : decode cX7_set 101 = .ok (.iastore, 1) := by decide +kernel
theorem dX7_set_102 : decode cX7_set 102 = .ok (.iload 5, 2) := by decide +kernel
theorem dX7_set_104 : decode cX7_set 104 = .ok (.ireturn, 1) := by decide +kernel
theorem dX7_setting_0 : decode cX7_setting 0 = .ok (.aload_n 0, 1) := by decide +kernel
theorem dX7_setting_1 : decode cX7_setting 1 = .ok (.iload_n 1, 1) := by decide +kernel
theorem dX7_setting_2 : decode cX7_setting 2 = .ok (.iconst 0, 1) := by decide +kernel
theorem dX7_setting_3 : decode cX7_setting 3 = .ok (.iconst 2, 1) := by decide +kernel
theorem dX7_setting_4 : decode cX7_setting 4 = .ok (.invokestatic 41, 3) := by decide +kernel
theorem dX7_setting_7 : decode cX7_setting 7 = .ok (.ifCond .eq 7, 3) := by decide +kernel
theorem dX7_setting_10 : decode cX7_setting 10 = .ok (.iconst 0, 1) := by decide +kernel
theorem dX7_setting_11 : decode cX7_setting 11 = .ok (.goto 4, 3) := by decide +kernel
theorem dX7_setting_14 : decode cX7_setting 14 = .ok (.iconst 1, 1) := by decide +kernel
theorem dX7_setting_15 : decode cX7_setting 15 = .ok (.putfield 37, 3) := by decide +kernel
theorem dX7_setting_18 : decode cX7_setting 18 = .ok (.aload_n 0, 1) := by decide +kernel
theorem dX7_setting_19 : decode cX7_setting 19 = .ok (.getfield 37, 3) := by decide +kernel
theorem dX7_setting_22 : decode cX7_setting 22 = .ok (.ifCond .ne 16, 3) := by decide +kernel
theorem dX7_setting_25 : decode cX7_setting 25 = .ok (.aload_n 0, 1) := by decide +kernel
theorem dX7_setting_26 : decode cX7_setting 26 = .ok (.getfield 7, 3) := by decide +kernel
theorem dX7_setting_29 : decode cX7_setting 29 = .ok (.sipush 420, 3) := by decide +kernel
theorem dX7_setting_32 : decode cX7_setting 32 = .ok (.iload_n 1, 1) := by decide +kernel
theorem dX7_setting_33 : decode cX7_setting 33 = .ok (.iadd, 1) := by decide +kernel
theorem dX7_setting_34 : decode cX7_setting 34 = .ok (.iaload, 1) := by decide +kernel
theorem dX7_setting_35 : decode cX7_setting 35 = .ok (.goto 4, 3) := by decide +kernel
theorem dX7_setting_38 : decode cX7_setting 38 = .ok (.iconst 0, 1) := by decide +kernel
theorem dX7_setting_39 : decode cX7_setting 39 = .ok (.ireturn, 1) := by decide +kernel
theorem dX7_put_0 : decode cX7_put 0 = .ok (.aload_n 0, 1) := by decide +kernel
theorem dX7_put_1 : decode cX7_put 1 = .ok (.aload_n 0, 1) := by decide +kernel
theorem dX7_put_2 : decode cX7_put 2 = .ok (.iload_n 1, 1) := by decide +kernel
theorem dX7_put_3 : decode cX7_put 3 = .ok (.iload_n 2, 1) := by decide +kernel
theorem dX7_put_4 : decode cX7_put 4 = .ok (.iload_n 3, 1) := by decide +kernel
theorem dX7_put_5 : decode cX7_put 5 = .ok (.invokevirtual 67, 3) := by decide +kernel
theorem dX7_put_8 : decode cX7_put 8 = .ok (.ifCond .ne 7, 3) := by decide +kernel
theorem dX7_put_11 : decode cX7_put 11 = .ok (.iconst 1, 1) := by decide +kernel
theorem dX7_put_12 : decode cX7_put 12 = .ok (.goto 38, 3) := by decide +kernel
theorem dX7_put_15 : decode cX7_put 15 = .ok (.aload_n 0, 1) := by decide +kernel
theorem dX7_put_16 : decode cX7_put 16 = .ok (.getfield 7, 3) := by decide +kernel
theorem dX7_put_19 : decode cX7_put 19 = .ok (.bipush 6, 2) := by decide +kernel
theorem dX7_put_21 : decode cX7_put 21 = .ok (.iload_n 1, 1) := by decide +kernel
theorem dX7_put_22 : decode cX7_put 22 = .ok (.iload_n 2, 1) := by decide +kernel
theorem dX7_put_23 : decode cX7_put 23 = .ok (.invokestatic 56, 3) := by decide +kernel
theorem dX7_put_26 : decode cX7_put 26 = .ok (.iaload, 1) := by decide +kernel
theorem dX7_put_27 : decode cX7_put 27 = .ok (.iload_n 3, 1) := by decide +kernel
theorem dX7_put_28 : decode cX7_put 28 = .ok (.invokestatic 70, 3) := by decide +kernel
theorem dX7_put_31 : decode cX7_put 31 = .ok (.ifCond .ne 14, 3) := by decide +kernel
theorem dX7_put_34 : decode cX7_put 34 = .ok (.aload_n 0, 1) := by decide +kernel
theorem dX7_put_35 : decode cX7_put 35 = .ok (.getfield 7, 3) := by decide +kernel
theorem dX7_put_38 : decode cX7_put 38 = .ok (.iconst 0, 1) := by decide +kernel
theorem dX7_put_39 : decode cX7_put 39 = .ok (.iload_n 1, 1) := by decide +kernel
theorem dX7_put_40 : decode cX7_put 40 = .ok (.iadd, 1) := by decide +kernel
theorem dX7_put_41 : decode cX7_put 41 = .ok (.iaload, 1) := by decide +kernel
theorem dX7_put_42 : decode cX7_put 42 = .ok (.ifCond .ne 7, 3) := by decide +kernel
theorem dX7_put_45 : decode cX7_put 45 = .ok (.iconst 2, 1) := by decide +kernel
theorem dX7_put_46 : decode cX7_put 46 = .ok (.goto 4, 3) := by decide +kernel
theorem dX7_put_49 : decode cX7_put 49 = .ok (.iconst 0, 1) := by decide +kernel
theorem dX7_put_50 : decode cX7_put 50 = .ok (.putfield 37, 3) := by decide +kernel
theorem dX7_put_53 : decode cX7_put 53 = .ok (.aload_n 0, 1) := by decide +kernel
theorem dX7_put_54 : decode cX7_put 54 = .ok (.getfield 37, 3) := by decide +kernel
theorem dX7_put_57 : decode cX7_put 57 = .ok (.ifCond .eq 5, 3) := by decide +kernel
theorem dX7_put_60 : decode cX7_put 60 = .ok (.iconst 0, 1) := by decide +kernel
theorem dX7_put_61 : decode cX7_put 61 = .ok (.ireturn, 1) := by decide +kernel
theorem dX7_put_62 : decode cX7_put 62 = .ok (.aload_n 0, 1) := by decide +kernel
theorem dX7_put_63 : decode cX7_put 63 = .ok (.invokevirtual 64, 3) := by decide +kernel
theorem dX7_put_66 : decode cX7_put 66 = .ok (.aload_n 0, 1) := by decide +kernel
theorem dX7_put_67 : decode cX7_put 67 = .ok (.getfield 7, 3) := by decide +kernel
theorem dX7_put_70 : decode cX7_put 70 = .ok (.bipush 6, 2) := by decide +kernel
theorem dX7_put_72 : decode cX7_put 72 = .ok (.iload_n 1, 1) := by decide +kernel
theorem dX7_put_73 : decode cX7_put 73 = .ok (.iload_n 2, 1) := by decide +kernel
theorem dX7_put_74 : decode cX7_put 74 = .ok (.invokestatic 56, 3) := by decide +kernel
theorem dX7_put_77 : decode cX7_put 77 = .ok (.dup2, 1) := by decide +kernel
theorem dX7_put_78 : decode cX7_put 78 = .ok (.iaload, 1) := by decide +kernel
theorem dX7_put_79 : decode cX7_put 79 = .ok (.iconst 1, 1) := by decide +kernel
theorem dX7_put_80 : decode cX7_put 80 = .ok (.iload_n 3, 1) := by decide +kernel
theorem dX7_put_81 : decode cX7_put 81 = .ok (.ishl, 1) := by decide +kernel
theorem dX7_put_82 : decode cX7_put 82 = .ok (.ior, 1) := by decide +kernel
theorem dX7_put_83 : decode cX7_put 83 = .ok (.iastore, 1) := by decide +kernel
theorem dX7_put_84 : decode cX7_put 84 = .ok (.aload_n 0, 1) := by decide +kernel
theorem dX7_put_85 : decode cX7_put 85 = .ok (.getfield 7, 3) := by decide +kernel
theorem dX7_put_88 : decode cX7_put 88 = .ok (.iconst 0, 1) := by decide +kernel
theorem dX7_put_89 : decode cX7_put 89 = .ok (.iload_n 1, 1) := by decide +kernel
theorem dX7_put_90 : decode cX7_put 90 = .ok (.iadd, 1) := by decide +kernel
theorem dX7_put_91 : decode cX7_put 91 = .ok (.dup2, 1) := by decide +kernel
theorem dX7_put_92 : decode cX7_put 92 = .ok (.iaload, 1) := by decide +kernel
theorem dX7_put_93 : decode cX7_put 93 = .ok (.iconst 1, 1) := by decide +kernel
theorem dX7_put_94 : decode cX7_put 94 = .ok (.isub, 1) := by decide +kernel
theorem dX7_put_95 : decode cX7_put 95 = .ok (.iastore, 1) := by decide +kernel
theorem dX7_put_96 : decode cX7_put 96 = .ok (.aload_n 0, 1) := by decide +kernel
theorem dX7_put_97 : decode cX7_put 97 = .ok (.bipush 6, 2) := by decide +kernel
theorem dX7_put_99 : decode cX7_put 99 = .ok (.iload_n 1, 1) := by decide +kernel
theorem dX7_put_100 : decode cX7_put 100 = .ok (.invokevirtual 74, 3) := by decide +kernel
theorem dX7_put_103 : decode cX7_put 103 = .ok (.ireturn, 1) := by decide +kernel
theorem dX7_pull_0 : decode cX7_pull 0 = .ok (.aload_n 0, 1) := by decide +kernel
theorem dX7_pull_1 : decode cX7_pull 1 = .ok (.aload_n 0, 1) := by decide +kernel
theorem dX7_pull_2 : decode cX7_pull 2 = .ok (.iload_n 1, 1) := by decide +kernel
theorem dX7_pull_3 : decode cX7_pull 3 = .ok (.iload_n 2, 1) := by decide +kernel
theorem dX7_pull_4 : decode cX7_pull 4 = .ok (.iload_n 3, 1) := by decide +kernel
theorem dX7_pull_5 : decode cX7_pull 5 = .ok (.invokevirtual 67, 3) := by decide +kernel
theorem dX7_pull_8 : decode cX7_pull 8 = .ok (.ifCond .ne 7, 3) := by decide +kernel
theorem dX7_pull_11 : decode cX7_pull 11 = .ok (.iconst 1, 1) := by decide +kernel
theorem dX7_pull_12 : decode cX7_pull 12 = .ok (.goto 46, 3) := by decide +kernel
theorem dX7_pull_15 : decode cX7_pull 15 = .ok (.aload_n 0, 1) := by decide +kernel
theorem dX7_pull_16 : decode cX7_pull 16 = .ok (.getfield 7, 3) := by decide +kernel
theorem dX7_pull_19 : decode cX7_pull 19 = .ok (.bipush 6, 2) := by decide +kernel
theorem dX7_pull_21 : decode cX7_pull 21 = .ok (.iload_n 1, 1) := by decide +kernel
theorem dX7_pull_22 : decode cX7_pull 22 = .ok (.iload_n 2, 1) := by decide +kernel
theorem dX7_pull_23 : decode cX7_pull 23 = .ok (.invokestatic 56, 3) := by decide +kernel
theorem dX7_pull_26 : decode cX7_pull 26 = .ok (.iaload, 1) := by decide +kernel
theorem dX7_pull_27 : decode cX7_pull 27 = .ok (.iload_n 3, 1) := by decide +kernel
theorem dX7_pull_28 : decode cX7_pull 28 = .ok (.invokestatic 70, 3) := by decide +kernel
theorem dX7_pull_31 : decode cX7_pull 31 = .ok (.ifCond .eq 22, 3) := by decide +kernel
theorem dX7_pull_34 : decode cX7_pull 34 = .ok (.aload_n 0, 1) := by decide +kernel
theorem dX7_pull_35 : decode cX7_pull 35 = .ok (.getfield 7, 3) := by decide +kernel
theorem dX7_pull_38 : decode cX7_pull 38 = .ok (.iconst 0, 1) := by decide +kernel
theorem dX7_pull_39 : decode cX7_pull 39 = .ok (.iload_n 1, 1) := by decide +kernel
theorem dX7_pull_40 : decode cX7_pull 40 = .ok (.iadd, 1) := by decide +kernel
theorem dX7_pull_41 : decode cX7_pull 41 = .ok (.iaload, 1) := by decide +kernel
theorem dX7_pull_42 : decode cX7_pull 42 = .ok (.aload_n 0, 1) := by decide +kernel
theorem dX7_pull_43 : decode cX7_pull 43 = .ok (.getfield 7, 3) := by decide +kernel
theorem dX7_pull_46 : decode cX7_pull 46 = .ok (.sipush 422, 3) := by decide +kernel
theorem dX7_pull_49 : decode cX7_pull 49 = .ok (.iaload, 1) := by decide +kernel
theorem dX7_pull_50 : decode cX7_pull 50 = .ok (.if_icmp .lt 7, 3) := by decide +kernel
theorem dX7_pull_53 : decode cX7_pull 53 = .ok (.iconst 2, 1) := by decide +kernel
theorem dX7_pull_54 : decode cX7_pull 54 = .ok (.goto 4, 3) := by decide +kernel
theorem dX7_pull_57 : decode cX7_pull 57 = .ok (.iconst 0, 1) := by decide +kernel
theorem dX7_pull_58 : decode cX7_pull 58 = .ok (.putfield 37, 3) := by decide +kernel
theorem dX7_pull_61 : decode cX7_pull 61 = .ok (.aload_n 0, 1) := by decide +kernel
theorem dX7_pull_62 : decode cX7_pull 62 = .ok (.getfield 37, 3) := by decide +kernel
theorem dX7_pull_65 : decode cX7_pull 65 = .ok (.ifCond .eq 5, 3) := by decide +kernel
theorem dX7_pull_68 : decode cX7_pull 68 = .ok (.iconst 0, 1) := by decide +kernel
theorem dX7_pull_69 : decode cX7_pull 69 = .ok (.ireturn, 1) := by decide +kernel
theorem dX7_pull_70 : decode cX7_pull 70 = .ok (.aload_n 0, 1) := by decide +kernel
theorem dX7_pull_71 : decode cX7_pull 71 = .ok (.invokevirtual 64, 3) := by decide +kernel
theorem dX7_pull_74 : decode cX7_pull 74 = .ok (.aload_n 0, 1) := by decide +kernel
theorem dX7_pull_75 : decode cX7_pull 75 = .ok (.getfield 7, 3) := by decide +kernel
theorem dX7_pull_78 : decode cX7_pull 78 = .ok (.bipush 6, 2) := by decide +kernel
theorem dX7_pull_80 : decode cX7_pull 80 = .ok (.iload_n 1, 1) := by decide +kernel
theorem dX7_pull_81 : decode cX7_pull 81 = .ok (.iload_n 2, 1) := by decide +kernel
theorem dX7_pull_82 : decode cX7_pull 82 = .ok (.invokestatic 56, 3) := by decide +kernel
theorem dX7_pull_85 : decode cX7_pull 85 = .ok (.dup2, 1) := by decide +kernel
theorem dX7_pull_86 : decode cX7_pull 86 = .ok (.iaload, 1) := by decide +kernel
theorem dX7_pull_87 : decode cX7_pull 87 = .ok (.iconst 1, 1) := by decide +kernel
theorem dX7_pull_88 : decode cX7_pull 88 = .ok (.iload_n 3, 1) := by decide +kernel
theorem dX7_pull_89 : decode cX7_pull 89 = .ok (.ishl, 1) := by decide +kernel
theorem dX7_pull_90 : decode cX7_pull 90 = .ok (.iconst (-1), 1) := by decide +kernel
theorem dX7_pull_91 : decode cX7_pull 91 = .ok (.ixor, 1) := by decide +kernel
theorem dX7_pull_92 : decode cX7_pull 92 = .ok (.iand, 1) := by decide +kernel
theorem dX7_pull_93 : decode cX7_pull 93 = .ok (.iastore, 1) := by decide +kernel
theorem dX7_pull_94 : decode cX7_pull 94 = .ok (.aload_n 0, 1) := by decide +kernel
theorem dX7_pull_95 : decode cX7_pull 95 = .ok (.getfield 7, 3) := by decide +kernel
theorem dX7_pull_98 : decode cX7_pull 98 = .ok (.iconst 0, 1) := by decide +kernel
theorem dX7_pull_99 : decode cX7_pull 99 = .ok (.iload_n 1, 1) := by decide +kernel
theorem dX7_pull_100 : decode cX7_pull 100 = .ok (.iadd, 1) := by decide +kernel
theorem dX7_pull_101 : decode cX7_pull 101 = .ok (.dup2, 1) := by decide +kernel
theorem dX7_pull_102 : decode cX7_pull 102 = .ok (.iaload, 1) := by decide +kernel
theorem dX7_pull_103 : decode cX7_pull 103 = .ok (.iconst 1, 1) := by decide +kernel
theorem dX7_pull_104 : decode cX7_pull 104 = .ok (.iadd, 1) := by decide +kernel
theorem dX7_pull_105 : decode cX7_pull 105 = .ok (.iastore, 1) := by decide +kernel
theorem dX7_pull_106 : decode cX7_pull 106 = .ok (.aload_n 0, 1) := by decide +kernel
theorem dX7_pull_107 : decode cX7_pull 107 = .ok (.getfield 7, 3) := by decide +kernel
theorem dX7_pull_110 : decode cX7_pull 110 = .ok (.iconst 0, 1) := by decide +kernel
theorem dX7_pull_111 : decode cX7_pull 111 = .ok (.iload_n 1, 1) := by decide +kernel
theorem dX7_pull_112 : decode cX7_pull 112 = .ok (.iadd, 1) := by decide +kernel
theorem dX7_pull_113 : decode cX7_pull 113 = .ok (.iaload, 1) := by decide +kernel
theorem dX7_pull_114 : decode cX7_pull 114 = .ok (.ireturn, 1) := by decide +kernel
theorem dX7_move_0 : decode cX7_move 0 = .ok (.aload_n 0, 1) := by decide +kernel
theorem dX7_move_1 : decode cX7_move 1 = .ok (.aload_n 0, 1) := by decide +kernel
theorem dX7_move_2 : decode cX7_move 2 = .ok (.iload_n 1, 1) := by decide +kernel
theorem dX7_move_3 : decode cX7_move 3 = .ok (.invokevirtual 45, 3) := by decide +kernel
theorem dX7_move_6 : decode cX7_move 6 = .ok (.ifCond .eq 14, 3) := by decide +kernel
theorem dX7_move_9 : decode cX7_move 9 = .ok (.aload_n 0, 1) := by decide +kernel
theorem dX7_move_10 : decode cX7_move 10 = .ok (.iload_n 2, 1) := by decide +kernel
theorem dX7_move_11 : decode cX7_move 11 = .ok (.iload_n 3, 1) := by decide +kernel
theorem dX7_move_12 : decode cX7_move 12 = .ok (.iload 4, 2) := by decide +kernel
theorem dX7_move_14 : decode cX7_move 14 = .ok (.invokevirtual 67, 3) := by decide +kernel
theorem dX7_move_17 : decode cX7_move 17 = .ok (.ifCond .ne 7, 3) := by decide +kernel
theorem dX7_move_20 : decode cX7_move 20 = .ok (.iconst 1, 1) := by decide +kernel
theorem dX7_move_21 : decode cX7_move 21 = .ok (.goto 57, 3) := by decide +kernel
theorem dX7_move_24 : decode cX7_move 24 = .ok (.iload_n 1, 1) := by decide +kernel
theorem dX7_move_25 : decode cX7_move 25 = .ok (.iload_n 2, 1) := by decide +kernel
theorem dX7_move_26 : decode cX7_move 26 = .ok (.if_icmp .ne 7, 3) := by decide +kernel
theorem dX7_move_29 : decode cX7_move 29 = .ok (.iconst 2, 1) := by decide +kernel
theorem dX7_move_30 : decode cX7_move 30 = .ok (.goto 48, 3) := by decide +kernel
theorem dX7_move_33 : decode cX7_move 33 = .ok (.aload_n 0, 1) := by decide +kernel
theorem dX7_move_34 : decode cX7_move 34 = .ok (.getfield 7, 3) := by decide +kernel
theorem dX7_move_37 : decode cX7_move 37 = .ok (.bipush 6, 2) := by decide +kernel
theorem dX7_move_39 : decode cX7_move 39 = .ok (.iload_n 1, 1) := by decide +kernel
theorem dX7_move_40 : decode cX7_move 40 = .ok (.iload_n 3, 1) := by decide +kernel
theorem dX7_move_41 : decode cX7_move 41 = .ok (.invokestatic 56, 3) := by decide +kernel
theorem dX7_move_44 : decode cX7_move 44 = .ok (.iaload, 1) := by decide +kernel
theorem dX7_move_45 : decode cX7_move 45 = .ok (.iload 4, 2) := by decide +kernel
theorem dX7_move_47 : decode cX7_move 47 = .ok (.invokestatic 70, 3) := by decide +kernel
theorem dX7_move_50 : decode cX7_move 50 = .ok (.ifCond .eq 23, 3) := by decide +kernel
theorem dX7_move_53 : decode cX7_move 53 = .ok (.aload_n 0, 1) := by decide +kernel
theorem dX7_move_54 : decode cX7_move 54 = .ok (.getfield 7, 3) := by decide +kernel
theorem dX7_move_57 : decode cX7_move 57 = .ok (.bipush 6, 2) := by decide +kernel
theorem dX7_move_59 : decode cX7_move 59 = .ok (.iload_n 2, 1) := by decide +kernel
theorem dX7_move_60 : decode cX7_move 60 = .ok (.iload_n 3, 1) := by decide +kernel
theorem dX7_move_61 : decode cX7_move 61 = .ok (.invokestatic 56, 3) := by decide +kernel
theorem dX7_move_64 : decode cX7_move 64 = .ok (.iaload, 1) := by decide +kernel
theorem dX7_move_65 : decode cX7_move 65 = .ok (.iload 4, 2) := by decide +kernel
theorem dX7_move_67 : decode cX7_move 67 = .ok (.invokestatic 70, 3) := by decide +kernel
theorem dX7_move_70 : decode cX7_move 70 = .ok (.ifCond .eq 7, 3) := by decide +kernel
theorem dX7_move_73 : decode cX7_move 73 = .ok (.iconst 3, 1) := by decide +kernel
theorem dX7_move_74 : decode cX7_move 74 = .ok (.goto 4, 3) := by decide +kernel
theorem dX7_move_77 : decode cX7_move 77 = .ok (.iconst 0, 1) := by decide +kernel
theorem dX7_move_78 : decode cX7_move 78 = .ok (.putfield 37, 3) := by decide +kernel
theorem dX7_move_81 : decode cX7_move 81 = .ok (.aload_n 0, 1) := by decide +kernel
theorem dX7_move_82 : decode cX7_move 82 = .ok (.getfield 37, 3) := by decide +kernel
theorem dX7_move_85 : decode cX7_move 85 = .ok (.ifCond .eq 5, 3) := by decide +kernel
theorem dX7_move_88 : decode cX7_move 88 = .ok (.iconst 0, 1) := by decide +kernel
theorem dX7_move_89 : decode cX7_move 89 = .ok (.ireturn, 1) := by decide +kernel
theorem dX7_move_90 : decode cX7_move 90 = .ok (.aload_n 0, 1) := by decide +kernel
theorem dX7_move_91 : decode cX7_move 91 = .ok (.invokevirtual 64, 3) := by decide +kernel
theorem dX7_move_94 : decode cX7_move 94 = .ok (.aload_n 0, 1) := by decide +kernel
theorem dX7_move_95 : decode cX7_move 95 = .ok (.getfield 7, 3) := by decide +kernel
theorem dX7_move_98 : decode cX7_move 98 = .ok (.bipush 6, 2) := by decide +kernel
theorem dX7_move_100 : decode cX7_move 100 = .ok (.iload_n 1, 1) := by decide +kernel
theorem dX7_move_101 : decode cX7_move 101 = .ok (.iload_n 3, 1) := by decide +kernel
theorem dX7_move_102 : decode cX7_move 102 = .ok (.invokestatic 56, 3) := by decide +kernel
theorem dX7_move_105 : decode cX7_move 105 = .ok (.dup2, 1) := by decide +kernel
theorem dX7_move_106 : decode cX7_move 106 = .ok (.iaload, 1) := by decide +kernel
theorem dX7_move_107 : decode cX7_move 107 = .ok (.iconst 1, 1) := by decide +kernel
theorem dX7_move_108 : decode cX7_move 108 = .ok (.iload 4, 2) := by decide +kernel
theorem dX7_move_110 : decode cX7_move 110 = .ok (.ishl, 1) := by decide +kernel
theorem dX7_move_111 : decode cX7_move 111 = .ok (.ixor, 1) := by decide +kernel
theorem dX7_move_112 : decode cX7_move 112 = .ok (.iastore, 1) := by decide +kernel
theorem dX7_move_113 : decode cX7_move 113 = .ok (.aload_n 0, 1) := by decide +kernel
theorem dX7_move_114 : decode cX7_move 114 = .ok (.getfield 7, 3) := by decide +kernel
theorem dX7_move_117 : decode cX7_move 117 = .ok (.bipush 6, 2) := by decide +kernel
theorem dX7_move_119 : decode cX7_move 119 = .ok (.iload_n 2, 1) := by decide +kernel
theorem dX7_move_120 : decode cX7_move 120 = .ok (.iload_n 3, 1) := by decide +kernel
theorem dX7_move_121 : decode cX7_move 121 = .ok (.invokestatic 56, 3) := by decide +kernel
theorem dX7_move_124 : decode cX7_move 124 = .ok (.dup2, 1) := by decide +kernel
theorem dX7_move_125 : decode cX7_move 125 = .ok (.iaload, 1) := by decide +kernel
theorem dX7_move_126 : decode cX7_move 126 = .ok (.iconst 1, 1) := by decide +kernel
theorem dX7_move_127 : decode cX7_move 127 = .ok (.iload 4, 2) := by decide +kernel
theorem dX7_move_129 : decode cX7_move 129 = .ok (.ishl, 1) := by decide +kernel
theorem dX7_move_130 : decode cX7_move 130 = .ok (.ixor, 1) := by decide +kernel
theorem dX7_move_131 : decode cX7_move 131 = .ok (.iastore, 1) := by decide +kernel
theorem dX7_move_132 : decode cX7_move 132 = .ok (.aload_n 0, 1) := by decide +kernel
theorem dX7_move_133 : decode cX7_move 133 = .ok (.bipush 6, 2) := by decide +kernel
theorem dX7_move_135 : decode cX7_move 135 = .ok (.iload_n 2, 1) := by decide +kernel
theorem dX7_move_136 : decode cX7_move 136 = .ok (.invokevirtual 74, 3) := by decide +kernel
theorem dX7_move_139 : decode cX7_move 139 = .ok (.ireturn, 1) := by decide +kernel
theorem dX7_trade_0 : decode cX7_trade 0 = .ok (.aload_n 0, 1) := by decide +kernel
theorem dX7_trade_1 : decode cX7_trade 1 = .ok (.aload_n 0, 1) := by decide +kernel
theorem dX7_trade_2 : decode cX7_trade 2 = .ok (.iload_n 1, 1) := by decide +kernel
theorem dX7_trade_3 : decode cX7_trade 3 = .ok (.invokevirtual 45, 3) := by decide +kernel
theorem dX7_trade_6 : decode cX7_trade 6 = .ok (.ifCond .eq 11, 3) := by decide +kernel
theorem dX7_trade_9 : decode cX7_trade 9 = .ok (.aload_n 0, 1) := by decide +kernel
theorem dX7_trade_10 : decode cX7_trade 10 = .ok (.iload_n 2, 1) := by decide +kernel
theorem dX7_trade_11 : decode cX7_trade 11 = .ok (.invokevirtual 45, 3) := by decide +kernel
theorem dX7_trade_14 : decode cX7_trade 14 = .ok (.ifCond .ne 7, 3) := by decide +kernel
theorem dX7_trade_17 : decode cX7_trade 17 = .ok (.iconst 1, 1) := by decide +kernel
theorem dX7_trade_18 : decode cX7_trade 18 = .ok (.goto 13, 3) := by decide +kernel
theorem dX7_trade_21 : decode cX7_trade 21 = .ok (.iload_n 1, 1) := by decide +kernel
theorem dX7_trade_22 : decode cX7_trade 22 = .ok (.iload_n 2, 1) := by decide +kernel
theorem dX7_trade_23 : decode cX7_trade 23 = .ok (.if_icmp .ne 7, 3) := by decide +kernel
theorem dX7_trade_26 : decode cX7_trade 26 = .ok (.iconst 2, 1) := by decide +kernel
theorem dX7_trade_27 : decode cX7_trade 27 = .ok (.goto 4, 3) := by decide +kernel
theorem dX7_trade_30 : decode cX7_trade 30 = .ok (.iconst 0, 1) := by decide +kernel
theorem dX7_trade_31 : decode cX7_trade 31 = .ok (.putfield 37, 3) := by decide +kernel
theorem dX7_trade_34 : decode cX7_trade 34 = .ok (.aload_n 0, 1) := by decide +kernel
theorem dX7_trade_35 : decode cX7_trade 35 = .ok (.getfield 37, 3) := by decide +kernel
theorem dX7_trade_38 : decode cX7_trade 38 = .ok (.ifCond .eq 5, 3) := by decide +kernel
theorem dX7_trade_41 : decode cX7_trade 41 = .ok (.iconst 0, 1) := by decide +kernel
theorem dX7_trade_42 : decode cX7_trade 42 = .ok (.ireturn, 1) := by decide +kernel
theorem dX7_trade_43 : decode cX7_trade 43 = .ok (.aload_n 0, 1) := by decide +kernel
theorem dX7_trade_44 : decode cX7_trade 44 = .ok (.invokevirtual 64, 3) := by decide +kernel
theorem dX7_trade_47 : decode cX7_trade 47 = .ok (.iconst 0, 1) := by decide +kernel
theorem dX7_trade_48 : decode cX7_trade 48 = .ok (.istore_n 3, 1) := by decide +kernel
theorem dX7_trade_49 : decode cX7_trade 49 = .ok (.iload_n 3, 1) := by decide +kernel
theorem dX7_trade_50 : decode cX7_trade 50 = .ok (.bipush 24, 2) := by decide +kernel
theorem dX7_trade_52 : decode cX7_trade 52 = .ok (.if_icmp .ge 61, 3) := by decide +kernel
theorem dX7_trade_55 : decode cX7_trade 55 = .ok (.aload_n 0, 1) := by decide +kernel
theorem dX7_trade_56 : decode cX7_trade 56 = .ok (.getfield 7, 3) := by decide +kernel
theorem dX7_trade_59 : decode cX7_trade 59 = .ok (.bipush 6, 2) := by decide +kernel
theorem dX7_trade_61 : decode cX7_trade 61 = .ok (.iload_n 1, 1) := by decide +kernel
theorem dX7_trade_62 : decode cX7_trade 62 = .ok (.iload_n 3, 1) := by decide +kernel
theorem dX7_trade_63 : decode cX7_trade 63 = .ok (.invokestatic 56, 3) := by decide +kernel
theorem dX7_trade_66 : decode cX7_trade 66 = .ok (.iaload, 1) := by decide +kernel
theorem dX7_trade_67 : decode cX7_trade 67 = .ok (.istore 4, 2) := by decide +kernel
theorem dX7_trade_69 : decode cX7_trade 69 = .ok (.aload_n 0, 1) := by decide +kernel
theorem dX7_trade_70 : decode cX7_trade 70 = .ok (.getfield 7, 3) := by decide +kernel
theorem dX7_trade_73 : decode cX7_trade 73 = .ok (.bipush 6, 2) := by decide +kernel
theorem dX7_trade_75 : decode cX7_trade 75 = .ok (.iload_n 1, 1) := by decide +kernel
theorem dX7_trade_76 : decode cX7_trade 76 = .ok (.iload_n 3, 1) := by decide +kernel
theorem dX7_trade_77 : decode cX7_trade 77 = .ok (.invokestatic 56, 3) := by decide +kernel
theorem dX7_trade_80 : decode cX7_trade 80 = .ok (.aload_n 0, 1) := by decide +kernel
theorem dX7_trade_81 : decode cX7_trade 81 = .ok (.getfield 7, 3) := by decide +kernel
theorem dX7_trade_84 : decode cX7_trade 84 = .ok (.bipush 6, 2) := by decide +kernel
theorem dX7_trade_86 : decode cX7_trade 86 = .ok (.iload_n 2, 1) := by decide +kernel
theorem dX7_trade_87 : decode cX7_trade 87 = .ok (.iload_n 3, 1) := by decide +kernel
theorem dX7_trade_88 : decode cX7_trade 88 = .ok (.invokestatic 56, 3) := by decide +kernel
theorem dX7_trade_91 : decode cX7_trade 91 = .ok (.iaload, 1) := by decide +kernel
theorem dX7_trade_92 : decode cX7_trade 92 = .ok (.iastore, 1) := by decide +kernel
theorem dX7_trade_93 : decode cX7_trade 93 = .ok (.aload_n 0, 1) := by decide +kernel
theorem dX7_trade_94 : decode cX7_trade 94 = .ok (.getfield 7, 3) := by decide +kernel
theorem dX7_trade_97 : decode cX7_trade 97 = .ok (.bipush 6, 2) := by decide +kernel
theorem dX7_trade_99 : decode cX7_trade 99 = .ok (.iload_n 2, 1) := by decide +kernel
theorem dX7_trade_100 : decode cX7_trade 100 = .ok (.iload_n 3, 1) := by decide +kernel
theorem dX7_trade_101 : decode cX7_trade 101 = .ok (.invokestatic 56, 3) := by decide +kernel
theorem dX7_trade_104 : decode cX7_trade 104 = .ok (.iload 4, 2) := by decide +kernel
theorem dX7_trade_106 : decode cX7_trade 106 = .ok (.iastore, 1) := by decide +kernel
theorem dX7_trade_107 : decode cX7_trade 107 = .ok (.iinc 3 1, 3) := by decide +kernel
theorem dX7_trade_110 : decode cX7_trade 110 = .ok (.goto (-61), 3) := by decide +kernel
theorem dX7_trade_113 : decode cX7_trade 113 = .ok (.aload_n 0, 1) := by decide +kernel
theorem dX7_trade_114 : decode cX7_trade 114 = .ok (.iload_n 1, 1) := by decide +kernel
theorem dX7_trade_115 : decode cX7_trade 115 = .ok (.iload_n 1, 1) := by decide +kernel
theorem dX7_trade_116 : decode cX7_trade 116 = .ok (.iconst 0, 1) := by decide +kernel
theorem dX7_trade_117 : decode cX7_trade 117 = .ok (.invokevirtual 78, 3) := by decide +kernel
theorem dX7_trade_120 : decode cX7_trade 120 = .ok (.aload_n 0, 1) := by decide +kernel
theorem dX7_trade_121 : decode cX7_trade 121 = .ok (.iload_n 2, 1) := by decide +kernel
theorem dX7_trade_122 : decode cX7_trade 122 = .ok (.iload_n 2, 1) := by decide +kernel
theorem dX7_trade_123 : decode cX7_trade 123 = .ok (.iconst 0, 1) := by decide +kernel
theorem dX7_trade_124 : decode cX7_trade 124 = .ok (.invokevirtual 78, 3) := by decide +kernel
theorem dX7_trade_127 : decode cX7_trade 127 = .ok (.iadd, 1) := by decide +kernel
theorem dX7_trade_128 : decode cX7_trade 128 = .ok (.ireturn, 1) := by decide +kernel
theorem dX7_turn_0 : decode cX7_turn 0 = .ok (.aload_n 0, 1) := by decide +kernel
theorem dX7_turn_1 : decode cX7_turn 1 = .ok (.aload_n 0, 1) := by decide +kernel
theorem dX7_turn_2 : decode cX7_turn 2 = .ok (.iload_n 1, 1) := by decide +kernel
theorem dX7_turn_3 : decode cX7_turn 3 = .ok (.invokevirtual 45, 3) := by decide +kernel
theorem dX7_turn_6 : decode cX7_turn 6 = .ok (.ifCond .ne 7, 3) := by decide +kernel
theorem dX7_turn_9 : decode cX7_turn 9 = .ok (.iconst 1, 1) := by decide +kernel
theorem dX7_turn_10 : decode cX7_turn 10 = .ok (.goto 18, 3) := by decide +kernel
theorem dX7_turn_13 : decode cX7_turn 13 = .ok (.iload_n 2, 1) := by decide +kernel
theorem dX7_turn_14 : decode cX7_turn 14 = .ok (.iconst 0, 1) := by decide +kernel
theorem dX7_turn_15 : decode cX7_turn 15 = .ok (.bipush 23, 2) := by decide +kernel
theorem dX7_turn_17 : decode cX7_turn 17 = .ok (.invokestatic 41, 3) := by decide +kernel
theorem dX7_turn_20 : decode cX7_turn 20 = .ok (.ifCond .ne 7, 3) := by decide +kernel
theorem dX7_turn_23 : decode cX7_turn 23 = .ok (.iconst 2, 1) := by decide +kernel
theorem dX7_turn_24 : decode cX7_turn 24 = .ok (.goto 4, 3) := by decide +kernel
theorem dX7_turn_27 : decode cX7_turn 27 = .ok (.iconst 0, 1) := by decide +kernel
theorem dX7_turn_28 : decode cX7_turn 28 = .ok (.putfield 37, 3) := by decide +kernel
theorem dX7_turn_31 : decode cX7_turn 31 = .ok (.aload_n 0, 1) := by decide +kernel
theorem dX7_turn_32 : decode cX7_turn 32 = .ok (.getfield 37, 3) := by decide +kernel
theorem dX7_turn_35 : decode cX7_turn 35 = .ok (.ifCond .eq 5, 3) := by decide +kernel
theorem dX7_turn_38 : decode cX7_turn 38 = .ok (.iconst 0, 1) := by decide +kernel
theorem dX7_turn_39 : decode cX7_turn 39 = .ok (.ireturn, 1) := by decide +kernel
theorem dX7_turn_40 : decode cX7_turn 40 = .ok (.aload_n 0, 1) := by decide +kernel
theorem dX7_turn_41 : decode cX7_turn 41 = .ok (.invokevirtual 64, 3) := by decide +kernel
theorem dX7_turn_44 : decode cX7_turn 44 = .ok (.sipush 428, 3) := by decide +kernel
theorem dX7_turn_47 : decode cX7_turn 47 = .ok (.aload_n 0, 1) := by decide +kernel
theorem dX7_turn_48 : decode cX7_turn 48 = .ok (.getfield 49, 3) := by decide +kernel
theorem dX7_turn_51 : decode cX7_turn 51 = .ok (.imul, 1) := by decide +kernel
theorem dX7_turn_52 : decode cX7_turn 52 = .ok (.istore_n 3, 1) := by decide +kernel
theorem dX7_turn_53 : decode cX7_turn 53 = .ok (.iconst 0, 1) := by decide +kernel
theorem dX7_turn_54 : decode cX7_turn 54 = .ok (.istore 4, 2) := by decide +kernel
theorem dX7_turn_56 : decode cX7_turn 56 = .ok (.iload 4, 2) := by decide +kernel
theorem dX7_turn_58 : decode cX7_turn 58 = .ok (.bipush 24, 2) := by decide +kernel
theorem dX7_turn_60 : decode cX7_turn 60 = .ok (.if_icmp .ge 42, 3) := by decide +kernel
theorem dX7_turn_63 : decode cX7_turn 63 = .ok (.aload_n 0, 1) := by decide +kernel
theorem dX7_turn_64 : decode cX7_turn 64 = .ok (.getfield 7, 3) := by decide +kernel
theorem dX7_turn_67 : decode cX7_turn 67 = .ok (.bipush 6, 2) := by decide +kernel
theorem dX7_turn_69 : decode cX7_turn 69 = .ok (.iload_n 1, 1) := by decide +kernel
theorem dX7_turn_70 : decode cX7_turn 70 = .ok (.iload 4, 2) := by decide +kernel
theorem dX7_turn_72 : decode cX7_turn 72 = .ok (.iload_n 2, 1) := by decide +kernel
theorem dX7_turn_73 : decode cX7_turn 73 = .ok (.iadd, 1) := by decide +kernel
theorem dX7_turn_74 : decode cX7_turn 74 = .ok (.bipush 24, 2) := by decide +kernel
theorem dX7_turn_76 : decode cX7_turn 76 = .ok (.irem, 1) := by decide +kernel
theorem dX7_turn_77 : decode cX7_turn 77 = .ok (.invokestatic 56, 3) := by decide +kernel
theorem dX7_turn_80 : decode cX7_turn 80 = .ok (.aload_n 0, 1) := by decide +kernel
theorem dX7_turn_81 : decode cX7_turn 81 = .ok (.getfield 7, 3) := by decide +kernel
theorem dX7_turn_84 : decode cX7_turn 84 = .ok (.iload_n 3, 1) := by decide +kernel
theorem dX7_turn_85 : decode cX7_turn 85 = .ok (.bipush 6, 2) := by decide +kernel
theorem dX7_turn_87 : decode cX7_turn 87 = .ok (.iload_n 1, 1) := by decide +kernel
theorem dX7_turn_88 : decode cX7_turn 88 = .ok (.iload 4, 2) := by decide +kernel
theorem dX7_turn_90 : decode cX7_turn 90 = .ok (.invokestatic 56, 3) := by decide +kernel
theorem dX7_turn_93 : decode cX7_turn 93 = .ok (.iadd, 1) := by decide +kernel
theorem dX7_turn_94 : decode cX7_turn 94 = .ok (.iaload, 1) := by decide +kernel
theorem dX7_turn_95 : decode cX7_turn 95 = .ok (.iastore, 1) := by decide +kernel
theorem dX7_turn_96 : decode cX7_turn 96 = .ok (.iinc 4 1, 3) := by decide +kernel
theorem dX7_turn_99 : decode cX7_turn 99 = .ok (.goto (-43), 3) := by decide +kernel
theorem dX7_turn_102 : decode cX7_turn 102 = .ok (.aload_n 0, 1) := by decide +kernel
theorem dX7_turn_103 : decode cX7_turn 103 = .ok (.iload_n 1, 1) := by decide +kernel
theorem dX7_turn_104 : decode cX7_turn 104 = .ok (.iload_n 1, 1) := by decide +kernel
theorem dX7_turn_105 : decode cX7_turn 105 = .ok (.iconst 0, 1) := by decide +kernel
theorem dX7_turn_106 : decode cX7_turn 106 = .ok (.invokevirtual 78, 3) := by decide +kernel
theorem dX7_turn_109 : decode cX7_turn 109 = .ok (.ireturn, 1) := by decide +kernel
theorem dX7_file_0 : decode cX7_file 0 = .ok (.aload_n 0, 1) := by decide +kernel
theorem dX7_file_1 : decode cX7_file 1 = .ok (.aload_n 0, 1) := by decide +kernel
theorem dX7_file_2 : decode cX7_file 2 = .ok (.iload_n 1, 1) := by decide +kernel
theorem dX7_file_3 : decode cX7_file 3 = .ok (.iconst 0, 1) := by decide +kernel
theorem dX7_file_4 : decode cX7_file 4 = .ok (.iload_n 2, 1) := by decide +kernel
theorem dX7_file_5 : decode cX7_file 5 = .ok (.invokevirtual 67, 3) := by decide +kernel
theorem dX7_file_8 : decode cX7_file 8 = .ok (.ifCond .eq 7, 3) := by decide +kernel
theorem dX7_file_11 : decode cX7_file 11 = .ok (.iconst 0, 1) := by decide +kernel
theorem dX7_file_12 : decode cX7_file 12 = .ok (.goto 4, 3) := by decide +kernel
theorem dX7_file_15 : decode cX7_file 15 = .ok (.iconst 1, 1) := by decide +kernel
theorem dX7_file_16 : decode cX7_file 16 = .ok (.putfield 37, 3) := by decide +kernel
theorem dX7_file_19 : decode cX7_file 19 = .ok (.aload_n 0, 1) := by decide +kernel
theorem dX7_file_20 : decode cX7_file 20 = .ok (.getfield 37, 3) := by decide +kernel
theorem dX7_file_23 : decode cX7_file 23 = .ok (.ifCond .eq 5, 3) := by decide +kernel
theorem dX7_file_26 : decode cX7_file 26 = .ok (.iconst 0, 1) := by decide +kernel
theorem dX7_file_27 : decode cX7_file 27 = .ok (.ireturn, 1) := by decide +kernel
theorem dX7_file_28 : decode cX7_file 28 = .ok (.aload_n 0, 1) := by decide +kernel
theorem dX7_file_29 : decode cX7_file 29 = .ok (.invokevirtual 64, 3) := by decide +kernel
theorem dX7_file_32 : decode cX7_file 32 = .ok (.aload_n 0, 1) := by decide +kernel
theorem dX7_file_33 : decode cX7_file 33 = .ok (.getfield 7, 3) := by decide +kernel
theorem dX7_file_36 : decode cX7_file 36 = .ok (.sipush 294, 3) := by decide +kernel
theorem dX7_file_39 : decode cX7_file 39 = .ok (.bipush 12, 2) := by decide +kernel
theorem dX7_file_41 : decode cX7_file 41 = .ok (.iload_n 1, 1) := by decide +kernel
theorem dX7_file_42 : decode cX7_file 42 = .ok (.imul, 1) := by decide +kernel
theorem dX7_file_43 : decode cX7_file 43 = .ok (.iadd, 1) := by decide +kernel
theorem dX7_file_44 : decode cX7_file 44 = .ok (.iload_n 2, 1) := by decide +kernel
theorem dX7_file_45 : decode cX7_file 45 = .ok (.iadd, 1) := by decide +kernel
theorem dX7_file_46 : decode cX7_file 46 = .ok (.iaload, 1) := by decide +kernel
theorem dX7_file_47 : decode cX7_file 47 = .ok (.istore_n 3, 1) := by decide +kernel
theorem dX7_file_48 : decode cX7_file 48 = .ok (.aload_n 0, 1) := by decide +kernel
theorem dX7_file_49 : decode cX7_file 49 = .ok (.getfield 7, 3) := by decide +kernel
theorem dX7_file_52 : decode cX7_file 52 = .ok (.sipush 294, 3) := by decide +kernel
theorem dX7_file_55 : decode cX7_file 55 = .ok (.bipush 12, 2) := by decide +kernel
theorem dX7_file_57 : decode cX7_file 57 = .ok (.iload_n 1, 1) := by decide +kernel
theorem dX7_file_58 : decode cX7_file 58 = .ok (.imul, 1) := by decide +kernel
theorem dX7_file_59 : decode cX7_file 59 = .ok (.iadd, 1) := by decide +kernel
theorem dX7_file_60 : decode cX7_file 60 = .ok (.iload_n 2, 1) := by decide +kernel
theorem dX7_file_61 : decode cX7_file 61 = .ok (.iadd, 1) := by decide +kernel
theorem dX7_file_62 : decode cX7_file 62 = .ok (.iconst 0, 1) := by decide +kernel
theorem dX7_file_63 : decode cX7_file 63 = .ok (.iastore, 1) := by decide +kernel
theorem dX7_file_64 : decode cX7_file 64 = .ok (.iload_n 3, 1) := by decide +kernel
theorem dX7_file_65 : decode cX7_file 65 = .ok (.ireturn, 1) := by decide +kernel
theorem dX7_wear_0 : decode cX7_wear 0 = .ok (.aload_n 0, 1) := by decide +kernel
theorem dX7_wear_1 : decode cX7_wear 1 = .ok (.aload_n 0, 1) := by decide +kernel
theorem dX7_wear_2 : decode cX7_wear 2 = .ok (.iload_n 1, 1) := by decide +kernel
theorem dX7_wear_3 : decode cX7_wear 3 = .ok (.iconst 0, 1) := by decide +kernel
theorem dX7_wear_4 : decode cX7_wear 4 = .ok (.iload_n 2, 1) := by decide +kernel
theorem dX7_wear_5 : decode cX7_wear 5 = .ok (.invokevirtual 67, 3) := by decide +kernel
theorem dX7_wear_8 : decode cX7_wear 8 = .ok (.ifCond .eq 7, 3) := by decide +kernel
theorem dX7_wear_11 : decode cX7_wear 11 = .ok (.iconst 0, 1) := by decide +kernel
theorem dX7_wear_12 : decode cX7_wear 12 = .ok (.goto 4, 3) := by decide +kernel
theorem dX7_wear_15 : decode cX7_wear 15 = .ok (.iconst 1, 1) := by decide +kernel
theorem dX7_wear_16 : decode cX7_wear 16 = .ok (.putfield 37, 3) := by decide +kernel
theorem dX7_wear_19 : decode cX7_wear 19 = .ok (.aload_n 0, 1) := by decide +kernel
theorem dX7_wear_20 : decode cX7_wear 20 = .ok (.getfield 37, 3) := by decide +kernel
theorem dX7_wear_23 : decode cX7_wear 23 = .ok (.ifCond .ne 21, 3) := by decide +kernel
theorem dX7_wear_26 : decode cX7_wear 26 = .ok (.aload_n 0, 1) := by decide +kernel
theorem dX7_wear_27 : decode cX7_wear 27 = .ok (.getfield 7, 3) := by decide +kernel
theorem dX7_wear_30 : decode cX7_wear 30 = .ok (.sipush 294, 3) := by decide +kernel
theorem dX7_wear_33 : decode cX7_wear 33 = .ok (.bipush 12, 2) := by decide +kernel
theorem dX7_wear_35 : decode cX7_wear 35 = .ok (.iload_n 1, 1) := by decide +kernel
theorem dX7_wear_36 : decode cX7_wear 36 = .ok (.imul, 1) := by decide +kernel
theorem dX7_wear_37 : decode cX7_wear 37 = .ok (.iadd, 1) := by decide +kernel
theorem dX7_wear_38 : decode cX7_wear 38 = .ok (.iload_n 2, 1) := by decide +kernel
theorem dX7_wear_39 : decode cX7_wear 39 = .ok (.iadd, 1) := by decide +kernel
theorem dX7_wear_40 : decode cX7_wear 40 = .ok (.iaload, 1) := by decide +kernel
theorem dX7_wear_41 : decode cX7_wear 41 = .ok (.goto 4, 3) := by decide +kernel
theorem dX7_wear_44 : decode cX7_wear 44 = .ok (.iconst 0, 1) := by decide +kernel
theorem dX7_wear_45 : decode cX7_wear 45 = .ok (.ireturn, 1) := by decide +kernel
theorem dX7_goTo_0 : decode cX7_goTo 0 = .ok (.aload_n 0, 1) := by decide +kernel
theorem dX7_goTo_1 : decode cX7_goTo 1 = .ok (.getfield 7, 3) := by decide +kernel
theorem dX7_goTo_4 : decode cX7_goTo 4 = .ok (.iload_n 1, 1) := by decide +kernel
theorem dX7_goTo_5 : decode cX7_goTo 5 = .ok (.sipush 150, 3) := by decide +kernel
theorem dX7_goTo_8 : decode cX7_goTo 8 = .ok (.iload_n 2, 1) := by decide +kernel
theorem dX7_goTo_9 : decode cX7_goTo 9 = .ok (.iload_n 3, 1) := by decide +kernel
theorem dX7_goTo_10 : decode cX7_goTo 10 = .ok (.invokestatic 56, 3) := by decide +kernel
theorem dX7_goTo_13 : decode cX7_goTo 13 = .ok (.iadd, 1) := by decide +kernel
theorem dX7_goTo_14 : decode cX7_goTo 14 = .ok (.iaload, 1) := by decide +kernel
theorem dX7_goTo_15 : decode cX7_goTo 15 = .ok (.iload 4, 2) := by decide +kernel
theorem dX7_goTo_17 : decode cX7_goTo 17 = .ok (.invokestatic 70, 3) := by decide +kernel
theorem dX7_goTo_20 : decode cX7_goTo 20 = .ok (.istore 5, 2) := by decide +kernel
theorem dX7_goTo_22 : decode cX7_goTo 22 = .ok (.iload_n 1, 1) := by decide +kernel
theorem dX7_goTo_23 : decode cX7_goTo 23 = .ok (.sipush 294, 3) := by decide +kernel
theorem dX7_goTo_26 : decode cX7_goTo 26 = .ok (.iadd, 1) := by decide +kernel
theorem dX7_goTo_27 : decode cX7_goTo 27 = .ok (.bipush 12, 2) := by decide +kernel
theorem dX7_goTo_29 : decode cX7_goTo 29 = .ok (.iload_n 2, 1) := by decide +kernel
theorem dX7_goTo_30 : decode cX7_goTo 30 = .ok (.imul, 1) := by decide +kernel
theorem dX7_goTo_31 : decode cX7_goTo 31 = .ok (.iadd, 1) := by decide +kernel
theorem dX7_goTo_32 : decode cX7_goTo 32 = .ok (.iload 4, 2) := by decide +kernel
theorem dX7_goTo_34 : decode cX7_goTo 34 = .ok (.iadd, 1) := by decide +kernel
theorem dX7_goTo_35 : decode cX7_goTo 35 = .ok (.istore 6, 2) := by decide +kernel
theorem dX7_goTo_37 : decode cX7_goTo 37 = .ok (.aload_n 0, 1) := by decide +kernel
theorem dX7_goTo_38 : decode cX7_goTo 38 = .ok (.getfield 7, 3) := by decide +kernel
theorem dX7_goTo_41 : decode cX7_goTo 41 = .ok (.iload 6, 2) := by decide +kernel
theorem dX7_goTo_43 : decode cX7_goTo 43 = .ok (.iaload, 1) := by decide +kernel
theorem dX7_goTo_44 : decode cX7_goTo 44 = .ok (.aload_n 0, 1) := by decide +kernel
theorem dX7_goTo_45 : decode cX7_goTo 45 = .ok (.getfield 7, 3) := by decide +kernel
theorem dX7_goTo_48 : decode cX7_goTo 48 = .ok (.iload_n 1, 1) := by decide +kernel
theorem dX7_goTo_49 : decode cX7_goTo 49 = .ok (.sipush 421, 3) := by decide +kernel
theorem dX7_goTo_52 : decode cX7_goTo 52 = .ok (.iadd, 1) := by decide +kernel
theorem dX7_goTo_53 : decode cX7_goTo 53 = .ok (.iaload, 1) := by decide +kernel
theorem dX7_goTo_54 : decode cX7_goTo 54 = .ok (.if_icmp .lt 58, 3) := by decide +kernel
theorem dX7_goTo_57 : decode cX7_goTo 57 = .ok (.aload_n 0, 1) := by decide +kernel
theorem dX7_goTo_58 : decode cX7_goTo 58 = .ok (.dup, 1) := by decide +kernel
theorem dX7_goTo_59 : decode cX7_goTo 59 = .ok (.getfield 81, 3) := by decide +kernel
theorem dX7_goTo_62 : decode cX7_goTo 62 = .ok (.iconst 1, 1) := by decide +kernel
theorem dX7_goTo_63 : decode cX7_goTo 63 = .ok (.iadd, 1) := by decide +kernel
theorem dX7_goTo_64 : decode cX7_goTo 64 = .ok (.putfield 81, 3) := by decide +kernel
theorem dX7_goTo_67 : decode cX7_goTo 67 = .ok (.aload_n 0, 1) := by decide +kernel
theorem dX7_goTo_68 : decode cX7_goTo 68 = .ok (.dup, 1) := by decide +kernel
theorem dX7_goTo_69 : decode cX7_goTo 69 = .ok (.getfield 84, 3) := by decide +kernel
theorem dX7_goTo_72 : decode cX7_goTo 72 = .ok (.iload 5, 2) := by decide +kernel
theorem dX7_goTo_74 : decode cX7_goTo 74 = .ok (.ifCond .eq 7, 3) := by decide +kernel
theorem dX7_goTo_77 : decode cX7_goTo 77 = .ok (.iconst 1, 1) := by decide +kernel
theorem dX7_goTo_78 : decode cX7_goTo 78 = .ok (.goto 4, 3) := by decide +kernel
theorem dX7_goTo_81 : decode cX7_goTo 81 = .ok (.iconst 0, 1) := by decide +kernel
theorem dX7_goTo_82 : decode cX7_goTo 82 = .ok (.iadd, 1) := by decide +kernel
theorem dX7_goTo_83 : decode cX7_goTo 83 = .ok (.putfield 84, 3) := by decide +kernel
theorem dX7_goTo_86 : decode cX7_goTo 86 = .ok (.aload_n 0, 1) := by decide +kernel
theorem dX7_goTo_87 : decode cX7_goTo 87 = .ok (.getfield 7, 3) := by decide +kernel
theorem dX7_goTo_90 : decode cX7_goTo 90 = .ok (.iload_n 1, 1) := by decide +kernel
theorem dX7_goTo_91 : decode cX7_goTo 91 = .ok (.bipush 6, 2) := by decide +kernel
theorem dX7_goTo_93 : decode cX7_goTo 93 = .ok (.iload_n 2, 1) := by decide +kernel
theorem dX7_goTo_94 : decode cX7_goTo 94 = .ok (.iload_n 3, 1) := by decide +kernel
theorem dX7_goTo_95 : decode cX7_goTo 95 = .ok (.invokestatic 56, 3) := by decide +kernel
theorem dX7_goTo_98 : decode cX7_goTo 98 = .ok (.iadd, 1) := by decide +kernel
theorem dX7_goTo_99 : decode cX7_goTo 99 = .ok (.dup2, 1) := by decide +kernel
theorem dX7_goTo_100 : decode cX7_goTo 100 = .ok (.iaload, 1) := by decide +kernel
theorem dX7_goTo_101 : decode cX7_goTo 101 = .ok (.iconst 1, 1) := by decide +kernel
theorem dX7_goTo_102 : decode cX7_goTo 102 = .ok (.iload 4, 2) := by decide +kernel
theorem dX7_goTo_104 : decode cX7_goTo 104 = .ok (.ishl, 1) := by decide +kernel
theorem dX7_goTo_105 : decode cX7_goTo 105 = .ok (.iconst (-1), 1) := by decide +kernel
theorem dX7_goTo_106 : decode cX7_goTo 106 = .ok (.ixor, 1) := by decide +kernel
theorem dX7_goTo_107 : decode cX7_goTo 107 = .ok (.iand, 1) := by decide +kernel
theorem dX7_goTo_108 : decode cX7_goTo 108 = .ok (.iastore, 1) := by decide +kernel
theorem dX7_goTo_109 : decode cX7_goTo 109 = .ok (.goto 99, 3) := by decide +kernel
theorem dX7_goTo_112 : decode cX7_goTo 112 = .ok (.iload_n 3, 1) := by decide +kernel
theorem dX7_goTo_113 : decode cX7_goTo 113 = .ok (.aload_n 0, 1) := by decide +kernel
theorem dX7_goTo_114 : decode cX7_goTo 114 = .ok (.getfield 16, 3) := by decide +kernel
theorem dX7_goTo_117 : decode cX7_goTo 117 = .ok (.iload 4, 2) := by decide +kernel
theorem dX7_goTo_119 : decode cX7_goTo 119 = .ok (.iaload, 1) := by decide +kernel
theorem dX7_goTo_120 : decode cX7_goTo 120 = .ok (.isub, 1) := by decide +kernel
theorem dX7_goTo_121 : decode cX7_goTo 121 = .ok (.aload_n 0, 1) := by decide +kernel
theorem dX7_goTo_122 : decode cX7_goTo 122 = .ok (.getfield 7, 3) := by decide +kernel
theorem dX7_goTo_125 : decode cX7_goTo 125 = .ok (.iload_n 1, 1) := by decide +kernel
theorem dX7_goTo_126 : decode cX7_goTo 126 = .ok (.sipush 420, 3) := by decide +kernel
