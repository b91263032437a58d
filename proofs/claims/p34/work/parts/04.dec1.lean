theorem dX6_undo_36 : decode cX6_undo 36 = .ok (.getfield 208, 3) := by decide +kernel
theorem dX6_undo_39 : decode cX6_undo 39 = .ok (.aaload, 1) := by decide +kernel
theorem dX6_undo_40 : decode cX6_undo 40 = .ok (.invokevirtual 213, 3) := by decide +kernel
theorem dX6_undo_43 : decode cX6_undo 43 = .ok (.aload_n 0, 1) := by decide +kernel
theorem dX6_undo_44 : decode cX6_undo 44 = .ok (.getfield 208, 3) := by decide +kernel
theorem dX6_undo_47 : decode cX6_undo 47 = .ok (.ireturn, 1) := by decide +kernel
theorem dX6_town_0 : decode cX6_town 0 = .ok (.aload_n 0, 1) := by decide +kernel
theorem dX6_town_1 : decode cX6_town 1 = .ok (.iload_n 1, 1) := by decide +kernel
theorem dX6_town_2 : decode cX6_town 2 = .ok (.invokevirtual 120, 3) := by decide +kernel
theorem dX6_town_5 : decode cX6_town 5 = .ok (.aload_n 0, 1) := by decide +kernel
theorem dX6_town_6 : decode cX6_town 6 = .ok (.getfield 10, 3) := by decide +kernel
theorem dX6_town_9 : decode cX6_town 9 = .ok (.getfield 76, 3) := by decide +kernel
theorem dX6_town_12 : decode cX6_town 12 = .ok (.iload_n 1, 1) := by decide +kernel
theorem dX6_town_13 : decode cX6_town 13 = .ok (.aaload, 1) := by decide +kernel
theorem dX6_town_14 : decode cX6_town 14 = .ok (.astore_n 3, 1) := by decide +kernel
theorem dX6_town_15 : decode cX6_town 15 = .ok (.iload_n 2, 1) := by decide +kernel
theorem dX6_town_16 : decode cX6_town 16 = .ok (.tableswitch 166 0 11 #[64, 69, 77, 85, 90, 103, 116, 125, 134, 139, 144, 149], 64) := by decide +kernel
theorem dX6_town_80 : decode cX6_town 80 = .ok (.aload_n 3, 1) := by decide +kernel
theorem dX6_town_81 : decode cX6_town 81 = .ok (.getfield 80, 3) := by decide +kernel
theorem dX6_town_84 : decode cX6_town 84 = .ok (.ireturn, 1) := by decide +kernel
theorem dX6_town_85 : decode cX6_town 85 = .ok (.aload_n 3, 1) := by decide +kernel
theorem dX6_town_86 : decode cX6_town 86 = .ok (.getfield 109, 3) := by decide +kernel
theorem dX6_town_89 : decode cX6_town 89 = .ok (.invokestatic 112, 3) := by decide +kernel
theorem dX6_town_92 : decode cX6_town 92 = .ok (.ireturn, 1) := by decide +kernel
theorem dX6_town_93 : decode cX6_town 93 = .ok (.aload_n 3, 1) := by decide +kernel
theorem dX6_town_94 : decode cX6_town 94 = .ok (.getfield 207, 3) := by decide +kernel
theorem dX6_town_97 : decode cX6_town 97 = .ok (.invokestatic 112, 3) := by decide +kernel
theorem dX6_town_100 : decode cX6_town 100 = .ok (.ireturn, 1) := by decide +kernel
theorem dX6_town_101 : decode cX6_town 101 = .ok (.aload_n 3, 1) := by decide +kernel
theorem dX6_town_102 : decode cX6_town 102 = .ok (.invokevirtual 129, 3) := by decide +kernel
theorem dX6_town_105 : decode cX6_town 105 = .ok (.ireturn, 1) := by decide +kernel
theorem dX6_town_106 : decode cX6_town 106 = .ok (.aload_n 3, 1) := by decide +kernel
theorem dX6_town_107 : decode cX6_town 107 = .ok (.getfield 109, 3) := by decide +kernel
theorem dX6_town_110 : decode cX6_town 110 = .ok (.invokestatic 112, 3) := by decide +kernel
theorem dX6_town_113 : decode cX6_town 113 = .ok (.aload_n 3, 1) := by decide +kernel
theorem dX6_town_114 : decode cX6_town 114 = .ok (.invokevirtual 129, 3) := by decide +kernel
theorem dX6_town_117 : decode cX6_town 117 = .ok (.isub, 1) := by decide +kernel
theorem dX6_town_118 : decode cX6_town 118 = .ok (.ireturn, 1) := by decide +kernel
theorem dX6_town_119 : decode cX6_town 119 = .ok (.aload_n 3, 1) := by decide +kernel
theorem dX6_town_120 : decode cX6_town 120 = .ok (.getfield 207, 3) := by decide +kernel
theorem dX6_town_123 : decode cX6_town 123 = .ok (.invokestatic 112, 3) := by decide +kernel
theorem dX6_town_126 : decode cX6_town 126 = .ok (.aload_n 3, 1) := by decide +kernel
theorem dX6_town_127 : decode cX6_town 127 = .ok (.invokevirtual 129, 3) := by decide +kernel
theorem dX6_town_130 : decode cX6_town 130 = .ok (.isub, 1) := by decide +kernel
theorem dX6_town_131 : decode cX6_town 131 = .ok (.ireturn, 1) := by decide +kernel
theorem dX6_town_132 : decode cX6_town 132 = .ok (.aload_n 0, 1) := by decide +kernel
theorem dX6_town_133 : decode cX6_town 133 = .ok (.getfield 10, 3) := by decide +kernel
theorem dX6_town_136 : decode cX6_town 136 = .ok (.iload_n 1, 1) := by decide +kernel
theorem dX6_town_137 : decode cX6_town 137 = .ok (.invokevirtual 216, 3) := by decide +kernel
theorem dX6_town_140 : decode cX6_town 140 = .ok (.ireturn, 1) := by decide +kernel
theorem dX6_town_141 : decode cX6_town 141 = .ok (.aload_n 0, 1) := by decide +kernel
theorem dX6_town_142 : decode cX6_town 142 = .ok (.getfield 10, 3) := by decide +kernel
theorem dX6_town_145 : decode cX6_town 145 = .ok (.iload_n 1, 1) := by decide +kernel
theorem dX6_town_146 : decode cX6_town 146 = .ok (.invokevirtual 220, 3) := by decide +kernel
theorem dX6_town_149 : decode cX6_town 149 = .ok (.ireturn, 1) := by decide +kernel
theorem dX6_town_150 : decode cX6_town 150 = .ok (.aload_n 3, 1) := by decide +kernel
theorem dX6_town_151 : decode cX6_town 151 = .ok (.getfield 223, 3) := by decide +kernel
theorem dX6_town_154 : decode cX6_town 154 = .ok (.ireturn, 1) := by decide +kernel
theorem dX6_town_155 : decode cX6_town 155 = .ok (.aload_n 3, 1) := by decide +kernel
theorem dX6_town_156 : decode cX6_town 156 = .ok (.getfield 226, 3) := by decide +kernel
theorem dX6_town_159 : decode cX6_town 159 = .ok (.ireturn, 1) := by decide +kernel
theorem dX6_town_160 : decode cX6_town 160 = .ok (.aload_n 3, 1) := by decide +kernel
theorem dX6_town_161 : decode cX6_town 161 = .ok (.getfield 227, 3) := by decide +kernel
theorem dX6_town_164 : decode cX6_town 164 = .ok (.ireturn, 1) := by decide +kernel
theorem dX6_town_165 : decode cX6_town 165 = .ok (.aload_n 3, 1) := by decide +kernel
theorem dX6_town_166 : decode cX6_town 166 = .ok (.getfield 142, 3) := by decide +kernel
theorem dX6_town_169 : decode cX6_town 169 = .ok (.aload_n 0, 1) := by decide +kernel
theorem dX6_town_170 : decode cX6_town 170 = .ok (.getfield 10, 3) := by decide +kernel
theorem dX6_town_173 : decode cX6_town 173 = .ok (.getfield 68, 3) := by decide +kernel
theorem dX6_town_176 : decode cX6_town 176 = .ok (.iconst 1, 1) := by decide +kernel
theorem dX6_town_177 : decode cX6_town 177 = .ok (.iaload, 1) := by decide +kernel
theorem dX6_town_178 : decode cX6_town 178 = .ok (.invokestatic 230, 3) := by decide +kernel
theorem dX6_town_181 : decode cX6_town 181 = .ok (.ireturn, 1) := by decide +kernel
theorem dX6_town_182 : decode cX6_town 182 = .ok (.new 52, 3) := by decide +kernel
theorem dX6_town_185 : decode cX6_town 185 = .ok (.dup, 1) := by decide +kernel
theorem dX6_town_186 : decode cX6_town 186 = .ok (.ldc 234, 2) := by decide +kernel
theorem dX6_town_188 : decode cX6_town 188 = .ok (.invokespecial 56, 3) := by decide +kernel
theorem dX6_town_191 : decode cX6_town 191 = .ok (.athrow, 1) := by decide +kernel
theorem dX6_step_0 : decode cX6_step 0 = .ok (.aload_n 0, 1) := by decide +kernel
theorem dX6_step_1 : decode cX6_step 1 = .ok (.iload_n 1, 1) := by decide +kernel
theorem dX6_step_2 : decode cX6_step 2 = .ok (.invokevirtual 120, 3) := by decide +kernel
theorem dX6_step_5 : decode cX6_step 5 = .ok (.iload_n 2, 1) := by decide +kernel
theorem dX6_step_6 : decode cX6_step 6 = .ok (.invokestatic 236, 3) := by decide +kernel
theorem dX6_step_9 : decode cX6_step 9 = .ok (.iload_n 3, 1) := by decide +kernel
theorem dX6_step_10 : decode cX6_step 10 = .ok (.tableswitch 71 0 2 #[26, 41, 56], 26) := by decide +kernel
theorem dX6_step_36 : decode cX6_step 36 = .ok (.aload_n 0, 1) := by decide +kernel
theorem dX6_step_37 : decode cX6_step 37 = .ok (.getfield 10, 3) := by decide +kernel
theorem dX6_step_40 : decode cX6_step 40 = .ok (.getfield 76, 3) := by decide +kernel
theorem dX6_step_43 : decode cX6_step 43 = .ok (.iload_n 1, 1) := by decide +kernel
theorem dX6_step_44 : decode cX6_step 44 = .ok (.aaload, 1) := by decide +kernel
theorem dX6_step_45 : decode cX6_step 45 = .ok (.getfield 109, 3) := by decide +kernel
theorem dX6_step_48 : decode cX6_step 48 = .ok (.iload_n 2, 1) := by decide +kernel
theorem dX6_step_49 : decode cX6_step 49 = .ok (.iaload, 1) := by decide +kernel
theorem dX6_step_50 : decode cX6_step 50 = .ok (.ireturn, 1) := by decide +kernel
theorem dX6_step_51 : decode cX6_step 51 = .ok (.aload_n 0, 1) := by decide +kernel
theorem dX6_step_52 : decode cX6_step 52 = .ok (.getfield 10, 3) := by decide +kernel
theorem dX6_step_55 : decode cX6_step 55 = .ok (.getfield 76, 3) := by decide +kernel
theorem dX6_step_58 : decode cX6_step 58 = .ok (.iload_n 1, 1) := by decide +kernel
theorem dX6_step_59 : decode cX6_step 59 = .ok (.aaload, 1) := by decide +kernel
theorem dX6_step_60 : decode cX6_step 60 = .ok (.getfield 207, 3) := by decide +kernel
theorem dX6_step_63 : decode cX6_step 63 = .ok (.iload_n 2, 1) := by decide +kernel
theorem dX6_step_64 : decode cX6_step 64 = .ok (.iaload, 1) := by decide +kernel
theorem dX6_step_65 : decode cX6_step 65 = .ok (.ireturn, 1) := by decide +kernel
theorem dX6_step_66 : decode cX6_step 66 = .ok (.aload_n 0, 1) := by decide +kernel
theorem dX6_step_67 : decode cX6_step 67 = .ok (.iload_n 1, 1) := by decide +kernel
theorem dX6_step_68 : decode cX6_step 68 = .ok (.invokevirtual 145, 3) := by decide +kernel
theorem dX6_step_71 : decode cX6_step 71 = .ok (.aload_n 0, 1) := by decide +kernel
theorem dX6_step_72 : decode cX6_step 72 = .ok (.getfield 30, 3) := by decide +kernel
theorem dX6_step_75 : decode cX6_step 75 = .ok (.getfield 239, 3) := by decide +kernel
theorem dX6_step_78 : decode cX6_step 78 = .ok (.iload_n 2, 1) := by decide +kernel
theorem dX6_step_79 : decode cX6_step 79 = .ok (.iaload, 1) := by decide +kernel
theorem dX6_step_80 : decode cX6_step 80 = .ok (.ireturn, 1) := by decide +kernel
theorem dX6_step_81 : decode cX6_step 81 = .ok (.new 52, 3) := by decide +kernel
theorem dX6_step_84 : decode cX6_step 84 = .ok (.dup, 1) := by decide +kernel
theorem dX6_step_85 : decode cX6_step 85 = .ok (.ldc 242, 2) := by decide +kernel
theorem dX6_step_87 : decode cX6_step 87 = .ok (.invokespecial 56, 3) := by decide +kernel
theorem dX6_step_90 : decode cX6_step 90 = .ok (.athrow, 1) := by decide +kernel
theorem dX6_count_0 : decode cX6_count 0 = .ok (.iload_n 1, 1) := by decide +kernel
theorem dX6_count_1 : decode cX6_count 1 = .ok (.tableswitch 152 0 10 #[59, 67, 83, 91, 99, 107, 115, 123, 131, 139, 147], 59) := by decide +kernel
theorem dX6_count_60 : decode cX6_count 60 = .ok (.aload_n 0, 1) := by decide +kernel
theorem dX6_count_61 : decode cX6_count 61 = .ok (.getfield 10, 3) := by decide +kernel
theorem dX6_count_64 : decode cX6_count 64 = .ok (.getfield 59, 3) := by decide +kernel
theorem dX6_count_67 : decode cX6_count 67 = .ok (.ireturn, 1) := by decide +kernel
theorem dX6_count_68 : decode cX6_count 68 = .ok (.aload_n 0, 1) := by decide +kernel
theorem dX6_count_69 : decode cX6_count 69 = .ok (.getfield 10, 3) := by decide +kernel
theorem dX6_count_72 : decode cX6_count 72 = .ok (.invokevirtual 244, 3) := by decide +kernel
theorem dX6_count_75 : decode cX6_count 75 = .ok (.aload_n 0, 1) := by decide +kernel
theorem dX6_count_76 : decode cX6_count 76 = .ok (.getfield 10, 3) := by decide +kernel
theorem dX6_count_79 : decode cX6_count 79 = .ok (.invokevirtual 247, 3) := by decide +kernel
theorem dX6_count_82 : decode cX6_count 82 = .ok (.iadd, 1) := by decide +kernel
theorem dX6_count_83 : decode cX6_count 83 = .ok (.ireturn, 1) := by decide +kernel
theorem dX6_count_84 : decode cX6_count 84 = .ok (.aload_n 0, 1) := by decide +kernel
theorem dX6_count_85 : decode cX6_count 85 = .ok (.getfield 10, 3) := by decide +kernel
theorem dX6_count_88 : decode cX6_count 88 = .ok (.invokevirtual 244, 3) := by decide +kernel
theorem dX6_count_91 : decode cX6_count 91 = .ok (.ireturn, 1) := by decide +kernel
theorem dX6_count_92 : decode cX6_count 92 = .ok (.aload_n 0, 1) := by decide +kernel
theorem dX6_count_93 : decode cX6_count 93 = .ok (.getfield 10, 3) := by decide +kernel
theorem dX6_count_96 : decode cX6_count 96 = .ok (.invokevirtual 250, 3) := by decide +kernel
theorem dX6_count_99 : decode cX6_count 99 = .ok (.ireturn, 1) := by decide +kernel
theorem dX6_count_100 : decode cX6_count 100 = .ok (.aload_n 0, 1) := by decide +kernel
theorem dX6_count_101 : decode cX6_count 101 = .ok (.getfield 10, 3) := by decide +kernel
theorem dX6_count_104 : decode cX6_count 104 = .ok (.invokevirtual 253, 3) := by decide +kernel
theorem dX6_count_107 : decode cX6_count 107 = .ok (.ireturn, 1) := by decide +kernel
theorem dX6_count_108 : decode cX6_count 108 = .ok (.aload_n 0, 1) := by decide +kernel
theorem dX6_count_109 : decode cX6_count 109 = .ok (.getfield 10, 3) := by decide +kernel
theorem dX6_count_112 : decode cX6_count 112 = .ok (.getfield 168, 3) := by decide +kernel
theorem dX6_count_115 : decode cX6_count 115 = .ok (.ireturn, 1) := by decide +kernel
theorem dX6_count_116 : decode cX6_count 116 = .ok (.aload_n 0, 1) := by decide +kernel
theorem dX6_count_117 : decode cX6_count 117 = .ok (.getfield 10, 3) := by decide +kernel
theorem dX6_count_120 : decode cX6_count 120 = .ok (.getfield 173, 3) := by decide +kernel
theorem dX6_count_123 : decode cX6_count 123 = .ok (.ireturn, 1) := by decide +kernel
theorem dX6_count_124 : decode cX6_count 124 = .ok (.aload_n 0, 1) := by decide +kernel
theorem dX6_count_125 : decode cX6_count 125 = .ok (.getfield 10, 3) := by decide +kernel
theorem dX6_count_128 : decode cX6_count 128 = .ok (.getfield 256, 3) := by decide +kernel
theorem dX6_count_131 : decode cX6_count 131 = .ok (.ireturn, 1) := by decide +kernel
theorem dX6_count_132 : decode cX6_count 132 = .ok (.aload_n 0, 1) := by decide +kernel
theorem dX6_count_133 : decode cX6_count 133 = .ok (.getfield 10, 3) := by decide +kernel
theorem dX6_count_136 : decode cX6_count 136 = .ok (.getfield 259, 3) := by decide +kernel
theorem dX6_count_139 : decode cX6_count 139 = .ok (.ireturn, 1) := by decide +kernel
theorem dX6_count_140 : decode cX6_count 140 = .ok (.aload_n 0, 1) := by decide +kernel
theorem dX6_count_141 : decode cX6_count 141 = .ok (.getfield 10, 3) := by decide +kernel
theorem dX6_count_144 : decode cX6_count 144 = .ok (.invokevirtual 262, 3) := by decide +kernel
theorem dX6_count_147 : decode cX6_count 147 = .ok (.ireturn, 1) := by decide +kernel
theorem dX6_count_148 : decode cX6_count 148 = .ok (.aload_n 0, 1) := by decide +kernel
theorem dX6_count_149 : decode cX6_count 149 = .ok (.getfield 208, 3) := by decide +kernel
theorem dX6_count_152 : decode cX6_count 152 = .ok (.ireturn, 1) := by decide +kernel
theorem dX6_count_153 : decode cX6_count 153 = .ok (.new 52, 3) := by decide +kernel
theorem dX6_count_156 : decode cX6_count 156 = .ok (.dup, 1) := by decide +kernel
theorem dX6_count_157 : decode cX6_count 157 = .ok (.ldc_w 265, 3) := by decide +kernel
theorem dX6_count_160 : decode cX6_count 160 = .ok (.invokespecial 56, 3) := by decide +kernel
theorem dX6_count_163 : decode cX6_count 163 = .ok (.athrow, 1) := by decide +kernel
theorem dX6_setting_0 : decode cX6_setting 0 = .ok (.iload_n 1, 1) := by decide +kernel
theorem dX6_setting_1 : decode cX6_setting 1 = .ok (.invokestatic 85, 3) := by decide +kernel
theorem dX6_setting_4 : decode cX6_setting 4 = .ok (.aload_n 0, 1) := by decide +kernel
theorem dX6_setting_5 : decode cX6_setting 5 = .ok (.getfield 10, 3) := by decide +kernel
theorem dX6_setting_8 : decode cX6_setting 8 = .ok (.getfield 68, 3) := by decide +kernel
theorem dX6_setting_11 : decode cX6_setting 11 = .ok (.iload_n 1, 1) := by decide +kernel
theorem dX6_setting_12 : decode cX6_setting 12 = .ok (.iaload, 1) := by decide +kernel
theorem dX6_setting_13 : decode cX6_setting 13 = .ok (.ireturn, 1) := by decide +kernel
theorem dX6_ifPlayed_0 : decode cX6_ifPlayed 0 = .ok (.aload_n 0, 1) := by decide +kernel
theorem dX6_ifPlayed_1 : decode cX6_ifPlayed 1 = .ok (.iload_n 1, 1) := by decide +kernel
theorem dX6_ifPlayed_2 : decode cX6_ifPlayed 2 = .ok (.invokevirtual 120, 3) := by decide +kernel
theorem dX6_ifPlayed_5 : decode cX6_ifPlayed 5 = .ok (.iload_n 2, 1) := by decide +kernel
theorem dX6_ifPlayed_6 : decode cX6_ifPlayed 6 = .ok (.ifCond .lt 8, 3) := by decide +kernel
theorem dX6_ifPlayed_9 : decode cX6_ifPlayed 9 = .ok (.iload_n 2, 1) := by decide +kernel
theorem dX6_ifPlayed_10 : decode cX6_ifPlayed 10 = .ok (.iconst 5, 1) := by decide +kernel
theorem dX6_ifPlayed_11 : decode cX6_ifPlayed 11 = .ok (.if_icmp .lt 14, 3) := by decide +kernel
theorem dX6_ifPlayed_14 : decode cX6_ifPlayed 14 = .ok (.new 52, 3) := by decide +kernel
theorem dX6_ifPlayed_17 : decode cX6_ifPlayed 17 = .ok (.dup, 1) := by decide +kernel
theorem dX6_ifPlayed_18 : decode cX6_ifPlayed 18 = .ok (.ldc_w 267, 3) := by decide +kernel
theorem dX6_ifPlayed_21 : decode cX6_ifPlayed 21 = .ok (.invokespecial 56, 3) := by decide +kernel
theorem dX6_ifPlayed_24 : decode cX6_ifPlayed 24 = .ok (.athrow, 1) := by decide +kernel
theorem dX6_ifPlayed_25 : decode cX6_ifPlayed 25 = .ok (.aload_n 0, 1) := by decide +kernel
theorem dX6_ifPlayed_26 : decode cX6_ifPlayed 26 = .ok (.iload_n 1, 1) := by decide +kernel
theorem dX6_ifPlayed_27 : decode cX6_ifPlayed 27 = .ok (.invokevirtual 145, 3) := by decide +kernel
theorem dX6_ifPlayed_30 : decode cX6_ifPlayed 30 = .ok (.aload_n 0, 1) := by decide +kernel
theorem dX6_ifPlayed_31 : decode cX6_ifPlayed 31 = .ok (.getfield 30, 3) := by decide +kernel
theorem dX6_ifPlayed_34 : decode cX6_ifPlayed 34 = .ok (.iload_n 2, 1) := by decide +kernel
theorem dX6_ifPlayed_35 : decode cX6_ifPlayed 35 = .ok (.invokevirtual 269, 3) := by decide +kernel
theorem dX6_ifPlayed_38 : decode cX6_ifPlayed 38 = .ok (.ireturn, 1) := by decide +kernel
theorem dX6_lastsFor_0 : decode cX6_lastsFor 0 = .ok (.aload_n 0, 1) := by decide +kernel
theorem dX6_lastsFor_1 : decode cX6_lastsFor 1 = .ok (.iload_n 1, 1) := by decide +kernel
theorem dX6_lastsFor_2 : decode cX6_lastsFor 2 = .ok (.invokevirtual 120, 3) := by decide +kernel
theorem dX6_lastsFor_5 : decode cX6_lastsFor 5 = .ok (.aload_n 0, 1) := by decide +kernel
theorem dX6_lastsFor_6 : decode cX6_lastsFor 6 = .ok (.getfield 10, 3) := by decide +kernel
theorem dX6_lastsFor_9 : decode cX6_lastsFor 9 = .ok (.getfield 76, 3) := by decide +kernel
theorem dX6_lastsFor_12 : decode cX6_lastsFor 12 = .ok (.iload_n 1, 1) := by decide +kernel
theorem dX6_lastsFor_13 : decode cX6_lastsFor 13 = .ok (.aaload, 1) := by decide +kernel
theorem dX6_lastsFor_14 : decode cX6_lastsFor 14 = .ok (.astore_n 2, 1) := by decide +kernel
theorem dX6_lastsFor_15 : decode cX6_lastsFor 15 = .ok (.aload_n 0, 1) := by decide +kernel
theorem dX6_lastsFor_16 : decode cX6_lastsFor 16 = .ok (.getfield 30, 3) := by decide +kernel
theorem dX6_lastsFor_19 : decode cX6_lastsFor 19 = .ok (.aload_n 2, 1) := by decide +kernel
theorem dX6_lastsFor_20 : decode cX6_lastsFor 20 = .ok (.aload_n 0, 1) := by decide +kernel
theorem dX6_lastsFor_21 : decode cX6_lastsFor 21 = .ok (.getfield 10, 3) := by decide +kernel
theorem dX6_lastsFor_24 : decode cX6_lastsFor 24 = .ok (.getfield 68, 3) := by decide +kernel
theorem dX6_lastsFor_27 : decode cX6_lastsFor 27 = .ok (.invokevirtual 272, 3) := by decide +kernel
theorem dX6_lastsFor_30 : decode cX6_lastsFor 30 = .ok (.iconst 1, 1) := by decide +kernel
theorem dX6_lastsFor_31 : decode cX6_lastsFor 31 = .ok (.istore_n 3, 1) := by decide +kernel
theorem dX6_lastsFor_32 : decode cX6_lastsFor 32 = .ok (.iload_n 3, 1) := by decide +kernel
theorem dX6_lastsFor_33 : decode cX6_lastsFor 33 = .ok (.sipush 200, 3) := by decide +kernel
theorem dX6_lastsFor_36 : decode cX6_lastsFor 36 = .ok (.if_icmp .gt 44, 3) := by decide +kernel
theorem dX6_lastsFor_39 : decode cX6_lastsFor 39 = .ok (.aload_n 0, 1) := by decide +kernel
theorem dX6_lastsFor_40 : decode cX6_lastsFor 40 = .ok (.getfield 30, 3) := by decide +kernel
theorem dX6_lastsFor_43 : decode cX6_lastsFor 43 = .ok (.aload_n 2, 1) := by decide +kernel
theorem dX6_lastsFor_44 : decode cX6_lastsFor 44 = .ok (.getfield 207, 3) := by decide +kernel
theorem dX6_lastsFor_47 : decode cX6_lastsFor 47 = .ok (.invokevirtual 276, 3) := by decide +kernel
theorem dX6_lastsFor_50 : decode cX6_lastsFor 50 = .ok (.aload_n 0, 1) := by decide +kernel
theorem dX6_lastsFor_51 : decode cX6_lastsFor 51 = .ok (.getfield 30, 3) := by decide +kernel
theorem dX6_lastsFor_54 : decode cX6_lastsFor 54 = .ok (.getfield 280, 3) := by decide +kernel
theorem dX6_lastsFor_57 : decode cX6_lastsFor 57 = .ok (.ifCond .le 5, 3) := by decide +kernel
theorem dX6_lastsFor_60 : decode cX6_lastsFor 60 = .ok (.iload_n 3, 1) := by decide +kernel
theorem dX6_lastsFor_61 : decode cX6_lastsFor 61 = .ok (.ireturn, 1) := by decide +kernel
theorem dX6_lastsFor_62 : decode cX6_lastsFor 62 = .ok (.aload_n 0, 1) := by decide +kernel
theorem dX6_lastsFor_63 : decode cX6_lastsFor 63 = .ok (.getfield 30, 3) := by decide +kernel
theorem dX6_lastsFor_66 : decode cX6_lastsFor 66 = .ok (.getfield 152, 3) := by decide +kernel
theorem dX6_lastsFor_69 : decode cX6_lastsFor 69 = .ok (.ifCond .ne 5, 3) := by decide +kernel
theorem dX6_lastsFor_72 : decode cX6_lastsFor 72 = .ok (.iconst (-1), 1) := by decide +kernel
theorem dX6_lastsFor_73 : decode cX6_lastsFor 73 = .ok (.ireturn, 1) := by decide +kernel
theorem dX6_lastsFor_74 : decode cX6_lastsFor 74 = .ok (.iinc 3 1, 3) := by decide +kernel
theorem dX6_lastsFor_77 : decode cX6_lastsFor 77 = .ok (.goto (-45), 3) := by decide +kernel
theorem dX6_lastsFor_80 : decode cX6_lastsFor 80 = .ok (.iconst (-1), 1) := by decide +kernel
theorem dX6_lastsFor_81 : decode cX6_lastsFor 81 = .ok (.ireturn, 1) := by decide +kernel
theorem dX6_bestTurn_0 : decode cX6_bestTurn 0 = .ok (.aload_n 0, 1) := by decide +kernel
theorem dX6_bestTurn_1 : decode cX6_bestTurn 1 = .ok (.iload_n 1, 1) := by decide +kernel
theorem dX6_bestTurn_2 : decode cX6_bestTurn 2 = .ok (.invokevirtual 120, 3) := by decide +kernel
theorem dX6_bestTurn_5 : decode cX6_bestTurn 5 = .ok (.iload_n 2, 1) := by decide +kernel
theorem dX6_bestTurn_6 : decode cX6_bestTurn 6 = .ok (.ifCond .eq 19, 3) := by decide +kernel
theorem dX6_bestTurn_9 : decode cX6_bestTurn 9 = .ok (.iload_n 2, 1) := by decide +kernel
theorem dX6_bestTurn_10 : decode cX6_bestTurn 10 = .ok (.iconst 1, 1) := by decide +kernel
theorem dX6_bestTurn_11 : decode cX6_bestTurn 11 = .ok (.if_icmp .eq 14, 3) := by decide +kernel
theorem dX6_bestTurn_14 : decode cX6_bestTurn 14 = .ok (.new 52, 3) := by decide +kernel
theorem dX6_bestTurn_17 : decode cX6_bestTurn 17 = .ok (.dup, 1) := by decide +kernel
theorem dX6_bestTurn_18 : decode cX6_bestTurn 18 = .ok (.ldc_w 283, 3) := by decide +kernel
theorem dX6_bestTurn_21 : decode cX6_bestTurn 21 = .ok (.invokespecial 56, 3) := by decide +kernel
theorem dX6_bestTurn_24 : decode cX6_bestTurn 24 = .ok (.athrow, 1) := by decide +kernel
theorem dX6_bestTurn_25 : decode cX6_bestTurn 25 = .ok (.iconst 0, 1) := by decide +kernel
theorem dX6_bestTurn_26 : decode cX6_bestTurn 26 = .ok (.istore_n 3, 1) := by decide +kernel
theorem dX6_bestTurn_27 : decode cX6_bestTurn 27 = .ok (.aload_n 0, 1) := by decide +kernel
theorem dX6_bestTurn_28 : decode cX6_bestTurn 28 = .ok (.getfield 10, 3) := by decide +kernel
theorem dX6_bestTurn_31 : decode cX6_bestTurn 31 = .ok (.getfield 76, 3) := by decide +kernel
theorem dX6_bestTurn_34 : decode cX6_bestTurn 34 = .ok (.iload_n 1, 1) := by decide +kernel
theorem dX6_bestTurn_35 : decode cX6_bestTurn 35 = .ok (.aaload, 1) := by decide +kernel
theorem dX6_bestTurn_36 : decode cX6_bestTurn 36 = .ok (.invokevirtual 129, 3) := by decide +kernel
theorem dX6_bestTurn_39 : decode cX6_bestTurn 39 = .ok (.istore 4, 2) := by decide +kernel
theorem dX6_bestTurn_41 : decode cX6_bestTurn 41 = .ok (.iconst 1, 1) := by decide +kernel
theorem dX6_bestTurn_42 : decode cX6_bestTurn 42 = .ok (.istore 5, 2) := by decide +kernel
theorem dX6_bestTurn_44 : decode cX6_bestTurn 44 = .ok (.iload 5, 2) := by decide +kernel
theorem dX6_bestTurn_46 : decode cX6_bestTurn 46 = .ok (.bipush 24, 2) := by decide +kernel
theorem dX6_bestTurn_48 : decode cX6_bestTurn 48 = .ok (.if_icmp .ge 39, 3) := by decide +kernel
theorem dX6_bestTurn_51 : decode cX6_bestTurn 51 = .ok (.aload_n 0, 1) := by decide +kernel
theorem dX6_bestTurn_52 : decode cX6_bestTurn 52 = .ok (.getfield 10, 3) := by decide +kernel
theorem dX6_bestTurn_55 : decode cX6_bestTurn 55 = .ok (.getfield 76, 3) := by decide +kernel
theorem dX6_bestTurn_58 : decode cX6_bestTurn 58 = .ok (.iload_n 1, 1) := by decide +kernel
theorem dX6_bestTurn_59 : decode cX6_bestTurn 59 = .ok (.aaload, 1) := by decide +kernel
theorem dX6_bestTurn_60 : decode cX6_bestTurn 60 = .ok (.iload 5, 2) := by decide +kernel
theorem dX6_bestTurn_62 : decode cX6_bestTurn 62 = .ok (.invokevirtual 285, 3) := by decide +kernel
theorem dX6_bestTurn_65 : decode cX6_bestTurn 65 = .ok (.istore 6, 2) := by decide +kernel
theorem dX6_bestTurn_67 : decode cX6_bestTurn 67 = .ok (.iload 6, 2) := by decide +kernel
theorem dX6_bestTurn_69 : decode cX6_bestTurn 69 = .ok (.iload 4, 2) := by decide +kernel
theorem dX6_bestTurn_71 : decode cX6_bestTurn 71 = .ok (.if_icmp .le 10, 3) := by decide +kernel
theorem dX6_bestTurn_74 : decode cX6_bestTurn 74 = .ok (.iload 5, 2) := by decide +kernel
theorem dX6_bestTurn_76 : decode cX6_bestTurn 76 = .ok (.istore_n 3, 1) := by decide +kernel
theorem dX6_bestTurn_77 : decode cX6_bestTurn 77 = .ok (.iload 6, 2) := by decide +kernel
theorem dX6_bestTurn_79 : decode cX6_bestTurn 79 = .ok (.istore 4, 2) := by decide +kernel
theorem dX6_bestTurn_81 : decode cX6_bestTurn 81 = .ok (.iinc 5 1, 3) := by decide +kernel
theorem dX6_bestTurn_84 : decode cX6_bestTurn 84 = .ok (.goto (-40), 3) := by decide +kernel
theorem dX6_bestTurn_87 : decode cX6_bestTurn 87 = .ok (.iload_n 2, 1) := by decide +kernel
theorem dX6_bestTurn_88 : decode cX6_bestTurn 88 = .ok (.ifCond .ne 7, 3) := by decide +kernel
theorem dX6_bestTurn_91 : decode cX6_bestTurn 91 = .ok (.iload_n 3, 1) := by decide +kernel
theorem dX6_bestTurn_92 : decode cX6_bestTurn 92 = .ok (.goto 5, 3) := by decide +kernel
theorem dX6_bestTurn_95 : decode cX6_bestTurn 95 = .ok (.iload 4, 2) := by decide +kernel
theorem dX6_bestTurn_97 : decode cX6_bestTurn 97 = .ok (.ireturn, 1) := by decide +kernel
theorem dX6_bestDrum_0 : decode cX6_bestDrum 0 = .ok (.aload_n 0, 1) := by decide +kernel
theorem dX6_bestDrum_1 : decode cX6_bestDrum 1 = .ok (.iload_n 1, 1) := by decide +kernel
theorem dX6_bestDrum_2 : decode cX6_bestDrum 2 = .ok (.invokevirtual 120, 3) := by decide +kernel
theorem dX6_bestDrum_5 : decode cX6_bestDrum 5 = .ok (.iconst (-1), 1) := by decide +kernel
theorem dX6_bestDrum_6 : decode cX6_bestDrum 6 = .ok (.istore_n 2, 1) := by decide +kernel
theorem dX6_bestDrum_7 : decode cX6_bestDrum 7 = .ok (.iconst (-1), 1) := by decide +kernel
theorem dX6_bestDrum_8 : decode cX6_bestDrum 8 = .ok (.istore_n 3, 1) := by decide +kernel
theorem dX6_bestDrum_9 : decode cX6_bestDrum 9 = .ok (.iconst 0, 1) := by decide +kernel
theorem dX6_bestDrum_10 : decode cX6_bestDrum 10 = .ok (.istore 4, 2) := by decide +kernel
theorem dX6_bestDrum_12 : decode cX6_bestDrum 12 = .ok (.iload 4, 2) := by decide +kernel
theorem dX6_bestDrum_14 : decode cX6_bestDrum 14 = .ok (.aload_n 0, 1) := by decide +kernel
theorem dX6_bestDrum_15 : decode cX6_bestDrum 15 = .ok (.getfield 10, 3) := by decide +kernel
theorem dX6_bestDrum_18 : decode cX6_bestDrum 18 = .ok (.getfield 59, 3) := by decide +kernel
theorem dX6_bestDrum_21 : decode cX6_bestDrum 21 = .ok (.if_icmp .ge 57, 3) := by decide +kernel
theorem dX6_bestDrum_24 : decode cX6_bestDrum 24 = .ok (.aload_n 0, 1) := by decide +kernel
theorem dX6_bestDrum_25 : decode cX6_bestDrum 25 = .ok (.getfield 10, 3) := by decide +kernel
theorem dX6_bestDrum_28 : decode cX6_bestDrum 28 = .ok (.getfield 76, 3) := by decide +kernel
theorem dX6_bestDrum_31 : decode cX6_bestDrum 31 = .ok (.iload 4, 2) := by decide +kernel
theorem dX6_bestDrum_33 : decode cX6_bestDrum 33 = .ok (.aaload, 1) := by decide +kernel
theorem dX6_bestDrum_34 : decode cX6_bestDrum 34 = .ok (.getfield 109, 3) := by decide +kernel
theorem dX6_bestDrum_37 : decode cX6_bestDrum 37 = .ok (.aload_n 0, 1) := by decide +kernel
theorem dX6_bestDrum_38 : decode cX6_bestDrum 38 = .ok (.getfield 10, 3) := by decide +kernel
theorem dX6_bestDrum_41 : decode cX6_bestDrum 41 = .ok (.getfield 76, 3) := by decide +kernel
theorem dX6_bestDrum_44 : decode cX6_bestDrum 44 = .ok (.iload_n 1, 1) := by decide +kernel
theorem dX6_bestDrum_45 : decode cX6_bestDrum 45 = .ok (.aaload, 1) := by decide +kernel
theorem dX6_bestDrum_46 : decode cX6_bestDrum 46 = .ok (.getfield 207, 3) := by decide +kernel
theorem dX6_bestDrum_49 : decode cX6_bestDrum 49 = .ok (.invokestatic 288, 3) := by decide +kernel
theorem dX6_bestDrum_52 : decode cX6_bestDrum 52 = .ok (.istore 5, 2) := by decide +kernel
theorem dX6_bestDrum_54 : decode cX6_bestDrum 54 = .ok (.iload 4, 2) := by decide +kernel
theorem dX6_bestDrum_56 : decode cX6_bestDrum 56 = .ok (.iload_n 1, 1) := by decide +kernel
theorem dX6_bestDrum_57 : decode cX6_bestDrum 57 = .ok (.if_icmp .eq 15, 3) := by decide +kernel
theorem dX6_bestDrum_60 : decode cX6_bestDrum 60 = .ok (.iload 5, 2) := by decide +kernel
theorem dX6_bestDrum_62 : decode cX6_bestDrum 62 = .ok (.iload_n 3, 1) := by decide +kernel
theorem dX6_bestDrum_63 : decode cX6_bestDrum 63 = .ok (.if_icmp .le 9, 3) := by decide +kernel
theorem dX6_bestDrum_66 : decode cX6_bestDrum 66 = .ok (.iload 4, 2) := by decide +kernel
theorem dX6_bestDrum_68 : decode cX6_bestDrum 68 = .ok (.istore_n 2, 1) := by decide +kernel
theorem dX6_bestDrum_69 : decode cX6_bestDrum 69 = .ok (.iload 5, 2) := by decide +kernel
theorem dX6_bestDrum_71 : decode cX6_bestDrum 71 = .ok (.istore_n 3, 1) := by decide +kernel
theorem dX6_bestDrum_72 : decode cX6_bestDrum 72 = .ok (.iinc 4 1, 3) := by decide +kernel
theorem dX6_bestDrum_75 : decode cX6_bestDrum 75 = .ok (.goto (-63), 3) := by decide +kernel
theorem dX6_bestDrum_78 : decode cX6_bestDrum 78 = .ok (.iload_n 2, 1) := by decide +kernel
theorem dX6_bestDrum_79 : decode cX6_bestDrum 79 = .ok (.ireturn, 1) := by decide +kernel
theorem dX6_bestTrades_0 : decode cX6_bestTrades 0 = .ok (.iload_n 1, 1) := by decide +kernel
theorem dX6_bestTrades_1 : decode cX6_bestTrades 1 = .ok (.ifCond .eq 21, 3) := by decide +kernel
theorem dX6_bestTrades_4 : decode cX6_bestTrades 4 = .ok (.iload_n 1, 1) := by decide +kernel
theorem dX6_bestTrades_5 : decode cX6_bestTrades 5 = .ok (.invokestatic 292, 3) := by decide +kernel
theorem dX6_bestTrades_8 : decode cX6_bestTrades 8 = .ok (.ifCond .ne 14, 3) := by decide +kernel
theorem dX6_bestTrades_11 : decode cX6_bestTrades 11 = .ok (.new 52, 3) := by decide +kernel
theorem dX6_bestTrades_14 : decode cX6_bestTrades 14 = .ok (.dup, 1) := by decide +kernel
theorem dX6_bestTrades_15 : decode cX6_bestTrades 15 = .ok (.ldc_w 296, 3) := by decide +kernel
theorem dX6_bestTrades_18 : decode cX6_bestTrades 18 = .ok (.invokespecial 56, 3) := by decide +kernel
theorem dX6_bestTrades_21 : decode cX6_bestTrades 21 = .ok (.athrow, 1) := by decide +kernel
theorem dX6_bestTrades_22 : decode cX6_bestTrades 22 = .ok (.aload_n 0, 1) := by decide +kernel
theorem dX6_bestTrades_23 : decode cX6_bestTrades 23 = .ok (.getfield 44, 3) := by decide +kernel
theorem dX6_bestTrades_26 : decode cX6_bestTrades 26 = .ok (.aload_n 0, 1) := by decide +kernel
theorem dX6_bestTrades_27 : decode cX6_bestTrades 27 = .ok (.getfield 10, 3) := by decide +kernel
theorem dX6_bestTrades_30 : decode cX6_bestTrades 30 = .ok (.invokevirtual 298, 3) := by decide +kernel
theorem dX6_bestTrades_33 : decode cX6_bestTrades 33 = .ok (.aload_n 0, 1) := by decide +kernel
theorem dX6_bestTrades_34 : decode cX6_bestTrades 34 = .ok (.getfield 44, 3) := by decide +kernel
theorem dX6_bestTrades_37 : decode cX6_bestTrades 37 = .ok (.iload_n 1, 1) := by decide +kernel
theorem dX6_bestTrades_38 : decode cX6_bestTrades 38 = .ok (.invokevirtual 299, 3) := by decide +kernel
theorem dX6_bestTrades_41 : decode cX6_bestTrades 41 = .ok (.ireturn, 1) := by decide +kernel
theorem dX6_ring_0 : decode cX6_ring 0 = .ok (.iload_n 1, 1) := by decide +kernel
theorem dX6_ring_1 : decode cX6_ring 1 = .ok (.ifCond .eq 26, 3) := by decide +kernel
theorem dX6_ring_4 : decode cX6_ring 4 = .ok (.iload_n 1, 1) := by decide +kernel
theorem dX6_ring_5 : decode cX6_ring 5 = .ok (.iconst 1, 1) := by decide +kernel
theorem dX6_ring_6 : decode cX6_ring 6 = .ok (.if_icmp .eq 21, 3) := by decide +kernel
theorem dX6_ring_9 : decode cX6_ring 9 = .ok (.iload_n 1, 1) := by decide +kernel
theorem dX6_ring_10 : decode cX6_ring 10 = .ok (.invokestatic 292, 3) := by decide +kernel
theorem dX6_ring_13 : decode cX6_ring 13 = .ok (.ifCond .ne 14, 3) := by decide +kernel
theorem dX6_ring_16 : decode cX6_ring 16 = .ok (.new 52, 3) := by decide +kernel
theorem dX6_ring_19 : decode cX6_ring 19 = .ok (.dup, 1) := by decide +kernel
theorem dX6_ring_20 : decode cX6_ring 20 = .ok (.ldc_w 300, 3) := by decide +kernel
theorem dX6_ring_23 : decode cX6_ring 23 = .ok (.invokespecial 56, 3) := by decide +kernel
theorem dX6_ring_26 : decode cX6_ring 26 = .ok (.athrow, 1) := by decide +kernel
theorem dX6_ring_27 : decode cX6_ring 27 = .ok (.aload_n 0, 1) := by decide +kernel
theorem dX6_ring_28 : decode cX6_ring 28 = .ok (.getfield 37, 3) := by decide +kernel
theorem dX6_ring_31 : decode cX6_ring 31 = .ok (.aload_n 0, 1) := by decide +kernel
theorem dX6_ring_32 : decode cX6_ring 32 = .ok (.getfield 10, 3) := by decide +kernel
theorem dX6_ring_35 : decode cX6_ring 35 = .ok (.invokevirtual 176, 3) := by decide +kernel
theorem dX6_ring_38 : decode cX6_ring 38 = .ok (.aload_n 0, 1) := by decide +kernel
theorem dX6_ring_39 : decode cX6_ring 39 = .ok (.getfield 37, 3) := by decide +kernel
theorem dX6_ring_42 : decode cX6_ring 42 = .ok (.iload_n 1, 1) := by decide +kernel
theorem dX6_ring_43 : decode cX6_ring 43 = .ok (.invokevirtual 302, 3) := by decide +kernel
theorem dX6_ring_46 : decode cX6_ring 46 = .ok (.ireturn, 1) := by decide +kernel
theorem dX6_tuneShare_0 : decode cX6_tuneShare 0 = .ok (.iconst 0, 1) := by decide +kernel
theorem dX6_tuneShare_1 : decode cX6_tuneShare 1 = .ok (.istore_n 1, 1) := by decide +kernel
theorem dX6_tuneShare_2 : decode cX6_tuneShare 2 = .ok (.iconst 0, 1) := by decide +kernel
theorem dX6_tuneShare_3 : decode cX6_tuneShare 3 = .ok (.istore_n 2, 1) := by decide +kernel
theorem dX6_tuneShare_4 : decode cX6_tuneShare 4 = .ok (.iload_n 2, 1) := by decide +kernel
theorem dX6_tuneShare_5 : decode cX6_tuneShare 5 = .ok (.aload_n 0, 1) := by decide +kernel
theorem dX6_tuneShare_6 : decode cX6_tuneShare 6 = .ok (.getfield 10, 3) := by decide +kernel
theorem dX6_tuneShare_9 : decode cX6_tuneShare 9 = .ok (.getfield 59, 3) := by decide +kernel
theorem dX6_tuneShare_12 : decode cX6_tuneShare 12 = .ok (.if_icmp .ge 27, 3) := by decide +kernel
theorem dX6_tuneShare_15 : decode cX6_tuneShare 15 = .ok (.iload_n 1, 1) := by decide +kernel
theorem dX6_tuneShare_16 : decode cX6_tuneShare 16 = .ok (.aload_n 0, 1) := by decide +kernel
theorem dX6_tuneShare_17 : decode cX6_tuneShare 17 = .ok (.getfield 10, 3) := by decide +kernel
theorem dX6_tuneShare_20 : decode cX6_tuneShare 20 = .ok (.getfield 76, 3) := by decide +kernel
theorem dX6_tuneShare_23 : decode cX6_tuneShare 23 = .ok (.iload_n 2, 1) := by decide +kernel
theorem dX6_tuneShare_24 : decode cX6_tuneShare 24 = .ok (.aaload, 1) := by decide +kernel
theorem dX6_tuneShare_25 : decode cX6_tuneShare 25 = .ok (.getfield 207, 3) := by decide +kernel
theorem dX6_tuneShare_28 : decode cX6_tuneShare 28 = .ok (.invokestatic 112, 3) := by decide +kernel
theorem dX6_tuneShare_31 : decode cX6_tuneShare 31 = .ok (.iadd, 1) := by decide +kernel
theorem dX6_tuneShare_32 : decode cX6_tuneShare 32 = .ok (.istore_n 1, 1) := by decide +kernel
theorem dX6_tuneShare_33 : decode cX6_tuneShare 33 = .ok (.iinc 2 1, 3) := by decide +kernel
theorem dX6_tuneShare_36 : decode cX6_tuneShare 36 = .ok (.goto (-32), 3) := by decide +kernel
theorem dX6_tuneShare_39 : decode cX6_tuneShare 39 = .ok (.iload_n 1, 1) := by decide +kernel
theorem dX6_tuneShare_40 : decode cX6_tuneShare 40 = .ok (.ifCond .ne 5, 3) := by decide +kernel
theorem dX6_tuneShare_43 : decode cX6_tuneShare 43 = .ok (.dconst 0, 1) := by decide +kernel
theorem dX6_tuneShare_44 : decode cX6_tuneShare 44 = .ok (.dreturn, 1) := by decide +kernel
theorem dX6_tuneShare_45 : decode cX6_tuneShare 45 = .ok (.aload_n 0, 1) := by decide +kernel
theorem dX6_tuneShare_46 : decode cX6_tuneShare 46 = .ok (.getfield 10, 3) := by decide +kernel
theorem dX6_tuneShare_49 : decode cX6_tuneShare 49 = .ok (.invokevirtual 262, 3) := by decide +kernel
theorem dX6_tuneShare_52 : decode cX6_tuneShare 52 = .ok (.i2d, 1) := by decide +kernel
theorem dX6_tuneShare_53 : decode cX6_tuneShare 53 = .ok (.iload_n 1, 1) := by decide +kernel
theorem dX6_tuneShare_54 : decode cX6_tuneShare 54 = .ok (.i2d, 1) := by decide +kernel
theorem dX6_tuneShare_55 : decode cX6_tuneShare 55 = .ok (.ddiv, 1) := by decide +kernel
theorem dX6_tuneShare_56 : decode cX6_tuneShare 56 = .ok (.dreturn, 1) := by decide +kernel
theorem dX6_digest_0 : decode cX6_digest 0 = .ok (.ldc2_w 303, 3) := by decide +kernel
theorem dX6_digest_3 : decode cX6_digest 3 = .ok (.lstore_n 1, 1) := by decide +kernel
theorem dX6_digest_4 : decode cX6_digest 4 = .ok (.iconst 0, 1) := by decide +kernel
theorem dX6_digest_5 : decode cX6_digest 5 = .ok (.istore_n 3, 1) := by decide +kernel
theorem dX6_digest_6 : decode cX6_digest 6 = .ok (.iload_n 3, 1) := by decide +kernel
theorem dX6_digest_7 : decode cX6_digest 7 = .ok (.bipush 11, 2) := by decide +kernel
theorem dX6_digest_9 : decode cX6_digest 9 = .ok (.if_icmp .ge 20, 3) := by decide +kernel
theorem dX6_digest_12 : decode cX6_digest 12 = .ok (.lload_n 1, 1) := by decide +kernel
theorem dX6_digest_13 : decode cX6_digest 13 = .ok (.aload_n 0, 1) := by decide +kernel
theorem dX6_digest_14 : decode cX6_digest 14 = .ok (.iload_n 3, 1) := by decide +kernel
theorem dX6_digest_15 : decode cX6_digest 15 = .ok (.invokevirtual 305, 3) := by decide +kernel
theorem dX6_digest_18 : decode cX6_digest 18 = .ok (.i2l, 1) := by decide +kernel
theorem dX6_digest_19 : decode cX6_digest 19 = .ok (.invokestatic 308, 3) := by decide +kernel
theorem dX6_digest_22 : decode cX6_digest 22 = .ok (.lstore_n 1, 1) := by decide +kernel
theorem dX6_digest_23 : decode cX6_digest 23 = .ok (.iinc 3 1, 3) := by decide +kernel
theorem dX6_digest_26 : decode cX6_digest 26 = .ok (.goto (-20), 3) := by decide +kernel
theorem dX6_digest_29 : decode cX6_digest 29 = .ok (.iconst 0, 1) := by decide +kernel
theorem dX6_digest_30 : decode cX6_digest 30 = .ok (.istore_n 3, 1) := by decide +kernel
theorem dX6_digest_31 : decode cX6_digest 31 = .ok (.iload_n 3, 1) := by decide +kernel
theorem dX6_digest_32 : decode cX6_digest 32 = .ok (.iconst 3, 1) := by decide +kernel
theorem dX6_digest_33 : decode cX6_digest 33 = .ok (.if_icmp .ge 24, 3) := by decide +kernel
theorem dX6_digest_36 : decode cX6_digest 36 = .ok (.lload_n 1, 1) := by decide +kernel
theorem dX6_digest_37 : decode cX6_digest 37 = .ok (.aload_n 0, 1) := by decide +kernel
theorem dX6_digest_38 : decode cX6_digest 38 = .ok (.getfield 10, 3) := by decide +kernel
theorem dX6_digest_41 : decode cX6_digest 41 = .ok (.getfield 68, 3) := by decide +kernel
theorem dX6_digest_44 : decode cX6_digest 44 = .ok (.iload_n 3, 1) := by decide +kernel
theorem dX6_digest_45 : decode cX6_digest 45 = .ok (.iaload, 1) := by decide +kernel
theorem dX6_digest_46 : decode cX6_digest 46 = .ok (.i2l, 1) := by decide +kernel
theorem dX6_digest_47 : decode cX6_digest 47 = .ok (.invokestatic 308, 3) := by decide +kernel
theorem dX6_digest_50 : decode cX6_digest 50 = .ok (.lstore_n 1, 1) := by decide +kernel
theorem dX6_digest_51 : decode cX6_digest 51 = .ok (.iinc 3 1, 3) := by decide +kernel
theorem dX6_digest_54 : decode cX6_digest 54 = .ok (.goto (-23), 3) := by decide +kernel
theorem dX6_digest_57 : decode cX6_digest 57 = .ok (.iconst 0, 1) := by decide +kernel
theorem dX6_digest_58 : decode cX6_digest 58 = .ok (.istore_n 3, 1) := by decide +kernel
theorem dX6_digest_59 : decode cX6_digest 59 = .ok (.iload_n 3, 1) := by decide +kernel
theorem dX6_digest_60 : decode cX6_digest 60 = .ok (.aload_n 0, 1) := by decide +kernel
theorem dX6_digest_61 : decode cX6_digest 61 = .ok (.getfield 10, 3) := by decide +kernel
theorem dX6_digest_64 : decode cX6_digest 64 = .ok (.getfield 59, 3) := by decide +kernel
theorem dX6_digest_67 : decode cX6_digest 67 = .ok (.if_icmp .ge 23, 3) := by decide +kernel
theorem dX6_digest_70 : decode cX6_digest 70 = .ok (.aload_n 0, 1) := by decide +kernel
theorem dX6_digest_71 : decode cX6_digest 71 = .ok (.lload_n 1, 1) := by decide +kernel
theorem dX6_digest_72 : decode cX6_digest 72 = .ok (.iload_n 3, 1) := by decide +kernel
theorem dX6_digest_73 : decode cX6_digest 73 = .ok (.invokevirtual 312, 3) := by decide +kernel
theorem dX6_digest_76 : decode cX6_digest 76 = .ok (.lstore_n 1, 1) := by decide +kernel
theorem dX6_digest_77 : decode cX6_digest 77 = .ok (.aload_n 0, 1) := by decide +kernel
theorem dX6_digest_78 : decode cX6_digest 78 = .ok (.lload_n 1, 1) := by decide +kernel
theorem dX6_digest_79 : decode cX6_digest 79 = .ok (.iload_n 3, 1) := by decide +kernel
theorem dX6_digest_80 : decode cX6_digest 80 = .ok (.invokevirtual 316, 3) := by decide +kernel
theorem dX6_digest_83 : decode cX6_digest 83 = .ok (.lstore_n 1, 1) := by decide +kernel
theorem dX6_digest_84 : decode cX6_digest 84 = .ok (.iinc 3 1, 3) := by decide +kernel
theorem dX6_digest_87 : decode cX6_digest 87 = .ok (.goto (-28), 3) := by decide +kernel
theorem dX6_digest_90 : decode cX6_digest 90 = .ok (.aload_n 0, 1) := by decide +kernel
theorem dX6_digest_91 : decode cX6_digest 91 = .ok (.lload_n 1, 1) := by decide +kernel
theorem dX6_digest_92 : decode cX6_digest 92 = .ok (.invokevirtual 319, 3) := by decide +kernel
theorem dX6_digest_95 : decode cX6_digest 95 = .ok (.lstore_n 1, 1) := by decide +kernel
theorem dX6_digest_96 : decode cX6_digest 96 = .ok (.aload_n 0, 1) := by decide +kernel
theorem dX6_digest_97 : decode cX6_digest 97 = .ok (.lload_n 1, 1) := by decide +kernel
theorem dX6_digest_98 : decode cX6_digest 98 = .ok (.invokevirtual 323, 3) := by decide +kernel
theorem dX6_digest_101 : decode cX6_digest 101 = .ok (.lstore_n 1, 1) := by decide +kernel
theorem dX6_digest_102 : decode cX6_digest 102 = .ok (.lload_n 1, 1) := by decide +kernel
theorem dX6_digest_103 : decode cX6_digest 103 = .ok (.aload_n 0, 1) := by decide +kernel
theorem dX6_digest_104 : decode cX6_digest 104 = .ok (.invokevirtual 326, 3) := by decide +kernel
theorem dX6_digest_107 : decode cX6_digest 107 = .ok (.invokestatic 330, 3) := by decide +kernel
theorem dX6_digest_110 : decode cX6_digest 110 = .ok (.invokestatic 308, 3) := by decide +kernel
theorem dX6_digest_113 : decode cX6_digest 113 = .ok (.lstore_n 1, 1) := by decide +kernel
theorem dX6_digest_114 : decode cX6_digest 114 = .ok (.lload_n 1, 1) := by decide +kernel
theorem dX6_digest_115 : decode cX6_digest 115 = .ok (.aload_n 0, 1) := by decide +kernel
theorem dX6_digest_116 : decode cX6_digest 116 = .ok (.getfield 23, 3) := by decide +kernel
theorem dX6_digest_119 : decode cX6_digest 119 = .ok (.getfield 189, 3) := by decide +kernel
theorem dX6_digest_122 : decode cX6_digest 122 = .ok (.i2l, 1) := by decide +kernel
theorem dX6_digest_123 : decode cX6_digest 123 = .ok (.invokestatic 308, 3) := by decide +kernel
theorem dX6_digest_126 : decode cX6_digest 126 = .ok (.lstore_n 1, 1) := by decide +kernel
theorem dX6_digest_127 : decode cX6_digest 127 = .ok (.iconst 0, 1) := by decide +kernel
theorem dX6_digest_128 : decode cX6_digest 128 = .ok (.istore_n 3, 1) := by decide +kernel
theorem dX6_digest_129 : decode cX6_digest 129 = .ok (.iload_n 3, 1) := by decide +kernel
theorem dX6_digest_130 : decode cX6_digest 130 = .ok (.aload_n 0, 1) := by decide +kernel
theorem dX6_digest_131 : decode cX6_digest 131 = .ok (.getfield 23, 3) := by decide +kernel
theorem dX6_digest_134 : decode cX6_digest 134 = .ok (.getfield 189, 3) := by decide +kernel
theorem dX6_digest_137 : decode cX6_digest 137 = .ok (.if_icmp .ge 30, 3) := by decide +kernel
theorem dX6_digest_140 : decode cX6_digest 140 = .ok (.iload_n 3, 1) := by decide +kernel
theorem dX6_digest_141 : decode cX6_digest 141 = .ok (.bipush 60, 2) := by decide +kernel
theorem dX6_digest_143 : decode cX6_digest 143 = .ok (.if_icmp .ge 24, 3) := by decide +kernel
theorem dX6_digest_146 : decode cX6_digest 146 = .ok (.lload_n 1, 1) := by decide +kernel
theorem dX6_digest_147 : decode cX6_digest 147 = .ok (.aload_n 0, 1) := by decide +kernel
theorem dX6_digest_148 : decode cX6_digest 148 = .ok (.getfield 23, 3) := by decide +kernel
theorem dX6_digest_151 : decode cX6_digest 151 = .ok (.getfield 192, 3) := by decide +kernel
theorem dX6_digest_154 : decode cX6_digest 154 = .ok (.iload_n 3, 1) := by decide +kernel
theorem dX6_digest_155 : decode cX6_digest 155 = .ok (.iaload, 1) := by decide +kernel
theorem dX6_digest_156 : decode cX6_digest 156 = .ok (.i2l, 1) := by decide +kernel
theorem dX6_digest_157 : decode cX6_digest 157 = .ok (.invokestatic 308, 3) := by decide +kernel
theorem dX6_digest_160 : decode cX6_digest 160 = .ok (.lstore_n 1, 1) := by decide +kernel
theorem dX6_digest_161 : decode cX6_digest 161 = .ok (.iinc 3 1, 3) := by decide +kernel
theorem dX6_digest_164 : decode cX6_digest 164 = .ok (.goto (-35), 3) := by decide +kernel
theorem dX6_digest_167 : decode cX6_digest 167 = .ok (.lload_n 1, 1) := by decide +kernel
theorem dX6_digest_168 : decode cX6_digest 168 = .ok (.lreturn, 1) := by decide +kernel
theorem dX6_mixed_0 : decode cX6_mixed 0 = .ok (.ldc2_w 334, 3) := by decide +kernel
theorem dX6_mixed_3 : decode cX6_mixed 3 = .ok (.lload_n 0, 1) := by decide +kernel
theorem dX6_mixed_4 : decode cX6_mixed 4 = .ok (.lmul, 1) := by decide +kernel
theorem dX6_mixed_5 : decode cX6_mixed 5 = .ok (.lload_n 2, 1) := by decide +kernel
theorem dX6_mixed_6 : decode cX6_mixed 6 = .ok (.ladd, 1) := by decide +kernel
theorem dX6_mixed_7 : decode cX6_mixed 7 = .ok (.lreturn, 1) := by decide +kernel
theorem dX6_mixedWithTown_0 : decode cX6_mixedWithTown 0 = .ok (.lload_n 1, 1) := by decide +kernel
theorem dX6_mixedWithTown_1 : decode cX6_mixedWithTown 1 = .ok (.lstore 4, 2) := by decide +kernel
theorem dX6_mixedWithTown_3 : decode cX6_mixedWithTown 3 = .ok (.iconst 0, 1) := by decide +kernel
theorem dX6_mixedWithTown_4 : decode cX6_mixedWithTown 4 = .ok (.istore 6, 2) := by decide +kernel
theorem dX6_mixedWithTown_6 : decode cX6_mixedWithTown 6 = .ok (.iload 6, 2) := by decide +kernel
theorem dX6_mixedWithTown_8 : decode cX6_mixedWithTown 8 = .ok (.bipush 12, 2) := by decide +kernel
theorem dX6_mixedWithTown_10 : decode cX6_mixedWithTown 10 = .ok (.if_icmp .ge 24, 3) := by decide +kernel
theorem dX6_mixedWithTown_13 : decode cX6_mixedWithTown 13 = .ok (.lload 4, 2) := by decide +kernel
theorem dX6_mixedWithTown_15 : decode cX6_mixedWithTown 15 = .ok (.aload_n 0, 1) := by decide +kernel
theorem dX6_mixedWithTown_16 : decode cX6_mixedWithTown 16 = .ok (.iload_n 3, 1) := by decide +kernel
theorem dX6_mixedWithTown_17 : decode cX6_mixedWithTown 17 = .ok (.iload 6, 2) := by decide +kernel
theorem dX6_mixedWithTown_19 : decode cX6_mixedWithTown 19 = .ok (.invokevirtual 336, 3) := by decide +kernel
theorem dX6_mixedWithTown_22 : decode cX6_mixedWithTown 22 = .ok (.i2l, 1) := by decide +kernel
theorem dX6_mixedWithTown_23 : decode cX6_mixedWithTown 23 = .ok (.invokestatic 308, 3) := by decide +kernel
theorem dX6_mixedWithTown_26 : decode cX6_mixedWithTown 26 = .ok (.lstore 4, 2) := by decide +kernel
theorem dX6_mixedWithTown_28 : decode cX6_mixedWithTown 28 = .ok (.iinc 6 1, 3) := by decide +kernel
theorem dX6_mixedWithTown_31 : decode cX6_mixedWithTown 31 = .ok (.goto (-25), 3) := by decide +kernel
theorem dX6_mixedWithTown_34 : decode cX6_mixedWithTown 34 = .ok (.aload_n 0, 1) := by decide +kernel
theorem dX6_mixedWithTown_35 : decode cX6_mixedWithTown 35 = .ok (.iload_n 3, 1) := by decide +kernel
theorem dX6_mixedWithTown_36 : decode cX6_mixedWithTown 36 = .ok (.invokevirtual 145, 3) := by decide +kernel
theorem dX6_mixedWithTown_39 : decode cX6_mixedWithTown 39 = .ok (.iconst 0, 1) := by decide +kernel
theorem dX6_mixedWithTown_40 : decode cX6_mixedWithTown 40 = .ok (.istore 6, 2) := by decide +kernel
theorem dX6_mixedWithTown_42 : decode cX6_mixedWithTown 42 = .ok (.iload 6, 2) := by decide +kernel
theorem dX6_mixedWithTown_44 : decode cX6_mixedWithTown 44 = .ok (.iconst 5, 1) := by decide +kernel
theorem dX6_mixedWithTown_45 : decode cX6_mixedWithTown 45 = .ok (.if_icmp .ge 26, 3) := by decide +kernel
theorem dX6_mixedWithTown_48 : decode cX6_mixedWithTown 48 = .ok (.lload 4, 2) := by decide +kernel
theorem dX6_mixedWithTown_50 : decode cX6_mixedWithTown 50 = .ok (.aload_n 0, 1) := by decide +kernel
theorem dX6_mixedWithTown_51 : decode cX6_mixedWithTown 51 = .ok (.getfield 30, 3) := by decide +kernel
theorem dX6_mixedWithTown_54 : decode cX6_mixedWithTown 54 = .ok (.iload 6, 2) := by decide +kernel
theorem dX6_mixedWithTown_56 : decode cX6_mixedWithTown 56 = .ok (.invokevirtual 269, 3) := by decide +kernel
theorem dX6_mixedWithTown_59 : decode cX6_mixedWithTown 59 = .ok (.i2l, 1) := by decide +kernel
theorem dX6_mixedWithTown_60 : decode cX6_mixedWithTown 60 = .ok (.invokestatic 308, 3) := by decide +kernel
theorem dX6_mixedWithTown_63 : decode cX6_mixedWithTown 63 = .ok (.lstore 4, 2) := by decide +kernel
theorem dX6_mixedWithTown_65 : decode cX6_mixedWithTown 65 = .ok (.iinc 6 1, 3) := by decide +kernel
theorem dX6_mixedWithTown_68 : decode cX6_mixedWithTown 68 = .ok (.goto (-26), 3) := by decide +kernel
theorem dX6_mixedWithTown_71 : decode cX6_mixedWithTown 71 = .ok (.lload 4, 2) := by decide +kernel
theorem dX6_mixedWithTown_73 : decode cX6_mixedWithTown 73 = .ok (.aload_n 0, 1) := by decide +kernel
theorem dX6_mixedWithTown_74 : decode cX6_mixedWithTown 74 = .ok (.iload_n 3, 1) := by decide +kernel
theorem dX6_mixedWithTown_75 : decode cX6_mixedWithTown 75 = .ok (.invokevirtual 340, 3) := by decide +kernel
theorem dX6_mixedWithTown_78 : decode cX6_mixedWithTown 78 = .ok (.i2l, 1) := by decide +kernel
theorem dX6_mixedWithTown_79 : decode cX6_mixedWithTown 79 = .ok (.invokestatic 308, 3) := by decide +kernel
theorem dX6_mixedWithTown_82 : decode cX6_mixedWithTown 82 = .ok (.lstore 4, 2) := by decide +kernel
theorem dX6_mixedWithTown_84 : decode cX6_mixedWithTown 84 = .ok (.lload 4, 2) := by decide +kernel
theorem dX6_mixedWithTown_86 : decode cX6_mixedWithTown 86 = .ok (.aload_n 0, 1) := by decide +kernel
theorem dX6_mixedWithTown_87 : decode cX6_mixedWithTown 87 = .ok (.iload_n 3, 1) := by decide +kernel
theorem dX6_mixedWithTown_88 : decode cX6_mixedWithTown 88 = .ok (.iconst 0, 1) := by decide +kernel
theorem dX6_mixedWithTown_89 : decode cX6_mixedWithTown 89 = .ok (.invokevirtual 343, 3) := by decide +kernel
theorem dX6_mixedWithTown_92 : decode cX6_mixedWithTown 92 = .ok (.i2l, 1) := by decide +kernel
theorem dX6_mixedWithTown_93 : decode cX6_mixedWithTown 93 = .ok (.invokestatic 308, 3) := by decide +kernel
theorem dX6_mixedWithTown_96 : decode cX6_mixedWithTown 96 = .ok (.lstore 4, 2) := by decide +kernel
theorem dX6_mixedWithTown_98 : decode cX6_mixedWithTown 98 = .ok (.lload 4, 2) := by decide +kernel
theorem dX6_mixedWithTown_100 : decode cX6_mixedWithTown 100 = .ok (.aload_n 0, 1) := by decide +kernel
theorem dX6_mixedWithTown_101 : decode cX6_mixedWithTown 101 = .ok (.iload_n 3, 1) := by decide +kernel
theorem dX6_mixedWithTown_102 : decode cX6_mixedWithTown 102 = .ok (.iconst 1, 1) := by decide +kernel
theorem dX6_mixedWithTown_103 : decode cX6_mixedWithTown 103 = .ok (.invokevirtual 343, 3) := by decide +kernel
theorem dX6_mixedWithTown_106 : decode cX6_mixedWithTown 106 = .ok (.i2l, 1) := by decide +kernel
theorem dX6_mixedWithTown_107 : decode cX6_mixedWithTown 107 = .ok (.invokestatic 308, 3) := by decide +kernel
theorem dX6_mixedWithTown_110 : decode cX6_mixedWithTown 110 = .ok (.lstore 4, 2) := by decide +kernel
theorem dX6_mixedWithTown_112 : decode cX6_mixedWithTown 112 = .ok (.lload 4, 2) := by decide +kernel
theorem dX6_mixedWithTown_114 : decode cX6_mixedWithTown 114 = .ok (.aload_n 0, 1) := by decide +kernel
theorem dX6_mixedWithTown_115 : decode cX6_mixedWithTown 115 = .ok (.iload_n 3, 1) := by decide +kernel
theorem dX6_mixedWithTown_116 : decode cX6_mixedWithTown 116 = .ok (.invokevirtual 346, 3) := by decide +kernel
theorem dX6_mixedWithTown_119 : decode cX6_mixedWithTown 119 = .ok (.i2l, 1) := by decide +kernel
theorem dX6_mixedWithTown_120 : decode cX6_mixedWithTown 120 = .ok (.invokestatic 308, 3) := by decide +kernel
theorem dX6_mixedWithTown_123 : decode cX6_mixedWithTown 123 = .ok (.lreturn, 1) := by decide +kernel
theorem dX6_mixedWithRows_0 : decode cX6_mixedWithRows 0 = .ok (.lload_n 1, 1) := by decide +kernel
theorem dX6_mixedWithRows_1 : decode cX6_mixedWithRows 1 = .ok (.lstore 4, 2) := by decide +kernel
theorem dX6_mixedWithRows_3 : decode cX6_mixedWithRows 3 = .ok (.aload_n 0, 1) := by decide +kernel
theorem dX6_mixedWithRows_4 : decode cX6_mixedWithRows 4 = .ok (.getfield 10, 3) := by decide +kernel
theorem dX6_mixedWithRows_7 : decode cX6_mixedWithRows 7 = .ok (.getfield 76, 3) := by decide +kernel
theorem dX6_mixedWithRows_10 : decode cX6_mixedWithRows 10 = .ok (.iload_n 3, 1) := by decide +kernel
theorem dX6_mixedWithRows_11 : decode cX6_mixedWithRows 11 = .ok (.aaload, 1) := by decide +kernel
theorem dX6_mixedWithRows_12 : decode cX6_mixedWithRows 12 = .ok (.astore 6, 2) := by decide +kernel
theorem dX6_mixedWithRows_14 : decode cX6_mixedWithRows 14 = .ok (.iconst 0, 1) := by decide +kernel
theorem dX6_mixedWithRows_15 : decode cX6_mixedWithRows 15 = .ok (.istore 7, 2) := by decide +kernel
theorem dX6_mixedWithRows_17 : decode cX6_mixedWithRows 17 = .ok (.iload 7, 2) := by decide +kernel
theorem dX6_mixedWithRows_19 : decode cX6_mixedWithRows 19 = .ok (.bipush 12, 2) := by decide +kernel
theorem dX6_mixedWithRows_21 : decode cX6_mixedWithRows 21 = .ok (.if_icmp .ge 25, 3) := by decide +kernel
theorem dX6_mixedWithRows_24 : decode cX6_mixedWithRows 24 = .ok (.lload 4, 2) := by decide +kernel
theorem dX6_mixedWithRows_26 : decode cX6_mixedWithRows 26 = .ok (.aload 6, 2) := by decide +kernel
theorem dX6_mixedWithRows_28 : decode cX6_mixedWithRows 28 = .ok (.getfield 142, 3) := by decide +kernel
theorem dX6_mixedWithRows_31 : decode cX6_mixedWithRows 31 = .ok (.iload 7, 2) := by decide +kernel
theorem dX6_mixedWithRows_33 : decode cX6_mixedWithRows 33 = .ok (.iaload, 1) := by decide +kernel
theorem dX6_mixedWithRows_34 : decode cX6_mixedWithRows 34 = .ok (.i2l, 1) := by decide +kernel
theorem dX6_mixedWithRows_35 : decode cX6_mixedWithRows 35 = .ok (.invokestatic 308, 3) := by decide +kernel
theorem dX6_mixedWithRows_38 : decode cX6_mixedWithRows 38 = .ok (.lstore 4, 2) := by decide +kernel
theorem dX6_mixedWithRows_40 : decode cX6_mixedWithRows 40 = .ok (.iinc 7 1, 3) := by decide +kernel
theorem dX6_mixedWithRows_43 : decode cX6_mixedWithRows 43 = .ok (.goto (-26), 3) := by decide +kernel
theorem dX6_mixedWithRows_46 : decode cX6_mixedWithRows 46 = .ok (.iconst 0, 1) := by decide +kernel
theorem dX6_mixedWithRows_47 : decode cX6_mixedWithRows 47 = .ok (.istore 7, 2) := by decide +kernel
theorem dX6_mixedWithRows_49 : decode cX6_mixedWithRows 49 = .ok (.iload 7, 2) := by decide +kernel
theorem dX6_mixedWithRows_51 : decode cX6_mixedWithRows 51 = .ok (.aload_n 0, 1) := by decide +kernel
theorem dX6_mixedWithRows_52 : decode cX6_mixedWithRows 52 = .ok (.getfield 10, 3) := by decide +kernel
theorem dX6_mixedWithRows_55 : decode cX6_mixedWithRows 55 = .ok (.getfield 59, 3) := by decide +kernel
theorem dX6_mixedWithRows_58 : decode cX6_mixedWithRows 58 = .ok (.if_icmp .ge 29, 3) := by decide +kernel
theorem dX6_mixedWithRows_61 : decode cX6_mixedWithRows 61 = .ok (.lload 4, 2) := by decide +kernel
theorem dX6_mixedWithRows_63 : decode cX6_mixedWithRows 63 = .ok (.aload_n 0, 1) := by decide +kernel
theorem dX6_mixedWithRows_64 : decode cX6_mixedWithRows 64 = .ok (.getfield 10, 3) := by decide +kernel
theorem dX6_mixedWithRows_67 : decode cX6_mixedWithRows 67 = .ok (.getfield 164, 3) := by decide +kernel
theorem dX6_mixedWithRows_70 : decode cX6_mixedWithRows 70 = .ok (.iload_n 3, 1) := by decide +kernel
theorem dX6_mixedWithRows_71 : decode cX6_mixedWithRows 71 = .ok (.aaload, 1) := by decide +kernel
theorem dX6_mixedWithRows_72 : decode cX6_mixedWithRows 72 = .ok (.iload 7, 2) := by decide +kernel
theorem dX6_mixedWithRows_74 : decode cX6_mixedWithRows 74 = .ok (.iaload, 1) := by decide +kernel
theorem dX6_mixedWithRows_75 : decode cX6_mixedWithRows 75 = .ok (.i2l, 1) := by decide +kernel
theorem dX6_mixedWithRows_76 : decode cX6_mixedWithRows 76 = .ok (.invokestatic 308, 3) := by decide +kernel
theorem dX6_mixedWithRows_79 : decode cX6_mixedWithRows 79 = .ok (.lstore 4, 2) := by decide +kernel
theorem dX6_mixedWithRows_81 : decode cX6_mixedWithRows 81 = .ok (.iinc 7 1, 3) := by decide +kernel
theorem dX6_mixedWithRows_84 : decode cX6_mixedWithRows 84 = .ok (.goto (-35), 3) := by decide +kernel
theorem dX6_mixedWithRows_87 : decode cX6_mixedWithRows 87 = .ok (.aload_n 0, 1) := by decide +kernel
theorem dX6_mixedWithRows_88 : decode cX6_mixedWithRows 88 = .ok (.iload_n 3, 1) := by decide +kernel
theorem dX6_mixedWithRows_89 : decode cX6_mixedWithRows 89 = .ok (.invokevirtual 145, 3) := by decide +kernel
theorem dX6_mixedWithRows_92 : decode cX6_mixedWithRows 92 = .ok (.iconst 0, 1) := by decide +kernel
theorem dX6_mixedWithRows_93 : decode cX6_mixedWithRows 93 = .ok (.istore 7, 2) := by decide +kernel
theorem dX6_mixedWithRows_95 : decode cX6_mixedWithRows 95 = .ok (.iload 7, 2) := by decide +kernel
theorem dX6_mixedWithRows_97 : decode cX6_mixedWithRows 97 = .ok (.bipush 24, 2) := by decide +kernel
theorem dX6_mixedWithRows_99 : decode cX6_mixedWithRows 99 = .ok (.if_icmp .ge 59, 3) := by decide +kernel
theorem dX6_mixedWithRows_102 : decode cX6_mixedWithRows 102 = .ok (.lload 4, 2) := by decide +kernel
theorem dX6_mixedWithRows_104 : decode cX6_mixedWithRows 104 = .ok (.aload 6, 2) := by decide +kernel
theorem dX6_mixedWithRows_106 : decode cX6_mixedWithRows 106 = .ok (.getfield 109, 3) := by decide +kernel
theorem dX6_mixedWithRows_109 : decode cX6_mixedWithRows 109 = .ok (.iload 7, 2) := by decide +kernel
theorem dX6_mixedWithRows_111 : decode cX6_mixedWithRows 111 = .ok (.iaload, 1) := by decide +kernel
theorem dX6_mixedWithRows_112 : decode cX6_mixedWithRows 112 = .ok (.i2l, 1) := by decide +kernel
theorem dX6_mixedWithRows_113 : decode cX6_mixedWithRows 113 = .ok (.invokestatic 308, 3) := by decide +kernel
theorem dX6_mixedWithRows_116 : decode cX6_mixedWithRows 116 = .ok (.lstore 4, 2) := by decide +kernel
theorem dX6_mixedWithRows_118 : decode cX6_mixedWithRows 118 = .ok (.lload 4, 2) := by decide +kernel
theorem dX6_mixedWithRows_120 : decode cX6_mixedWithRows 120 = .ok (.aload 6, 2) := by decide +kernel
theorem dX6_mixedWithRows_122 : decode cX6_mixedWithRows 122 = .ok (.getfield 207, 3) := by decide +kernel
theorem dX6_mixedWithRows_125 : decode cX6_mixedWithRows 125 = .ok (.iload 7, 2) := by decide +kernel
theorem dX6_mixedWithRows_127 : decode cX6_mixedWithRows 127 = .ok (.iaload, 1) := by decide +kernel
theorem dX6_mixedWithRows_128 : decode cX6_mixedWithRows 128 = .ok (.i2l, 1) := by decide +kernel
theorem dX6_mixedWithRows_129 : decode cX6_mixedWithRows 129 = .ok (.invokestatic 308, 3) := by decide +kernel
theorem dX6_mixedWithRows_132 : decode cX6_mixedWithRows 132 = .ok (.lstore 4, 2) := by decide +kernel
theorem dX6_mixedWithRows_134 : decode cX6_mixedWithRows 134 = .ok (.lload 4, 2) := by decide +kernel
theorem dX6_mixedWithRows_136 : decode cX6_mixedWithRows 136 = .ok (.aload_n 0, 1) := by decide +kernel
theorem dX6_mixedWithRows_137 : decode cX6_mixedWithRows 137 = .ok (.getfield 30, 3) := by decide +kernel
theorem dX6_mixedWithRows_140 : decode cX6_mixedWithRows 140 = .ok (.getfield 239, 3) := by decide +kernel
theorem dX6_mixedWithRows_143 : decode cX6_mixedWithRows 143 = .ok (.iload 7, 2) := by decide +kernel
theorem dX6_mixedWithRows_145 : decode cX6_mixedWithRows 145 = .ok (.iaload, 1) := by decide +kernel
theorem dX6_mixedWithRows_146 : decode cX6_mixedWithRows 146 = .ok (.i2l, 1) := by decide +kernel
theorem dX6_mixedWithRows_147 : decode cX6_mixedWithRows 147 = .ok (.invokestatic 308, 3) := by decide +kernel
theorem dX6_mixedWithRows_150 : decode cX6_mixedWithRows 150 = .ok (.lstore 4, 2) := by decide +kernel
theorem dX6_mixedWithRows_152 : decode cX6_mixedWithRows 152 = .ok (.iinc 7 1, 3) := by decide +kernel
theorem dX6_mixedWithRows_155 : decode cX6_mixedWithRows 155 = .ok (.goto (-60), 3) := by decide +kernel
theorem dX6_mixedWithRows_158 : decode cX6_mixedWithRows 158 = .ok (.lload 4, 2) := by decide +kernel
theorem dX6_mixedWithRows_160 : decode cX6_mixedWithRows 160 = .ok (.lreturn, 1) := by decide +kernel
theorem dX6_mixedWithTrades_0 : decode cX6_mixedWithTrades 0 = .ok (.aload_n 0, 1) := by decide +kernel
theorem dX6_mixedWithTrades_1 : decode cX6_mixedWithTrades 1 = .ok (.getfield 44, 3) := by decide +kernel
theorem dX6_mixedWithTrades_4 : decode cX6_mixedWithTrades 4 = .ok (.aload_n 0, 1) := by decide +kernel
theorem dX6_mixedWithTrades_5 : decode cX6_mixedWithTrades 5 = .ok (.getfield 10, 3) := by decide +kernel
theorem dX6_mixedWithTrades_8 : decode cX6_mixedWithTrades 8 = .ok (.invokevirtual 298, 3) := by decide +kernel
theorem dX6_mixedWithTrades_11 : decode cX6_mixedWithTrades 11 = .ok (.lload_n 1, 1) := by decide +kernel
theorem dX6_mixedWithTrades_12 : decode cX6_mixedWithTrades 12 = .ok (.aload_n 0, 1) := by decide +kernel
theorem dX6_mixedWithTrades_13 : decode cX6_mixedWithTrades 13 = .ok (.getfield 44, 3) := by decide +kernel
theorem dX6_mixedWithTrades_16 : decode cX6_mixedWithTrades 16 = .ok (.iconst 0, 1) := by decide +kernel
theorem dX6_mixedWithTrades_17 : decode cX6_mixedWithTrades 17 = .ok (.invokevirtual 299, 3) := by decide +kernel
theorem dX6_mixedWithTrades_20 : decode cX6_mixedWithTrades 20 = .ok (.i2l, 1) := by decide +kernel
theorem dX6_mixedWithTrades_21 : decode cX6_mixedWithTrades 21 = .ok (.invokestatic 308, 3) := by decide +kernel
theorem dX6_mixedWithTrades_24 : decode cX6_mixedWithTrades 24 = .ok (.lstore_n 3, 1) := by decide +kernel
theorem dX6_mixedWithTrades_25 : decode cX6_mixedWithTrades 25 = .ok (.iconst 0, 1) := by decide +kernel
theorem dX6_mixedWithTrades_26 : decode cX6_mixedWithTrades 26 = .ok (.istore 5, 2) := by decide +kernel
theorem dX6_mixedWithTrades_28 : decode cX6_mixedWithTrades 28 = .ok (.iload 5, 2) := by decide +kernel
theorem dX6_mixedWithTrades_30 : decode cX6_mixedWithTrades 30 = .ok (.bipush 6, 2) := by decide +kernel
theorem dX6_mixedWithTrades_32 : decode cX6_mixedWithTrades 32 = .ok (.if_icmp .ge 27, 3) := by decide +kernel
theorem dX6_mixedWithTrades_35 : decode cX6_mixedWithTrades 35 = .ok (.lload_n 3, 1) := by decide +kernel
theorem dX6_mixedWithTrades_36 : decode cX6_mixedWithTrades 36 = .ok (.aload_n 0, 1) := by decide +kernel
theorem dX6_mixedWithTrades_37 : decode cX6_mixedWithTrades 37 = .ok (.getfield 44, 3) := by decide +kernel
theorem dX6_mixedWithTrades_40 : decode cX6_mixedWithTrades 40 = .ok (.bipush 10, 2) := by decide +kernel
theorem dX6_mixedWithTrades_42 : decode cX6_mixedWithTrades 42 = .ok (.iload 5, 2) := by decide +kernel
theorem dX6_mixedWithTrades_44 : decode cX6_mixedWithTrades 44 = .ok (.iadd, 1) := by decide +kernel
theorem dX6_mixedWithTrades_45 : decode cX6_mixedWithTrades 45 = .ok (.invokevirtual 299, 3) := by decide +kernel
theorem dX6_mixedWithTrades_48 : decode cX6_mixedWithTrades 48 = .ok (.i2l, 1) := by decide +kernel
theorem dX6_mixedWithTrades_49 : decode cX6_mixedWithTrades 49 = .ok (.invokestatic 308, 3) := by decide +kernel
theorem dX6_mixedWithTrades_52 : decode cX6_mixedWithTrades 52 = .ok (.lstore_n 3, 1) := by decide +kernel
theorem dX6_mixedWithTrades_53 : decode cX6_mixedWithTrades 53 = .ok (.iinc 5 1, 3) := by decide +kernel
theorem dX6_mixedWithTrades_56 : decode cX6_mixedWithTrades 56 = .ok (.goto (-28), 3) := by decide +kernel
theorem dX6_mixedWithTrades_59 : decode cX6_mixedWithTrades 59 = .ok (.lload_n 3, 1) := by decide +kernel
theorem dX6_mixedWithTrades_60 : decode cX6_mixedWithTrades 60 = .ok (.lreturn, 1) := by decide +kernel
theorem dX6_mixedWithRing_0 : decode cX6_mixedWithRing 0 = .ok (.aload_n 0, 1) := by decide +kernel
theorem dX6_mixedWithRing_1 : decode cX6_mixedWithRing 1 = .ok (.getfield 37, 3) := by decide +kernel
theorem dX6_mixedWithRing_4 : decode cX6_mixedWithRing 4 = .ok (.aload_n 0, 1) := by decide +kernel
theorem dX6_mixedWithRing_5 : decode cX6_mixedWithRing 5 = .ok (.getfield 10, 3) := by decide +kernel
theorem dX6_mixedWithRing_8 : decode cX6_mixedWithRing 8 = .ok (.invokevirtual 176, 3) := by decide +kernel
theorem dX6_mixedWithRing_11 : decode cX6_mixedWithRing 11 = .ok (.lload_n 1, 1) := by decide +kernel
theorem dX6_mixedWithRing_12 : decode cX6_mixedWithRing 12 = .ok (.aload_n 0, 1) := by decide +kernel
theorem dX6_mixedWithRing_13 : decode cX6_mixedWithRing 13 = .ok (.getfield 37, 3) := by decide +kernel
theorem dX6_mixedWithRing_16 : decode cX6_mixedWithRing 16 = .ok (.iconst 0, 1) := by decide +kernel
theorem dX6_mixedWithRing_17 : decode cX6_mixedWithRing 17 = .ok (.invokevirtual 302, 3) := by decide +kernel
theorem dX6_mixedWithRing_20 : decode cX6_mixedWithRing 20 = .ok (.i2l, 1) := by decide +kernel
theorem dX6_mixedWithRing_21 : decode cX6_mixedWithRing 21 = .ok (.invokestatic 308, 3) := by decide +kernel
theorem dX6_mixedWithRing_24 : decode cX6_mixedWithRing 24 = .ok (.lstore_n 3, 1) := by decide +kernel
theorem dX6_mixedWithRing_25 : decode cX6_mixedWithRing 25 = .ok (.lload_n 3, 1) := by decide +kernel
theorem dX6_mixedWithRing_26 : decode cX6_mixedWithRing 26 = .ok (.aload_n 0, 1) := by decide +kernel
theorem dX6_mixedWithRing_27 : decode cX6_mixedWithRing 27 = .ok (.getfield 37, 3) := by decide +kernel
theorem dX6_mixedWithRing_30 : decode cX6_mixedWithRing 30 = .ok (.iconst 1, 1) := by decide +kernel
theorem dX6_mixedWithRing_31 : decode cX6_mixedWithRing 31 = .ok (.invokevirtual 302, 3) := by decide +kernel
theorem dX6_mixedWithRing_34 : decode cX6_mixedWithRing 34 = .ok (.i2l, 1) := by decide +kernel
theorem dX6_mixedWithRing_35 : decode cX6_mixedWithRing 35 = .ok (.invokestatic 308, 3) := by decide +kernel
theorem dX6_mixedWithRing_38 : decode cX6_mixedWithRing 38 = .ok (.lstore_n 3, 1) := by decide +kernel
theorem dX6_mixedWithRing_39 : decode cX6_mixedWithRing 39 = .ok (.iconst 0, 1) := by decide +kernel
theorem dX6_mixedWithRing_40 : decode cX6_mixedWithRing 40 = .ok (.istore 5, 2) := by decide +kernel
theorem dX6_mixedWithRing_42 : decode cX6_mixedWithRing 42 = .ok (.iload 5, 2) := by decide +kernel
theorem dX6_mixedWithRing_44 : decode cX6_mixedWithRing 44 = .ok (.bipush 6, 2) := by decide +kernel
theorem dX6_mixedWithRing_46 : decode cX6_mixedWithRing 46 = .ok (.if_icmp .ge 27, 3) := by decide +kernel
theorem dX6_mixedWithRing_49 : decode cX6_mixedWithRing 49 = .ok (.lload_n 3, 1) := by decide +kernel
theorem dX6_mixedWithRing_50 : decode cX6_mixedWithRing 50 = .ok (.aload_n 0, 1) := by decide +kernel
theorem dX6_mixedWithRing_51 : decode cX6_mixedWithRing 51 = .ok (.getfield 37, 3) := by decide +kernel
theorem dX6_mixedWithRing_54 : decode cX6_mixedWithRing 54 = .ok (.bipush 10, 2) := by decide +kernel
theorem dX6_mixedWithRing_56 : decode cX6_mixedWithRing 56 = .ok (.iload 5, 2) := by decide +kernel
theorem dX6_mixedWithRing_58 : decode cX6_mixedWithRing 58 = .ok (.iadd, 1) := by decide +kernel
theorem dX6_mixedWithRing_59 : decode cX6_mixedWithRing 59 = .ok (.invokevirtual 302, 3) := by decide +kernel
theorem dX6_mixedWithRing_62 : decode cX6_mixedWithRing 62 = .ok (.i2l, 1) := by decide +kernel
theorem dX6_mixedWithRing_63 : decode cX6_mixedWithRing 63 = .ok (.invokestatic 308, 3) := by decide +kernel
theorem dX6_mixedWithRing_66 : decode cX6_mixedWithRing 66 = .ok (.lstore_n 3, 1) := by decide +kernel
theorem dX6_mixedWithRing_67 : decode cX6_mixedWithRing 67 = .ok (.iinc 5 1, 3) := by decide +kernel
theorem dX6_mixedWithRing_70 : decode cX6_mixedWithRing 70 = .ok (.goto (-28), 3) := by decide +kernel
theorem dX6_mixedWithRing_73 : decode cX6_mixedWithRing 73 = .ok (.lload_n 3, 1) := by decide +kernel
theorem dX6_mixedWithRing_74 : decode cX6_mixedWithRing 74 = .ok (.lreturn, 1) := by decide +kernel
theorem dX6_bitsOf_0 : decode cX6_bitsOf 0 = .ok (.dload_n 0, 1) := by decide +kernel
theorem dX6_bitsOf_1 : decode cX6_bitsOf 1 = .ok (.dconst 0, 1) := by decide +kernel
theorem dX6_bitsOf_2 : decode cX6_bitsOf 2 = .ok (.dcmp .g, 1) := by decide +kernel
theorem dX6_bitsOf_3 : decode cX6_bitsOf 3 = .ok (.ifCond .gt 5, 3) := by decide +kernel
theorem dX6_bitsOf_6 : decode cX6_bitsOf 6 = .ok (.lconst 0, 1) := by decide +kernel
theorem dX6_bitsOf_7 : decode cX6_bitsOf 7 = .ok (.lreturn, 1) := by decide +kernel
theorem dX6_bitsOf_8 : decode cX6_bitsOf 8 = .ok (.dload_n 0, 1) := by decide +kernel
theorem dX6_bitsOf_9 : decode cX6_bitsOf 9 = .ok (.dstore_n 2, 1) := by decide +kernel
theorem dX6_bitsOf_10 : decode cX6_bitsOf 10 = .ok (.ldc2_w 349, 3) := by decide +kernel
theorem dX6_bitsOf_13 : decode cX6_bitsOf 13 = .ok (.lstore 4, 2) := by decide +kernel
theorem dX6_bitsOf_15 : decode cX6_bitsOf 15 = .ok (.iconst 0, 1) := by decide +kernel
theorem dX6_bitsOf_16 : decode cX6_bitsOf 16 = .ok (.istore 6, 2) := by decide +kernel
theorem dX6_bitsOf_18 : decode cX6_bitsOf 18 = .ok (.iload 6, 2) := by decide +kernel
theorem dX6_bitsOf_20 : decode cX6_bitsOf 20 = .ok (.sipush 1023, 3) := by decide +kernel
theorem dX6_bitsOf_23 : decode cX6_bitsOf 23 = .ok (.if_icmp .ge 27, 3) := by decide +kernel
theorem dX6_bitsOf_26 : decode cX6_bitsOf 26 = .ok (.dload_n 2, 1) := by decide +kernel
theorem dX6_bitsOf_27 : decode cX6_bitsOf 27 = .ok (.dconst 1, 1) := by decide +kernel
theorem dX6_bitsOf_28 : decode cX6_bitsOf 28 = .ok (.dcmp .g, 1) := by decide +kernel
theorem dX6_bitsOf_29 : decode cX6_bitsOf 29 = .ok (.ifCond .ge 21, 3) := by decide +kernel
theorem dX6_bitsOf_32 : decode cX6_bitsOf 32 = .ok (.dload_n 2, 1) := by decide +kernel
theorem dX6_bitsOf_33 : decode cX6_bitsOf 33 = .ok (.ldc2_w 351, 3) := by decide +kernel
theorem dX6_bitsOf_36 : decode cX6_bitsOf 36 = .ok (.dmul, 1) := by decide +kernel
theorem dX6_bitsOf_37 : decode cX6_bitsOf 37 = .ok (.dstore_n 2, 1) := by decide +kernel
theorem dX6_bitsOf_38 : decode cX6_bitsOf 38 = .ok (.lload 4, 2) := by decide +kernel
theorem dX6_bitsOf_40 : decode cX6_bitsOf 40 = .ok (.lconst 1, 1) := by decide +kernel
theorem dX6_bitsOf_41 : decode cX6_bitsOf 41 = .ok (.lsub, 1) := by decide +kernel
theorem dX6_bitsOf_42 : decode cX6_bitsOf 42 = .ok (.lstore 4, 2) := by decide +kernel
theorem dX6_bitsOf_44 : decode cX6_bitsOf 44 = .ok (.iinc 6 1, 3) := by decide +kernel
theorem dX6_bitsOf_47 : decode cX6_bitsOf 47 = .ok (.goto (-29), 3) := by decide +kernel
theorem dX6_bitsOf_50 : decode cX6_bitsOf 50 = .ok (.dload_n 2, 1) := by decide +kernel
theorem dX6_bitsOf_51 : decode cX6_bitsOf 51 = .ok (.dconst 1, 1) := by decide +kernel
theorem dX6_bitsOf_52 : decode cX6_bitsOf 52 = .ok (.dsub, 1) := by decide +kernel
theorem dX6_bitsOf_53 : decode cX6_bitsOf 53 = .ok (.ldc2_w 353, 3) := by decide +kernel
theorem dX6_bitsOf_56 : decode cX6_bitsOf 56 = .ok (.dmul, 1) := by decide +kernel
theorem dX6_bitsOf_57 : decode cX6_bitsOf 57 = .ok (.dstore 6, 2) := by decide +kernel
theorem dX6_bitsOf_59 : decode cX6_bitsOf 59 = .ok (.lload 4, 2) := by decide +kernel
theorem dX6_bitsOf_61 : decode cX6_bitsOf 61 = .ok (.bipush 52, 2) := by decide +kernel
theorem dX6_bitsOf_63 : decode cX6_bitsOf 63 = .ok (.lshl, 1) := by decide +kernel
theorem dX6_bitsOf_64 : decode cX6_bitsOf 64 = .ok (.dload 6, 2) := by decide +kernel
theorem dX6_bitsOf_66 : decode cX6_bitsOf 66 = .ok (.d2l, 1) := by decide +kernel
theorem dX6_bitsOf_67 : decode cX6_bitsOf 67 = .ok (.ladd, 1) := by decide +kernel
theorem dX6_bitsOf_68 : decode cX6_bitsOf 68 = .ok (.lreturn, 1) := by decide +kernel
theorem dX6_checkTown_0 : decode cX6_checkTown 0 = .ok (.iload_n 1, 1) := by decide +kernel
theorem dX6_checkTown_1 : decode cX6_checkTown 1 = .ok (.ifCond .lt 14, 3) := by decide +kernel
theorem dX6_checkTown_4 : decode cX6_checkTown 4 = .ok (.iload_n 1, 1) := by decide +kernel
theorem dX6_checkTown_5 : decode cX6_checkTown 5 = .ok (.aload_n 0, 1) := by decide +kernel
theorem dX6_checkTown_6 : decode cX6_checkTown 6 = .ok (.getfield 10, 3) := by decide +kernel
theorem dX6_checkTown_9 : decode cX6_checkTown 9 = .ok (.getfield 59, 3) := by decide +kernel
theorem dX6_checkTown_12 : decode cX6_checkTown 12 = .ok (.if_icmp .lt 14, 3) := by decide +kernel
theorem dX6_checkTown_15 : decode cX6_checkTown 15 = .ok (.new 355, 3) := by decide +kernel
theorem dX6_checkTown_18 : decode cX6_checkTown 18 = .ok (.dup, 1) := by decide +kernel
theorem dX6_checkTown_19 : decode cX6_checkTown 19 = .ok (.ldc_w 357, 3) := by decide +kernel
theorem dX6_checkTown_22 : decode cX6_checkTown 22 = .ok (.invokespecial 359, 3) := by decide +kernel
theorem dX6_checkTown_25 : decode cX6_checkTown 25 = .ok (.athrow, 1) := by decide +kernel
theorem dX6_checkTown_26 : decode cX6_checkTown 26 = .ok (.return_, 1) := by decide +kernel
theorem dX6_checkStep_0 : decode cX6_checkStep 0 = .ok (.iload_n 0, 1) := by decide +kernel
theorem dX6_checkStep_1 : decode cX6_checkStep 1 = .ok (.ifCond .lt 9, 3) := by decide +kernel
theorem dX6_checkStep_4 : decode cX6_checkStep 4 = .ok (.iload_n 0, 1) := by decide +kernel
theorem dX6_checkStep_5 : decode cX6_checkStep 5 = .ok (.bipush 24, 2) := by decide +kernel
theorem dX6_checkStep_7 : decode cX6_checkStep 7 = .ok (.if_icmp .lt 14, 3) := by decide +kernel
theorem dX6_checkStep_10 : decode cX6_checkStep 10 = .ok (.new 355, 3) := by decide +kernel
theorem dX6_checkStep_13 : decode cX6_checkStep 13 = .ok (.dup, 1) := by decide +kernel
theorem dX6_checkStep_14 : decode cX6_checkStep 14 = .ok (.ldc_w 360, 3) := by decide +kernel
theorem dX6_checkStep_17 : decode cX6_checkStep 17 = .ok (.invokespecial 359, 3) := by decide +kernel
theorem dX6_checkStep_20 : decode cX6_checkStep 20 = .ok (.athrow, 1) := by decide +kernel
theorem dX6_checkStep_21 : decode cX6_checkStep 21 = .ok (.return_, 1) := by decide +kernel
theorem dX6_checkTooth_0 : decode cX6_checkTooth 0 = .ok (.iload_n 0, 1) := by decide +kernel
theorem dX6_checkTooth_1 : decode cX6_checkTooth 1 = .ok (.ifCond .lt 9, 3) := by decide +kernel
theorem dX6_checkTooth_4 : decode cX6_checkTooth 4 = .ok (.iload_n 0, 1) := by decide +kernel
theorem dX6_checkTooth_5 : decode cX6_checkTooth 5 = .ok (.bipush 12, 2) := by decide +kernel
theorem dX6_checkTooth_7 : decode cX6_checkTooth 7 = .ok (.if_icmp .lt 14, 3) := by decide +kernel
theorem dX6_checkTooth_10 : decode cX6_checkTooth 10 = .ok (.new 355, 3) := by decide +kernel
theorem dX6_checkTooth_13 : decode cX6_checkTooth 13 = .ok (.dup, 1) := by decide +kernel
theorem dX6_checkTooth_14 : decode cX6_checkTooth 14 = .ok (.ldc_w 362, 3) := by decide +kernel
theorem dX6_checkTooth_17 : decode cX6_checkTooth 17 = .ok (.invokespecial 359, 3) := by decide +kernel
theorem dX6_checkTooth_20 : decode cX6_checkTooth 20 = .ok (.athrow, 1) := by decide +kernel
theorem dX6_checkTooth_21 : decode cX6_checkTooth 21 = .ok (.return_, 1) := by decide +kernel
theorem dX6_checkPlace_0 : decode cX6_checkPlace 0 = .ok (.aload_n 0, 1) := by decide +kernel
theorem dX6_checkPlace_1 : decode cX6_checkPlace 1 = .ok (.iload_n 1, 1) := by decide +kernel
theorem dX6_checkPlace_2 : decode cX6_checkPlace 2 = .ok (.invokevirtual 120, 3) := by decide +kernel
theorem dX6_checkPlace_5 : decode cX6_checkPlace 5 = .ok (.iload_n 2, 1) := by decide +kernel
theorem dX6_checkPlace_6 : decode cX6_checkPlace 6 = .ok (.invokestatic 236, 3) := by decide +kernel
theorem dX6_checkPlace_9 : decode cX6_checkPlace 9 = .ok (.iload_n 3, 1) := by decide +kernel
theorem dX6_checkPlace_10 : decode cX6_checkPlace 10 = .ok (.invokestatic 139, 3) := by decide +kernel
theorem dX6_checkPlace_13 : decode cX6_checkPlace 13 = .ok (.return_, 1) := by decide +kernel
theorem dX6_checkSetting_0 : decode cX6_checkSetting 0 = .ok (.iload_n 0, 1) := by decide +kernel
theorem dX6_checkSetting_1 : decode cX6_checkSetting 1 = .ok (.ifCond .lt 8, 3) := by decide +kernel
theorem dX6_checkSetting_4 : decode cX6_checkSetting 4 = .ok (.iload_n 0, 1) := by decide +kernel
theorem dX6_checkSetting_5 : decode cX6_checkSetting 5 = .ok (.iconst 3, 1) := by decide +kernel
theorem dX6_checkSetting_6 : decode cX6_checkSetting 6 = .ok (.if_icmp .lt 14, 3) := by decide +kernel
theorem dX6_checkSetting_9 : decode cX6_checkSetting 9 = .ok (.new 355, 3) := by decide +kernel
theorem dX6_checkSetting_12 : decode cX6_checkSetting 12 = .ok (.dup, 1) := by decide +kernel
theorem dX6_checkSetting_13 : decode cX6_checkSetting 13 = .ok (.ldc_w 364, 3) := by decide +kernel
theorem dX6_checkSetting_16 : decode cX6_checkSetting 16 = .ok (.invokespecial 359, 3) := by decide +kernel
theorem dX6_checkSetting_19 : decode cX6_checkSetting 19 = .ok (.athrow, 1) := by decide +kernel
theorem dX6_checkSetting_20 : decode cX6_checkSetting 20 = .ok (.return_, 1) := by decide +kernel
theorem dX6_checkDifferent_0 : decode cX6_checkDifferent 0 = .ok (.iload_n 0, 1) := by decide +kernel
theorem dX6_checkDifferent_1 : decode cX6_checkDifferent 1 = .ok (.iload_n 1, 1) := by decide +kernel
theorem dX6_checkDifferent_2 : decode cX6_checkDifferent 2 = .ok (.if_icmp .ne 14, 3) := by decide +kernel
theorem dX6_checkDifferent_5 : decode cX6_checkDifferent 5 = .ok (.new 52, 3) := by decide +kernel
theorem dX6_checkDifferent_8 : decode cX6_checkDifferent 8 = .ok (.dup, 1) := by decide +kernel
theorem dX6_checkDifferent_9 : decode cX6_checkDifferent 9 = .ok (.ldc_w 366, 3) := by decide +kernel
theorem dX6_checkDifferent_12 : decode cX6_checkDifferent 12 = .ok (.invokespecial 56, 3) := by decide +kernel
theorem dX6_checkDifferent_15 : decode cX6_checkDifferent 15 = .ok (.athrow, 1) := by decide +kernel
theorem dX6_checkDifferent_16 : decode cX6_checkDifferent 16 = .ok (.return_, 1) := by decide +kernel
theorem dX6_checkGiven_0 : decode cX6_checkGiven 0 = .ok (.iload_n 0, 1) := by decide +kernel
theorem dX6_checkGiven_1 : decode cX6_checkGiven 1 = .ok (.iconst 1, 1) := by decide +kernel
theorem dX6_checkGiven_2 : decode cX6_checkGiven 2 = .ok (.if_icmp .lt 10, 3) := by decide +kernel
theorem dX6_checkGiven_5 : decode cX6_checkGiven 5 = .ok (.iload_n 0, 1) := by decide +kernel
theorem dX6_checkGiven_6 : decode cX6_checkGiven 6 = .ok (.sipush 200, 3) := by decide +kernel
theorem dX6_checkGiven_9 : decode cX6_checkGiven 9 = .ok (.if_icmp .le 13, 3) := by decide +kernel
theorem dX6_checkGiven_12 : decode cX6_checkGiven 12 = .ok (.new 52, 3) := by decide +kernel
theorem dX6_checkGiven_15 : decode cX6_checkGiven 15 = .ok (.dup, 1) := by decide +kernel
theorem dX6_checkGiven_16 : decode cX6_checkGiven 16 = .ok (.ldc 54, 2) := by decide +kernel
theorem dX6_checkGiven_18 : decode cX6_checkGiven 18 = .ok (.invokespecial 56, 3) := by decide +kernel
theorem dX6_checkGiven_21 : decode cX6_checkGiven 21 = .ok (.athrow, 1) := by decide +kernel
theorem dX6_checkGiven_22 : decode cX6_checkGiven 22 = .ok (.return_, 1) := by decide +kernel
theorem dX6_checkBoxes_0 : decode cX6_checkBoxes 0 = .ok (.aload_n 0, 1) := by decide +kernel
theorem dX6_checkBoxes_1 : decode cX6_checkBoxes 1 = .ok (.getfield 10, 3) := by decide +kernel
theorem dX6_checkBoxes_4 : decode cX6_checkBoxes 4 = .ok (.getfield 76, 3) := by decide +kernel
theorem dX6_checkBoxes_7 : decode cX6_checkBoxes 7 = .ok (.iload_n 1, 1) := by decide +kernel
theorem dX6_checkBoxes_8 : decode cX6_checkBoxes 8 = .ok (.aaload, 1) := by decide +kernel
theorem dX6_checkBoxes_9 : decode cX6_checkBoxes 9 = .ok (.getfield 80, 3) := by decide +kernel
theorem dX6_checkBoxes_12 : decode cX6_checkBoxes 12 = .ok (.iload_n 3, 1) := by decide +kernel
theorem dX6_checkBoxes_13 : decode cX6_checkBoxes 13 = .ok (.if_icmp .ge 14, 3) := by decide +kernel
theorem dX6_checkBoxes_16 : decode cX6_checkBoxes 16 = .ok (.new 63, 3) := by decide +kernel
theorem dX6_checkBoxes_19 : decode cX6_checkBoxes 19 = .ok (.dup, 1) := by decide +kernel
theorem dX6_checkBoxes_20 : decode cX6_checkBoxes 20 = .ok (.ldc_w 368, 3) := by decide +kernel
theorem dX6_checkBoxes_23 : decode cX6_checkBoxes 23 = .ok (.invokespecial 67, 3) := by decide +kernel
theorem dX6_checkBoxes_26 : decode cX6_checkBoxes 26 = .ok (.athrow, 1) := by decide +kernel
theorem dX6_checkBoxes_27 : decode cX6_checkBoxes 27 = .ok (.aload_n 0, 1) := by decide +kernel
theorem dX6_checkBoxes_28 : decode cX6_checkBoxes 28 = .ok (.getfield 10, 3) := by decide +kernel
theorem dX6_checkBoxes_31 : decode cX6_checkBoxes 31 = .ok (.getfield 76, 3) := by decide +kernel
theorem dX6_checkBoxes_34 : decode cX6_checkBoxes 34 = .ok (.iload_n 2, 1) := by decide +kernel
theorem dX6_checkBoxes_35 : decode cX6_checkBoxes 35 = .ok (.aaload, 1) := by decide +kernel
theorem dX6_checkBoxes_36 : decode cX6_checkBoxes 36 = .ok (.getfield 80, 3) := by decide +kernel
theorem dX6_checkBoxes_39 : decode cX6_checkBoxes 39 = .ok (.iload_n 3, 1) := by decide +kernel
theorem dX6_checkBoxes_40 : decode cX6_checkBoxes 40 = .ok (.iadd, 1) := by decide +kernel
theorem dX6_checkBoxes_41 : decode cX6_checkBoxes 41 = .ok (.aload_n 0, 1) := by decide +kernel
theorem dX6_checkBoxes_42 : decode cX6_checkBoxes 42 = .ok (.getfield 10, 3) := by decide +kernel
theorem dX6_checkBoxes_45 : decode cX6_checkBoxes 45 = .ok (.getfield 68, 3) := by decide +kernel
theorem dX6_checkBoxes_48 : decode cX6_checkBoxes 48 = .ok (.iconst 2, 1) := by decide +kernel
theorem dX6_checkBoxes_49 : decode cX6_checkBoxes 49 = .ok (.iaload, 1) := by decide +kernel
theorem dX6_checkBoxes_50 : decode cX6_checkBoxes 50 = .ok (.if_icmp .le 14, 3) := by decide +kernel
theorem dX6_checkBoxes_53 : decode cX6_checkBoxes 53 = .ok (.new 63, 3) := by decide +kernel
theorem dX6_checkBoxes_56 : decode cX6_checkBoxes 56 = .ok (.dup, 1) := by decide +kernel
theorem dX6_checkBoxes_57 : decode cX6_checkBoxes 57 = .ok (.ldc_w 370, 3) := by decide +kernel
theorem dX6_checkBoxes_60 : decode cX6_checkBoxes 60 = .ok (.invokespecial 67, 3) := by decide +kernel
theorem dX6_checkBoxes_63 : decode cX6_checkBoxes 63 = .ok (.athrow, 1) := by decide +kernel
theorem dX6_checkBoxes_64 : decode cX6_checkBoxes 64 = .ok (.return_, 1) := by decide +kernel
theorem dX6_isPlace_0 : decode cX6_isPlace 0 = .ok (.iload_n 0, 1) := by decide +kernel
theorem dX6_isPlace_1 : decode cX6_isPlace 1 = .ok (.bipush 10, 2) := by decide +kernel
theorem dX6_isPlace_3 : decode cX6_isPlace 3 = .ok (.if_icmp .lt 13, 3) := by decide +kernel
theorem dX6_isPlace_6 : decode cX6_isPlace 6 = .ok (.iload_n 0, 1) := by decide +kernel
theorem dX6_isPlace_7 : decode cX6_isPlace 7 = .ok (.bipush 16, 2) := by decide +kernel
theorem dX6_isPlace_9 : decode cX6_isPlace 9 = .ok (.if_icmp .ge 7, 3) := by decide +kernel
theorem dX6_isPlace_12 : decode cX6_isPlace 12 = .ok (.iconst 1, 1) := by decide +kernel
theorem dX6_isPlace_13 : decode cX6_isPlace 13 = .ok (.goto 4, 3) := by decide +kernel
theorem dX6_isPlace_16 : decode cX6_isPlace 16 = .ok (.iconst 0, 1) := by decide +kernel
theorem dX6_isPlace_17 : decode cX6_isPlace 17 = .ok (.ireturn, 1) := by decide +kernel
theorem dX6_saveState_0 : decode cX6_saveState 0 = .ok (.aload_n 0, 1) := by decide +kernel
theorem dX6_saveState_1 : decode cX6_saveState 1 = .ok (.getfield 208, 3) := by decide +kernel
theorem dX6_saveState_4 : decode cX6_saveState 4 = .ok (.bipush 6, 2) := by decide +kernel
theorem dX6_saveState_6 : decode cX6_saveState 6 = .ok (.if_icmp .lt 7, 3) := by decide +kernel
theorem dX6_saveState_9 : decode cX6_saveState 9 = .ok (.aload_n 0, 1) := by decide +kernel
theorem dX6_saveState_10 : decode cX6_saveState 10 = .ok (.invokevirtual 372, 3) := by decide +kernel
theorem dX6_saveState_13 : decode cX6_saveState 13 = .ok (.aload_n 0, 1) := by decide +kernel
theorem dX6_saveState_14 : decode cX6_saveState 14 = .ok (.getfield 16, 3) := by decide +kernel
theorem dX6_saveState_17 : decode cX6_saveState 17 = .ok (.aload_n 0, 1) := by decide +kernel
theorem dX6_saveState_18 : decode cX6_saveState 18 = .ok (.getfield 208, 3) := by decide +kernel
theorem dX6_saveState_21 : decode cX6_saveState 21 = .ok (.aaload, 1) := by decide +kernel
theorem dX6_saveState_22 : decode cX6_saveState 22 = .ok (.aload_n 0, 1) := by decide +kernel
theorem dX6_saveState_23 : decode cX6_saveState 23 = .ok (.getfield 10, 3) := by decide +kernel
theorem dX6_saveState_26 : decode cX6_saveState 26 = .ok (.invokevirtual 213, 3) := by decide +kernel
theorem dX6_saveState_29 : decode cX6_saveState 29 = .ok (.aload_n 0, 1) := by decide +kernel
theorem dX6_saveState_30 : decode cX6_saveState 30 = .ok (.dup, 1) := by decide +kernel
theorem dX6_saveState_31 : decode cX6_saveState 31 = .ok (.getfield 208, 3) := by decide +kernel
theorem dX6_saveState_34 : decode cX6_saveState 34 = .ok (.iconst 1, 1) := by decide +kernel
theorem dX6_saveState_35 : decode cX6_saveState 35 = .ok (.iadd, 1) := by decide +kernel
theorem dX6_saveState_36 : decode cX6_saveState 36 = .ok (.putfield 208, 3) := by decide +kernel
theorem dX6_saveState_39 : decode cX6_saveState 39 = .ok (.return_, 1) := by decide +kernel
theorem dX6_dropOldest_0 : decode cX6_dropOldest 0 = .ok (.aload_n 0, 1) := by decide +kernel
theorem dX6_dropOldest_1 : decode cX6_dropOldest 1 = .ok (.getfield 16, 3) := by decide +kernel
theorem dX6_dropOldest_4 : decode cX6_dropOldest 4 = .ok (.iconst 0, 1) := by decide +kernel
theorem dX6_dropOldest_5 : decode cX6_dropOldest 5 = .ok (.aaload, 1) := by decide +kernel
theorem dX6_dropOldest_6 : decode cX6_dropOldest 6 = .ok (.astore_n 1, 1) := by decide +kernel
theorem dX6_dropOldest_7 : decode cX6_dropOldest 7 = .ok (.iconst 1, 1) := by decide +kernel
theorem dX6_dropOldest_8 : decode cX6_dropOldest 8 = .ok (.istore_n 2, 1) := by decide +kernel
theorem dX6_dropOldest_9 : decode cX6_dropOldest 9 = .ok (.iload_n 2, 1) := by decide +kernel
theorem dX6_dropOldest_10 : decode cX6_dropOldest 10 = .ok (.bipush 6, 2) := by decide +kernel
theorem dX6_dropOldest_12 : decode cX6_dropOldest 12 = .ok (.if_icmp .ge 23, 3) := by decide +kernel
theorem dX6_dropOldest_15 : decode cX6_dropOldest 15 = .ok (.aload_n 0, 1) := by decide +kernel
theorem dX6_dropOldest_16 : decode cX6_dropOldest 16 = .ok (.getfield 16, 3) := by decide +kernel
theorem dX6_dropOldest_19 : decode cX6_dropOldest 19 = .ok (.iload_n 2, 1) := by decide +kernel
theorem dX6_dropOldest_20 : decode cX6_dropOldest 20 = .ok (.iconst 1, 1) := by decide +kernel
theorem dX6_dropOldest_21 : decode cX6_dropOldest 21 = .ok (.isub, 1) := by decide +kernel
theorem dX6_dropOldest_22 : decode cX6_dropOldest 22 = .ok (.aload_n 0, 1) := by decide +kernel
theorem dX6_dropOldest_23 : decode cX6_dropOldest 23 = .ok (.getfield 16, 3) := by decide +kernel
theorem dX6_dropOldest_26 : decode cX6_dropOldest 26 = .ok (.iload_n 2, 1) := by decide +kernel
theorem dX6_dropOldest_27 : decode cX6_dropOldest 27 = .ok (.aaload, 1) := by decide +kernel
theorem dX6_dropOldest_28 : decode cX6_dropOldest 28 = .ok (.aastore, 1) := by decide +kernel
theorem dX6_dropOldest_29 : decode cX6_dropOldest 29 = .ok (.iinc 2 1, 3) := by decide +kernel
theorem dX6_dropOldest_32 : decode cX6_dropOldest 32 = .ok (.goto (-23), 3) := by decide +kernel
theorem dX6_dropOldest_35 : decode cX6_dropOldest 35 = .ok (.aload_n 0, 1) := by decide +kernel
theorem dX6_dropOldest_36 : decode cX6_dropOldest 36 = .ok (.getfield 16, 3) := by decide +kernel
theorem dX6_dropOldest_39 : decode cX6_dropOldest 39 = .ok (.iconst 5, 1) := by decide +kernel
theorem dX6_dropOldest_40 : decode cX6_dropOldest 40 = .ok (.aload_n 1, 1) := by decide +kernel
theorem dX6_dropOldest_41 : decode cX6_dropOldest 41 = .ok (.aastore, 1) := by decide +kernel
theorem dX6_dropOldest_42 : decode cX6_dropOldest 42 = .ok (.aload_n 0, 1) := by decide +kernel
theorem dX6_dropOldest_43 : decode cX6_dropOldest 43 = .ok (.iconst 5, 1) := by decide +kernel
theorem dX6_dropOldest_44 : decode cX6_dropOldest 44 = .ok (.putfield 208, 3) := by decide +kernel
theorem dX6_dropOldest_47 : decode cX6_dropOldest 47 = .ok (.return_, 1) := by decide +kernel
theorem dX6_foresee_0 : decode cX6_foresee 0 = .ok (.aload_n 0, 1) := by decide +kernel
theorem dX6_foresee_1 : decode cX6_foresee 1 = .ok (.getfield 10, 3) := by decide +kernel
theorem dX6_foresee_4 : decode cX6_foresee 4 = .ok (.getfield 76, 3) := by decide +kernel
theorem dX6_foresee_7 : decode cX6_foresee 7 = .ok (.iload_n 1, 1) := by decide +kernel
theorem dX6_foresee_8 : decode cX6_foresee 8 = .ok (.aaload, 1) := by decide +kernel
theorem dX6_foresee_9 : decode cX6_foresee 9 = .ok (.astore_n 2, 1) := by decide +kernel
theorem dX6_foresee_10 : decode cX6_foresee 10 = .ok (.aload_n 0, 1) := by decide +kernel
theorem dX6_foresee_11 : decode cX6_foresee 11 = .ok (.getfield 30, 3) := by decide +kernel
theorem dX6_foresee_14 : decode cX6_foresee 14 = .ok (.aload_n 2, 1) := by decide +kernel
theorem dX6_foresee_15 : decode cX6_foresee 15 = .ok (.aload_n 0, 1) := by decide +kernel
theorem dX6_foresee_16 : decode cX6_foresee 16 = .ok (.getfield 10, 3) := by decide +kernel
theorem dX6_foresee_19 : decode cX6_foresee 19 = .ok (.getfield 68, 3) := by decide +kernel
theorem dX6_foresee_22 : decode cX6_foresee 22 = .ok (.invokevirtual 272, 3) := by decide +kernel
theorem dX6_foresee_25 : decode cX6_foresee 25 = .ok (.aload_n 0, 1) := by decide +kernel
theorem dX6_foresee_26 : decode cX6_foresee 26 = .ok (.getfield 30, 3) := by decide +kernel
theorem dX6_foresee_29 : decode cX6_foresee 29 = .ok (.aload_n 2, 1) := by decide +kernel
theorem dX6_foresee_30 : decode cX6_foresee 30 = .ok (.getfield 207, 3) := by decide +kernel
theorem dX6_foresee_33 : decode cX6_foresee 33 = .ok (.invokevirtual 276, 3) := by decide +kernel
theorem dX6_foresee_36 : decode cX6_foresee 36 = .ok (.return_, 1) := by decide +kernel
theorem dX6_copyRow_0 : decode cX6_copyRow 0 = .ok (.aload_n 0, 1) := by decide +kernel
theorem dX6_copyRow_1 : decode cX6_copyRow 1 = .ok (.iconst 0, 1) := by decide +kernel
theorem dX6_copyRow_2 : decode cX6_copyRow 2 = .ok (.aload_n 1, 1) := by decide +kernel
theorem dX6_copyRow_3 : decode cX6_copyRow 3 = .ok (.iconst 0, 1) := by decide +kernel
theorem dX6_copyRow_4 : decode cX6_copyRow 4 = .ok (.aload_n 0, 1) := by decide +kernel
theorem dX6_copyRow_5 : decode cX6_copyRow 5 = .ok (.arraylength, 1) := by decide +kernel
theorem dX6_copyRow_6 : decode cX6_copyRow 6 = .ok (.aload_n 1, 1) := by decide +kernel
theorem dX6_copyRow_7 : decode cX6_copyRow 7 = .ok (.arraylength, 1) := by decide +kernel
theorem dX6_copyRow_8 : decode cX6_copyRow 8 = .ok (.invokestatic 375, 3) := by decide +kernel
theorem dX6_copyRow_11 : decode cX6_copyRow 11 = .ok (.invokestatic 380, 3) := by decide +kernel
theorem dX6_copyRow_14 : decode cX6_copyRow 14 = .ok (.return_, 1) := by decide +kernel
theorem dX6_sizeOf_0 : decode cX6_sizeOf 0 = .ok (.iconst 0, 1) := by decide +kernel
theorem dX6_sizeOf_1 : decode cX6_sizeOf 1 = .ok (.istore_n 1, 1) := by decide +kernel
theorem dX6_sizeOf_2 : decode cX6_sizeOf 2 = .ok (.aload_n 0, 1) := by decide +kernel
theorem dX6_sizeOf_3 : decode cX6_sizeOf 3 = .ok (.astore_n 2, 1) := by decide +kernel
theorem dX6_sizeOf_4 : decode cX6_sizeOf 4 = .ok (.aload_n 2, 1) := by decide +kernel
theorem dX6_sizeOf_5 : decode cX6_sizeOf 5 = .ok (.arraylength, 1) := by decide +kernel
theorem dX6_sizeOf_6 : decode cX6_sizeOf 6 = .ok (.istore_n 3, 1) := by decide +kernel
theorem dX6_sizeOf_7 : decode cX6_sizeOf 7 = .ok (.iconst 0, 1) := by decide +kernel
theorem dX6_sizeOf_8 : decode cX6_sizeOf 8 = .ok (.istore 4, 2) := by decide +kernel
theorem dX6_sizeOf_10 : decode cX6_sizeOf 10 = .ok (.iload 4, 2) := by decide +kernel
theorem dX6_sizeOf_12 : decode cX6_sizeOf 12 = .ok (.iload_n 3, 1) := by decide +kernel
theorem dX6_sizeOf_13 : decode cX6_sizeOf 13 = .ok (.if_icmp .ge 23, 3) := by decide +kernel
theorem dX6_sizeOf_16 : decode cX6_sizeOf 16 = .ok (.aload_n 2, 1) := by decide +kernel
theorem dX6_sizeOf_17 : decode cX6_sizeOf 17 = .ok (.iload 4, 2) := by decide +kernel
theorem dX6_sizeOf_19 : decode cX6_sizeOf 19 = .ok (.iaload, 1) := by decide +kernel
theorem dX6_sizeOf_20 : decode cX6_sizeOf 20 = .ok (.istore 5, 2) := by decide +kernel
theorem dX6_sizeOf_22 : decode cX6_sizeOf 22 = .ok (.iload_n 1, 1) := by decide +kernel
theorem dX6_sizeOf_23 : decode cX6_sizeOf 23 = .ok (.iload 5, 2) := by decide +kernel
theorem dX6_sizeOf_25 : decode cX6_sizeOf 25 = .ok (.invokestatic 386, 3) := by decide +kernel
theorem dX6_sizeOf_28 : decode cX6_sizeOf 28 = .ok (.iadd, 1) := by decide +kernel
theorem dX6_sizeOf_29 : decode cX6_sizeOf 29 = .ok (.istore_n 1, 1) := by decide +kernel
theorem dX6_sizeOf_30 : decode cX6_sizeOf 30 = .ok (.iinc 4 1, 3) := by decide +kernel
theorem dX6_sizeOf_33 : decode cX6_sizeOf 33 = .ok (.goto (-23), 3) := by decide +kernel
theorem dX6_sizeOf_36 : decode cX6_sizeOf 36 = .ok (.iload_n 1, 1) := by decide +kernel
theorem dX6_sizeOf_37 : decode cX6_sizeOf 37 = .ok (.ireturn, 1) := by decide +kernel
theorem dX6_sharedBy_0 : decode cX6_sharedBy 0 = .ok (.iconst 0, 1) := by decide +kernel
theorem dX6_sharedBy_1 : decode cX6_sharedBy 1 = .ok (.istore_n 2, 1) := by decide +kernel
theorem dX6_sharedBy_2 : decode cX6_sharedBy 2 = .ok (.iconst 0, 1) := by decide +kernel
theorem dX6_sharedBy_3 : decode cX6_sharedBy 3 = .ok (.istore_n 3, 1) := by decide +kernel
theorem dX6_sharedBy_4 : decode cX6_sharedBy 4 = .ok (.iload_n 3, 1) := by decide +kernel
theorem dX6_sharedBy_5 : decode cX6_sharedBy 5 = .ok (.bipush 24, 2) := by decide +kernel
theorem dX6_sharedBy_7 : decode cX6_sharedBy 7 = .ok (.if_icmp .ge 22, 3) := by decide +kernel
theorem dX6_sharedBy_10 : decode cX6_sharedBy 10 = .ok (.iload_n 2, 1) := by decide +kernel
theorem dX6_sharedBy_11 : decode cX6_sharedBy 11 = .ok (.aload_n 0, 1) := by decide +kernel
theorem dX6_sharedBy_12 : decode cX6_sharedBy 12 = .ok (.iload_n 3, 1) := by decide +kernel
theorem dX6_sharedBy_13 : decode cX6_sharedBy 13 = .ok (.iaload, 1) := by decide +kernel
theorem dX6_sharedBy_14 : decode cX6_sharedBy 14 = .ok (.aload_n 1, 1) := by decide +kernel
theorem dX6_sharedBy_15 : decode cX6_sharedBy 15 = .ok (.iload_n 3, 1) := by decide +kernel
theorem dX6_sharedBy_16 : decode cX6_sharedBy 16 = .ok (.iaload, 1) := by decide +kernel
theorem dX6_sharedBy_17 : decode cX6_sharedBy 17 = .ok (.iand, 1) := by decide +kernel
theorem dX6_sharedBy_18 : decode cX6_sharedBy 18 = .ok (.invokestatic 386, 3) := by decide +kernel
theorem dX6_sharedBy_21 : decode cX6_sharedBy 21 = .ok (.iadd, 1) := by decide +kernel
theorem dX6_sharedBy_22 : decode cX6_sharedBy 22 = .ok (.istore_n 2, 1) := by decide +kernel
theorem dX6_sharedBy_23 : decode cX6_sharedBy 23 = .ok (.iinc 3 1, 3) := by decide +kernel
theorem dX6_sharedBy_26 : decode cX6_sharedBy 26 = .ok (.goto (-22), 3) := by decide +kernel
theorem dX6_sharedBy_29 : decode cX6_sharedBy 29 = .ok (.iload_n 2, 1) := by decide +kernel
theorem dX6_sharedBy_30 : decode cX6_sharedBy 30 = .ok (.ireturn, 1) := by decide +kernel
theorem dX6_dullTeeth_0 : decode cX6_dullTeeth 0 = .ok (.iconst 0, 1) := by decide +kernel
theorem dX6_dullTeeth_1 : decode cX6_dullTeeth 1 = .ok (.istore_n 2, 1) := by decide +kernel
theorem dX6_dullTeeth_2 : decode cX6_dullTeeth 2 = .ok (.aload_n 0, 1) := by decide +kernel
theorem dX6_dullTeeth_3 : decode cX6_dullTeeth 3 = .ok (.astore_n 3, 1) := by decide +kernel
theorem dX6_dullTeeth_4 : decode cX6_dullTeeth 4 = .ok (.aload_n 3, 1) := by decide +kernel
theorem dX6_dullTeeth_5 : decode cX6_dullTeeth 5 = .ok (.arraylength, 1) := by decide +kernel
theorem dX6_dullTeeth_6 : decode cX6_dullTeeth 6 = .ok (.istore 4, 2) := by decide +kernel
theorem dX6_dullTeeth_8 : decode cX6_dullTeeth 8 = .ok (.iconst 0, 1) := by decide +kernel
theorem dX6_dullTeeth_9 : decode cX6_dullTeeth 9 = .ok (.istore 5, 2) := by decide +kernel
theorem dX6_dullTeeth_11 : decode cX6_dullTeeth 11 = .ok (.iload 5, 2) := by decide +kernel
theorem dX6_dullTeeth_13 : decode cX6_dullTeeth 13 = .ok (.iload 4, 2) := by decide +kernel
theorem dX6_dullTeeth_15 : decode cX6_dullTeeth 15 = .ok (.if_icmp .ge 24, 3) := by decide +kernel
theorem dX6_dullTeeth_18 : decode cX6_dullTeeth 18 = .ok (.aload_n 3, 1) := by decide +kernel
theorem dX6_dullTeeth_19 : decode cX6_dullTeeth 19 = .ok (.iload 5, 2) := by decide +kernel
theorem dX6_dullTeeth_21 : decode cX6_dullTeeth 21 = .ok (.iaload, 1) := by decide +kernel
theorem dX6_dullTeeth_22 : decode cX6_dullTeeth 22 = .ok (.istore 6, 2) := by decide +kernel
theorem dX6_dullTeeth_24 : decode cX6_dullTeeth 24 = .ok (.iload 6, 2) := by decide +kernel
theorem dX6_dullTeeth_26 : decode cX6_dullTeeth 26 = .ok (.iload_n 1, 1) := by decide +kernel
theorem dX6_dullTeeth_27 : decode cX6_dullTeeth 27 = .ok (.if_icmp .lt 6, 3) := by decide +kernel
theorem dX6_dullTeeth_30 : decode cX6_dullTeeth 30 = .ok (.iinc 2 1, 3) := by decide +kernel
theorem dX6_dullTeeth_33 : decode cX6_dullTeeth 33 = .ok (.iinc 5 1, 3) := by decide +kernel
theorem dX6_dullTeeth_36 : decode cX6_dullTeeth 36 = .ok (.goto (-25), 3) := by decide +kernel
theorem dX6_dullTeeth_39 : decode cX6_dullTeeth 39 = .ok (.iload_n 2, 1) := by decide +kernel
theorem dX6_dullTeeth_40 : decode cX6_dullTeeth 40 = .ok (.ireturn, 1) := by decide +kernel
theorem dJ6_bitCount_0f7a4_0 : decode cJ6_bitCount_0f7a4 0 = .ok (.iload_n 0, 1) := by decide +kernel
theorem dJ6_bitCount_0f7a4_1 : decode cJ6_bitCount_0f7a4 1 = .ok (.iload_n 0, 1) := by decide +kernel
theorem dJ6_bitCount_0f7a4_2 : decode cJ6_bitCount_0f7a4 2 = .ok (.iconst 1, 1) := by decide +kernel
theorem dJ6_bitCount_0f7a4_3 : decode cJ6_bitCount_0f7a4 3 = .ok (.iushr, 1) := by decide +kernel
theorem dJ6_bitCount_0f7a4_4 : decode cJ6_bitCount_0f7a4 4 = .ok (.ldc_w 265, 3) := by decide +kernel
theorem dJ6_bitCount_0f7a4_7 : decode cJ6_bitCount_0f7a4 7 = .ok (.iand, 1) := by decide +kernel
theorem dJ6_bitCount_0f7a4_8 : decode cJ6_bitCount_0f7a4 8 = .ok (.isub, 1) := by decide +kernel
theorem dJ6_bitCount_0f7a4_9 : decode cJ6_bitCount_0f7a4 9 = .ok (.istore_n 0, 1) := by decide +kernel
theorem dJ6_bitCount_0f7a4_10 : decode cJ6_bitCount_0f7a4 10 = .ok (.iload_n 0, 1) := by decide +kernel
theorem dJ6_bitCount_0f7a4_11 : decode cJ6_bitCount_0f7a4 11 = .ok (.ldc_w 266, 3) := by decide +kernel
theorem dJ6_bitCount_0f7a4_14 : decode cJ6_bitCount_0f7a4 14 = .ok (.iand, 1) := by decide +kernel
theorem dJ6_bitCount_0f7a4_15 : decode cJ6_bitCount_0f7a4 15 = .ok (.iload_n 0, 1) := by decide +kernel
theorem dJ6_bitCount_0f7a4_16 : decode cJ6_bitCount_0f7a4 16 = .ok (.iconst 2, 1) := by decide +kernel
theorem dJ6_bitCount_0f7a4_17 : decode cJ6_bitCount_0f7a4 17 = .ok (.iushr, 1) := by decide +kernel
theorem dJ6_bitCount_0f7a4_18 : decode cJ6_bitCount_0f7a4 18 = .ok (.ldc_w 266, 3) := by decide +kernel
theorem dJ6_bitCount_0f7a4_21 : decode cJ6_bitCount_0f7a4 21 = .ok (.iand, 1) := by decide +kernel
theorem dJ6_bitCount_0f7a4_22 : decode cJ6_bitCount_0f7a4 22 = .ok (.iadd, 1) := by decide +kernel
theorem dJ6_bitCount_0f7a4_23 : decode cJ6_bitCount_0f7a4 23 = .ok (.istore_n 0, 1) := by decide +kernel
theorem dJ6_bitCount_0f7a4_24 : decode cJ6_bitCount_0f7a4 24 = .ok (.iload_n 0, 1) := by decide +kernel
theorem dJ6_bitCount_0f7a4_25 : decode cJ6_bitCount_0f7a4 25 = .ok (.iload_n 0, 1) := by decide +kernel
theorem dJ6_bitCount_0f7a4_26 : decode cJ6_bitCount_0f7a4 26 = .ok (.iconst 4, 1) := by decide +kernel
theorem dJ6_bitCount_0f7a4_27 : decode cJ6_bitCount_0f7a4 27 = .ok (.iushr, 1) := by decide +kernel
theorem dJ6_bitCount_0f7a4_28 : decode cJ6_bitCount_0f7a4 28 = .ok (.iadd, 1) := by decide +kernel
theorem dJ6_bitCount_0f7a4_29 : decode cJ6_bitCount_0f7a4 29 = .ok (.ldc_w 267, 3) := by decide +kernel
theorem dJ6_bitCount_0f7a4_32 : decode cJ6_bitCount_0f7a4 32 = .ok (.iand, 1) := by decide +kernel
theorem dJ6_bitCount_0f7a4_33 : decode cJ6_bitCount_0f7a4 33 = .ok (.istore_n 0, 1) := by decide +kernel
theorem dJ6_bitCount_0f7a4_34 : decode cJ6_bitCount_0f7a4 34 = .ok (.iload_n 0, 1) := by decide +kernel
theorem dJ6_bitCount_0f7a4_35 : decode cJ6_bitCount_0f7a4 35 = .ok (.iload_n 0, 1) := by decide +kernel
theorem dJ6_bitCount_0f7a4_36 : decode cJ6_bitCount_0f7a4 36 = .ok (.bipush 8, 2) := by decide +kernel
theorem dJ6_bitCount_0f7a4_38 : decode cJ6_bitCount_0f7a4 38 = .ok (.iushr, 1) := by decide +kernel
theorem dJ6_bitCount_0f7a4_39 : decode cJ6_bitCount_0f7a4 39 = .ok (.iadd, 1) := by decide +kernel
theorem dJ6_bitCount_0f7a4_40 : decode cJ6_bitCount_0f7a4 40 = .ok (.istore_n 0, 1) := by decide +kernel
theorem dJ6_bitCount_0f7a4_41 : decode cJ6_bitCount_0f7a4 41 = .ok (.iload_n 0, 1) := by decide +kernel
theorem dJ6_bitCount_0f7a4_42 : decode cJ6_bitCount_0f7a4 42 = .ok (.iload_n 0, 1) := by decide +kernel
theorem dJ6_bitCount_0f7a4_43 : decode cJ6_bitCount_0f7a4 43 = .ok (.bipush 16, 2) := by decide +kernel
theorem dJ6_bitCount_0f7a4_45 : decode cJ6_bitCount_0f7a4 45 = .ok (.iushr, 1) := by decide +kernel
theorem dJ6_bitCount_0f7a4_46 : decode cJ6_bitCount_0f7a4 46 = .ok (.iadd, 1) := by decide +kernel
theorem dJ6_bitCount_0f7a4_47 : decode cJ6_bitCount_0f7a4 47 = .ok (.istore_n 0, 1) := by decide +kernel
theorem dJ6_bitCount_0f7a4_48 : decode cJ6_bitCount_0f7a4 48 = .ok (.iload_n 0, 1) := by decide +kernel
theorem dJ6_bitCount_0f7a4_49 : decode cJ6_bitCount_0f7a4 49 = .ok (.bipush 63, 2) := by decide +kernel
theorem dJ6_bitCount_0f7a4_51 : decode cJ6_bitCount_0f7a4 51 = .ok (.iand, 1) := by decide +kernel
theorem dJ6_bitCount_0f7a4_52 : decode cJ6_bitCount_0f7a4 52 = .ok (.ireturn, 1) := by decide +kernel
theorem dJ9_min_7cf53_0 : decode cJ9_min_7cf53 0 = .ok (.iload_n 0, 1) := by decide +kernel
theorem dJ9_min_7cf53_1 : decode cJ9_min_7cf53 1 = .ok (.iload_n 1, 1) := by decide +kernel
theorem dJ9_min_7cf53_2 : decode cJ9_min_7cf53 2 = .ok (.if_icmp .gt 7, 3) := by decide +kernel
theorem dJ9_min_7cf53_5 : decode cJ9_min_7cf53 5 = .ok (.iload_n 0, 1) := by decide +kernel
theorem dJ9_min_7cf53_6 : decode cJ9_min_7cf53 6 = .ok (.goto 4, 3) := by decide +kernel
theorem dJ9_min_7cf53_9 : decode cJ9_min_7cf53 9 = .ok (.iload_n 1, 1) := by decide +kernel
theorem dJ9_min_7cf53_10 : decode cJ9_min_7cf53 10 = .ok (.ireturn, 1) := by decide +kernel
theorem dL_cell_0 : decode cL_cell 0 = .ok (.iload_n 1, 1) := by decide +kernel
theorem dL_cell_1 : decode cL_cell 1 = .ok (.aload_n 0, 1) := by decide +kernel
theorem dL_cell_2 : decode cL_cell 2 = .ok (.arraylength, 1) := by decide +kernel
theorem dL_cell_3 : decode cL_cell 3 = .ok (.if_icmp .ge 9, 3) := by decide +kernel
theorem dL_cell_6 : decode cL_cell 6 = .ok (.aload_n 0, 1) := by decide +kernel
theorem dL_cell_7 : decode cL_cell 7 = .ok (.iload_n 1, 1) := by decide +kernel
theorem dL_cell_8 : decode cL_cell 8 = .ok (.iaload, 1) := by decide +kernel
theorem dL_cell_9 : decode cL_cell 9 = .ok (.goto 15, 3) := by decide +kernel
theorem dL_cell_12 : decode cL_cell 12 = .ok (.sipush 7919, 3) := by decide +kernel
theorem dL_cell_15 : decode cL_cell 15 = .ok (.iload_n 1, 1) := by decide +kernel
theorem dL_cell_16 : decode cL_cell 16 = .ok (.iconst 5, 1) := by decide +kernel
theorem dL_cell_17 : decode cL_cell 17 = .ok (.iadd, 1) := by decide +kernel
theorem dL_cell_18 : decode cL_cell 18 = .ok (.imul, 1) := by decide +kernel
theorem dL_cell_19 : decode cL_cell 19 = .ok (.iload_n 1, 1) := by decide +kernel
theorem dL_cell_20 : decode cL_cell 20 = .ok (.bipush 17, 2) := by decide +kernel
theorem dL_cell_22 : decode cL_cell 22 = .ok (.iadd, 1) := by decide +kernel
theorem dL_cell_23 : decode cL_cell 23 = .ok (.imul, 1) := by decide +kernel
theorem dL_cell_24 : decode cL_cell 24 = .ok (.ireturn, 1) := by decide +kernel
theorem dL_low_0 : decode cL_low 0 = .ok (.iload_n 0, 1) := by decide +kernel
theorem dL_low_1 : decode cL_low 1 = .ok (.ldc 7, 2) := by decide +kernel
theorem dL_low_3 : decode cL_low 3 = .ok (.iand, 1) := by decide +kernel
theorem dL_low_4 : decode cL_low 4 = .ok (.iload_n 1, 1) := by decide +kernel
theorem dL_low_5 : decode cL_low 5 = .ok (.irem, 1) := by decide +kernel
theorem dL_low_6 : decode cL_low 6 = .ok (.ireturn, 1) := by decide +kernel
theorem dL_put_0 : decode cL_put 0 = .ok (.aload_n 0, 1) := by decide +kernel
theorem dL_put_1 : decode cL_put 1 = .ok (.iload_n 1, 1) := by decide +kernel
theorem dL_put_2 : decode cL_put 2 = .ok (.iload_n 2, 1) := by decide +kernel
theorem dL_put_3 : decode cL_put 3 = .ok (.iload_n 3, 1) := by decide +kernel
theorem dL_put_4 : decode cL_put 4 = .ok (.invokevirtual 8, 3) := by decide +kernel
theorem dL_put_7 : decode cL_put 7 = .ok (.ireturn, 1) := by decide +kernel
theorem dL_put_8 : decode cL_put 8 = .ok (.astore 4, 2) := by decide +kernel
theorem dL_put_10 : decode cL_put 10 = .ok (.sipush (-903), 3) := by decide +kernel
theorem dL_put_13 : decode cL_put 13 = .ok (.ireturn, 1) := by decide +kernel
theorem dL_put_14 : decode cL_put 14 = .ok (.astore 4, 2) := by decide +kernel
theorem dL_put_16 : decode cL_put 16 = .ok (.sipush (-902), 3) := by decide +kernel
theorem dL_put_19 : decode cL_put 19 = .ok (.ireturn, 1) := by decide +kernel
theorem dL_pull_0 : decode cL_pull 0 = .ok (.aload_n 0, 1) := by decide +kernel
theorem dL_pull_1 : decode cL_pull 1 = .ok (.iload_n 1, 1) := by decide +kernel
theorem dL_pull_2 : decode cL_pull 2 = .ok (.iload_n 2, 1) := by decide +kernel
theorem dL_pull_3 : decode cL_pull 3 = .ok (.iload_n 3, 1) := by decide +kernel
theorem dL_pull_4 : decode cL_pull 4 = .ok (.invokevirtual 18, 3) := by decide +kernel
theorem dL_pull_7 : decode cL_pull 7 = .ok (.ireturn, 1) := by decide +kernel
theorem dL_pull_8 : decode cL_pull 8 = .ok (.astore 4, 2) := by decide +kernel
theorem dL_pull_10 : decode cL_pull 10 = .ok (.sipush (-903), 3) := by decide +kernel
theorem dL_pull_13 : decode cL_pull 13 = .ok (.ireturn, 1) := by decide +kernel
theorem dL_pull_14 : decode cL_pull 14 = .ok (.astore 4, 2) := by decide +kernel
theorem dL_pull_16 : decode cL_pull 16 = .ok (.sipush (-902), 3) := by decide +kernel
theorem dL_pull_19 : decode cL_pull 19 = .ok (.ireturn, 1) := by decide +kernel
theorem dL_move_0 : decode cL_move 0 = .ok (.aload_n 0, 1) := by decide +kernel
theorem dL_move_1 : decode cL_move 1 = .ok (.iload_n 1, 1) := by decide +kernel
theorem dL_move_2 : decode cL_move 2 = .ok (.iload_n 2, 1) := by decide +kernel
theorem dL_move_3 : decode cL_move 3 = .ok (.iload_n 3, 1) := by decide +kernel
theorem dL_move_4 : decode cL_move 4 = .ok (.iload 4, 2) := by decide +kernel
theorem dL_move_6 : decode cL_move 6 = .ok (.invokevirtual 21, 3) := by decide +kernel
theorem dL_move_9 : decode cL_move 9 = .ok (.ireturn, 1) := by decide +kernel
theorem dL_move_10 : decode cL_move 10 = .ok (.astore 5, 2) := by decide +kernel
theorem dL_move_12 : decode cL_move 12 = .ok (.sipush (-903), 3) := by decide +kernel
theorem dL_move_15 : decode cL_move 15 = .ok (.ireturn, 1) := by decide +kernel
theorem dL_move_16 : decode cL_move 16 = .ok (.astore 5, 2) := by decide +kernel
theorem dL_move_18 : decode cL_move 18 = .ok (.sipush (-901), 3) := by decide +kernel
theorem dL_move_21 : decode cL_move 21 = .ok (.ireturn, 1) := by decide +kernel
theorem dL_move_22 : decode cL_move 22 = .ok (.astore 5, 2) := by decide +kernel
theorem dL_move_24 : decode cL_move 24 = .ok (.sipush (-902), 3) := by decide +kernel
theorem dL_move_27 : decode cL_move 27 = .ok (.ireturn, 1) := by decide +kernel
theorem dL_trade_0 : decode cL_trade 0 = .ok (.aload_n 0, 1) := by decide +kernel
theorem dL_trade_1 : decode cL_trade 1 = .ok (.iload_n 1, 1) := by decide +kernel
theorem dL_trade_2 : decode cL_trade 2 = .ok (.iload_n 2, 1) := by decide +kernel
theorem dL_trade_3 : decode cL_trade 3 = .ok (.invokevirtual 27, 3) := by decide +kernel
theorem dL_trade_6 : decode cL_trade 6 = .ok (.ireturn, 1) := by decide +kernel
theorem dL_trade_7 : decode cL_trade 7 = .ok (.astore_n 3, 1) := by decide +kernel
theorem dL_trade_8 : decode cL_trade 8 = .ok (.sipush (-903), 3) := by decide +kernel
theorem dL_trade_11 : decode cL_trade 11 = .ok (.ireturn, 1) := by decide +kernel
theorem dL_trade_12 : decode cL_trade 12 = .ok (.astore_n 3, 1) := by decide +kernel
theorem dL_trade_13 : decode cL_trade 13 = .ok (.sipush (-901), 3) := by decide +kernel
theorem dL_trade_16 : decode cL_trade 16 = .ok (.ireturn, 1) := by decide +kernel
theorem dL_lend_0 : decode cL_lend 0 = .ok (.aload_n 0, 1) := by decide +kernel
theorem dL_lend_1 : decode cL_lend 1 = .ok (.iload_n 1, 1) := by decide +kernel
theorem dL_lend_2 : decode cL_lend 2 = .ok (.iload_n 2, 1) := by decide +kernel
theorem dL_lend_3 : decode cL_lend 3 = .ok (.iload_n 3, 1) := by decide +kernel
theorem dL_lend_4 : decode cL_lend 4 = .ok (.invokevirtual 31, 3) := by decide +kernel
theorem dL_lend_7 : decode cL_lend 7 = .ok (.ireturn, 1) := by decide +kernel
theorem dL_lend_8 : decode cL_lend 8 = .ok (.astore 4, 2) := by decide +kernel
theorem dL_lend_10 : decode cL_lend 10 = .ok (.sipush (-903), 3) := by decide +kernel
theorem dL_lend_13 : decode cL_lend 13 = .ok (.ireturn, 1) := by decide +kernel
theorem dL_lend_14 : decode cL_lend 14 = .ok (.astore 4, 2) := by decide +kernel
theorem dL_lend_16 : decode cL_lend 16 = .ok (.sipush (-901), 3) := by decide +kernel
theorem dL_lend_19 : decode cL_lend 19 = .ok (.ireturn, 1) := by decide +kernel
theorem dL_lend_20 : decode cL_lend 20 = .ok (.astore 4, 2) := by decide +kernel
theorem dL_lend_22 : decode cL_lend 22 = .ok (.sipush (-902), 3) := by decide +kernel
theorem dL_lend_25 : decode cL_lend 25 = .ok (.ireturn, 1) := by decide +kernel
theorem dL_repay_0 : decode cL_repay 0 = .ok (.aload_n 0, 1) := by decide +kernel
theorem dL_repay_1 : decode cL_repay 1 = .ok (.iload_n 1, 1) := by decide +kernel
theorem dL_repay_2 : decode cL_repay 2 = .ok (.iload_n 2, 1) := by decide +kernel
theorem dL_repay_3 : decode cL_repay 3 = .ok (.iload_n 3, 1) := by decide +kernel
theorem dL_repay_4 : decode cL_repay 4 = .ok (.invokevirtual 34, 3) := by decide +kernel
theorem dL_repay_7 : decode cL_repay 7 = .ok (.ireturn, 1) := by decide +kernel
theorem dL_repay_8 : decode cL_repay 8 = .ok (.astore 4, 2) := by decide +kernel
theorem dL_repay_10 : decode cL_repay 10 = .ok (.sipush (-903), 3) := by decide +kernel
theorem dL_repay_13 : decode cL_repay 13 = .ok (.ireturn, 1) := by decide +kernel
theorem dL_repay_14 : decode cL_repay 14 = .ok (.astore 4, 2) := by decide +kernel
theorem dL_repay_16 : decode cL_repay 16 = .ok (.sipush (-901), 3) := by decide +kernel
theorem dL_repay_19 : decode cL_repay 19 = .ok (.ireturn, 1) := by decide +kernel
theorem dL_repay_20 : decode cL_repay 20 = .ok (.astore 4, 2) := by decide +kernel
theorem dL_repay_22 : decode cL_repay 22 = .ok (.sipush (-902), 3) := by decide +kernel
theorem dL_repay_25 : decode cL_repay 25 = .ok (.ireturn, 1) := by decide +kernel
theorem dL_addTown_0 : decode cL_addTown 0 = .ok (.aload_n 0, 1) := by decide +kernel
theorem dL_addTown_1 : decode cL_addTown 1 = .ok (.iload_n 1, 1) := by decide +kernel
theorem dL_addTown_2 : decode cL_addTown 2 = .ok (.invokevirtual 37, 3) := by decide +kernel
theorem dL_addTown_5 : decode cL_addTown 5 = .ok (.ireturn, 1) := by decide +kernel
theorem dL_addTown_6 : decode cL_addTown 6 = .ok (.astore_n 2, 1) := by decide +kernel
theorem dL_addTown_7 : decode cL_addTown 7 = .ok (.sipush (-901), 3) := by decide +kernel
theorem dL_addTown_10 : decode cL_addTown 10 = .ok (.ireturn, 1) := by decide +kernel
theorem dL_addTown_11 : decode cL_addTown 11 = .ok (.astore_n 2, 1) := by decide +kernel
theorem dL_addTown_12 : decode cL_addTown 12 = .ok (.sipush (-902), 3) := by decide +kernel
theorem dL_addTown_15 : decode cL_addTown 15 = .ok (.ireturn, 1) := by decide +kernel
theorem dL_turn_0 : decode cL_turn 0 = .ok (.aload_n 0, 1) := by decide +kernel
theorem dL_turn_1 : decode cL_turn 1 = .ok (.iload_n 1, 1) := by decide +kernel
theorem dL_turn_2 : decode cL_turn 2 = .ok (.iload_n 2, 1) := by decide +kernel
theorem dL_turn_3 : decode cL_turn 3 = .ok (.invokevirtual 41, 3) := by decide +kernel
theorem dL_turn_6 : decode cL_turn 6 = .ok (.ireturn, 1) := by decide +kernel
theorem dL_turn_7 : decode cL_turn 7 = .ok (.astore_n 3, 1) := by decide +kernel
theorem dL_turn_8 : decode cL_turn 8 = .ok (.sipush (-903), 3) := by decide +kernel
theorem dL_turn_11 : decode cL_turn 11 = .ok (.ireturn, 1) := by decide +kernel
theorem dL_turn_12 : decode cL_turn 12 = .ok (.astore_n 3, 1) := by decide +kernel
theorem dL_turn_13 : decode cL_turn 13 = .ok (.sipush (-901), 3) := by decide +kernel
theorem dL_turn_16 : decode cL_turn 16 = .ok (.ireturn, 1) := by decide +kernel
theorem dL_learn_0 : decode cL_learn 0 = .ok (.aload_n 0, 1) := by decide +kernel
theorem dL_learn_1 : decode cL_learn 1 = .ok (.iload_n 1, 1) := by decide +kernel
theorem dL_learn_2 : decode cL_learn 2 = .ok (.invokevirtual 44, 3) := by decide +kernel
theorem dL_learn_5 : decode cL_learn 5 = .ok (.ireturn, 1) := by decide +kernel
theorem dL_learn_6 : decode cL_learn 6 = .ok (.astore_n 2, 1) := by decide +kernel
theorem dL_learn_7 : decode cL_learn 7 = .ok (.sipush (-903), 3) := by decide +kernel
theorem dL_learn_10 : decode cL_learn 10 = .ok (.ireturn, 1) := by decide +kernel
theorem dL_learn_11 : decode cL_learn 11 = .ok (.astore_n 2, 1) := by decide +kernel
theorem dL_learn_12 : decode cL_learn 12 = .ok (.sipush (-901), 3) := by decide +kernel
theorem dL_learn_15 : decode cL_learn 15 = .ok (.ireturn, 1) := by decide +kernel
theorem dL_set_0 : decode cL_set 0 = .ok (.aload_n 0, 1) := by decide +kernel
theorem dL_set_1 : decode cL_set 1 = .ok (.iload_n 1, 1) := by decide +kernel
theorem dL_set_2 : decode cL_set 2 = .ok (.iload_n 2, 1) := by decide +kernel
theorem dL_set_3 : decode cL_set 3 = .ok (.invokevirtual 47, 3) := by decide +kernel
theorem dL_set_6 : decode cL_set 6 = .ok (.ireturn, 1) := by decide +kernel
theorem dL_set_7 : decode cL_set 7 = .ok (.astore_n 3, 1) := by decide +kernel
theorem dL_set_8 : decode cL_set 8 = .ok (.sipush (-903), 3) := by decide +kernel
theorem dL_set_11 : decode cL_set 11 = .ok (.ireturn, 1) := by decide +kernel
theorem dL_set_12 : decode cL_set 12 = .ok (.astore_n 3, 1) := by decide +kernel
theorem dL_set_13 : decode cL_set 13 = .ok (.sipush (-901), 3) := by decide +kernel
theorem dL_set_16 : decode cL_set 16 = .ok (.ireturn, 1) := by decide +kernel
theorem dL_file_0 : decode cL_file 0 = .ok (.aload_n 0, 1) := by decide +kernel
theorem dL_file_1 : decode cL_file 1 = .ok (.iload_n 1, 1) := by decide +kernel
theorem dL_file_2 : decode cL_file 2 = .ok (.iload_n 2, 1) := by decide +kernel
theorem dL_file_3 : decode cL_file 3 = .ok (.invokevirtual 50, 3) := by decide +kernel
theorem dL_file_6 : decode cL_file 6 = .ok (.ireturn, 1) := by decide +kernel
theorem dL_file_7 : decode cL_file 7 = .ok (.astore_n 3, 1) := by decide +kernel
theorem dL_file_8 : decode cL_file 8 = .ok (.sipush (-903), 3) := by decide +kernel
theorem dL_file_11 : decode cL_file 11 = .ok (.ireturn, 1) := by decide +kernel
theorem dL_acts_0 : decode cL_acts 0 = .ok (.aload_n 0, 1) := by decide +kernel
theorem dL_acts_1 : decode cL_acts 1 = .ok (.iconst 0, 1) := by decide +kernel
theorem dL_acts_2 : decode cL_acts 2 = .ok (.invokevirtual 53, 3) := by decide +kernel
theorem dL_acts_5 : decode cL_acts 5 = .ok (.istore_n 2, 1) := by decide +kernel
theorem dL_acts_6 : decode cL_acts 6 = .ok (.iload_n 1, 1) := by decide +kernel
theorem dL_acts_7 : decode cL_acts 7 = .ok (.iconst 4, 1) := by decide +kernel
theorem dL_acts_8 : decode cL_acts 8 = .ok (.ishr, 1) := by decide +kernel
theorem dL_acts_9 : decode cL_acts 9 = .ok (.iload_n 1, 1) := by decide +kernel
theorem dL_acts_10 : decode cL_acts 10 = .ok (.bipush 26, 2) := by decide +kernel
theorem dL_acts_12 : decode cL_acts 12 = .ok (.ishr, 1) := by decide +kernel
theorem dL_acts_13 : decode cL_acts 13 = .ok (.bipush 7, 2) := by decide +kernel
theorem dL_acts_15 : decode cL_acts 15 = .ok (.iand, 1) := by decide +kernel
theorem dL_acts_16 : decode cL_acts 16 = .ok (.ifCond .ne 9, 3) := by decide +kernel
theorem dL_acts_19 : decode cL_acts 19 = .ok (.iload_n 2, 1) := by decide +kernel
theorem dL_acts_20 : decode cL_acts 20 = .ok (.iconst 1, 1) := by decide +kernel
theorem dL_acts_21 : decode cL_acts 21 = .ok (.iadd, 1) := by decide +kernel
theorem dL_acts_22 : decode cL_acts 22 = .ok (.goto 4, 3) := by decide +kernel
theorem dL_acts_25 : decode cL_acts 25 = .ok (.iload_n 2, 1) := by decide +kernel
theorem dL_acts_26 : decode cL_acts 26 = .ok (.invokestatic 56, 3) := by decide +kernel
theorem dL_acts_29 : decode cL_acts 29 = .ok (.istore_n 3, 1) := by decide +kernel
theorem dL_acts_30 : decode cL_acts 30 = .ok (.iload_n 1, 1) := by decide +kernel
theorem dL_acts_31 : decode cL_acts 31 = .ok (.bipush 7, 2) := by decide +kernel
theorem dL_acts_33 : decode cL_acts 33 = .ok (.ishr, 1) := by decide +kernel
theorem dL_acts_34 : decode cL_acts 34 = .ok (.iload_n 2, 1) := by decide +kernel
theorem dL_acts_35 : decode cL_acts 35 = .ok (.invokestatic 56, 3) := by decide +kernel
theorem dL_acts_38 : decode cL_acts 38 = .ok (.istore 4, 2) := by decide +kernel
theorem dL_acts_40 : decode cL_acts 40 = .ok (.iload_n 1, 1) := by decide +kernel
theorem dL_acts_41 : decode cL_acts 41 = .ok (.bipush 10, 2) := by decide +kernel
theorem dL_acts_43 : decode cL_acts 43 = .ok (.ishr, 1) := by decide +kernel
theorem dL_acts_44 : decode cL_acts 44 = .ok (.iload_n 1, 1) := by decide +kernel
theorem dL_acts_45 : decode cL_acts 45 = .ok (.bipush 24, 2) := by decide +kernel
theorem dL_acts_47 : decode cL_acts 47 = .ok (.ishr, 1) := by decide +kernel
theorem dL_acts_48 : decode cL_acts 48 = .ok (.iconst 3, 1) := by decide +kernel
theorem dL_acts_49 : decode cL_acts 49 = .ok (.iand, 1) := by decide +kernel
theorem dL_acts_50 : decode cL_acts 50 = .ok (.ifCond .ne 8, 3) := by decide +kernel
theorem dL_acts_53 : decode cL_acts 53 = .ok (.bipush 25, 2) := by decide +kernel
theorem dL_acts_55 : decode cL_acts 55 = .ok (.goto 4, 3) := by decide +kernel
theorem dL_acts_58 : decode cL_acts 58 = .ok (.iconst 5, 1) := by decide +kernel
theorem dL_acts_59 : decode cL_acts 59 = .ok (.invokestatic 56, 3) := by decide +kernel
theorem dL_acts_62 : decode cL_acts 62 = .ok (.istore 5, 2) := by decide +kernel
theorem dL_acts_64 : decode cL_acts 64 = .ok (.iload_n 1, 1) := by decide +kernel
theorem dL_acts_65 : decode cL_acts 65 = .ok (.bipush 15, 2) := by decide +kernel
theorem dL_acts_67 : decode cL_acts 67 = .ok (.ishr, 1) := by decide +kernel
theorem dL_acts_68 : decode cL_acts 68 = .ok (.iload_n 1, 1) := by decide +kernel
theorem dL_acts_69 : decode cL_acts 69 = .ok (.bipush 25, 2) := by decide +kernel
theorem dL_acts_71 : decode cL_acts 71 = .ok (.ishr, 1) := by decide +kernel
theorem dL_acts_72 : decode cL_acts 72 = .ok (.iconst 3, 1) := by decide +kernel
theorem dL_acts_73 : decode cL_acts 73 = .ok (.iand, 1) := by decide +kernel
theorem dL_acts_74 : decode cL_acts 74 = .ok (.ifCond .ne 8, 3) := by decide +kernel
theorem dL_acts_77 : decode cL_acts 77 = .ok (.bipush 13, 2) := by decide +kernel
theorem dL_acts_79 : decode cL_acts 79 = .ok (.goto 4, 3) := by decide +kernel
theorem dL_acts_82 : decode cL_acts 82 = .ok (.iconst 3, 1) := by decide +kernel
theorem dL_acts_83 : decode cL_acts 83 = .ok (.invokestatic 56, 3) := by decide +kernel
theorem dL_acts_86 : decode cL_acts 86 = .ok (.istore 6, 2) := by decide +kernel
theorem dL_acts_88 : decode cL_acts 88 = .ok (.iload_n 1, 1) := by decide +kernel
theorem dL_acts_89 : decode cL_acts 89 = .ok (.bipush 16, 2) := by decide +kernel
theorem dL_acts_91 : decode cL_acts 91 = .ok (.invokestatic 56, 3) := by decide +kernel
theorem dL_acts_94 : decode cL_acts 94 = .ok (.tableswitch 203 0 14 #[74, 74, 74, 74, 84, 94, 106, 114, 122, 122, 139, 147, 147, 164, 181], 74) := by decide +kernel
theorem dL_acts_168 : decode cL_acts 168 = .ok (.aload_n 0, 1) := by decide +kernel
theorem dL_acts_169 : decode cL_acts 169 = .ok (.iload_n 3, 1) := by decide +kernel
theorem dL_acts_170 : decode cL_acts 170 = .ok (.iload 5, 2) := by decide +kernel
theorem dL_acts_172 : decode cL_acts 172 = .ok (.iload 6, 2) := by decide +kernel
theorem dL_acts_174 : decode cL_acts 174 = .ok (.invokestatic 61, 3) := by decide +kernel
theorem dL_acts_177 : decode cL_acts 177 = .ok (.ireturn, 1) := by decide +kernel
theorem dL_acts_178 : decode cL_acts 178 = .ok (.aload_n 0, 1) := by decide +kernel
theorem dL_acts_179 : decode cL_acts 179 = .ok (.iload_n 3, 1) := by decide +kernel
theorem dL_acts_180 : decode cL_acts 180 = .ok (.iload 5, 2) := by decide +kernel
theorem dL_acts_182 : decode cL_acts 182 = .ok (.iload 6, 2) := by decide +kernel
theorem dL_acts_184 : decode cL_acts 184 = .ok (.invokestatic 64, 3) := by decide +kernel
theorem dL_acts_187 : decode cL_acts 187 = .ok (.ireturn, 1) := by decide +kernel
theorem dL_acts_188 : decode cL_acts 188 = .ok (.aload_n 0, 1) := by decide +kernel
theorem dL_acts_189 : decode cL_acts 189 = .ok (.iload_n 3, 1) := by decide +kernel
theorem dL_acts_190 : decode cL_acts 190 = .ok (.iload 4, 2) := by decide +kernel
theorem dL_acts_192 : decode cL_acts 192 = .ok (.iload 5, 2) := by decide +kernel
theorem dL_acts_194 : decode cL_acts 194 = .ok (.iload 6, 2) := by decide +kernel
theorem dL_acts_196 : decode cL_acts 196 = .ok (.invokestatic 66, 3) := by decide +kernel
theorem dL_acts_199 : decode cL_acts 199 = .ok (.ireturn, 1) := by decide +kernel
theorem dL_acts_200 : decode cL_acts 200 = .ok (.aload_n 0, 1) := by decide +kernel
theorem dL_acts_201 : decode cL_acts 201 = .ok (.iload_n 3, 1) := by decide +kernel
theorem dL_acts_202 : decode cL_acts 202 = .ok (.iload 4, 2) := by decide +kernel
theorem dL_acts_204 : decode cL_acts 204 = .ok (.invokestatic 69, 3) := by decide +kernel
theorem dL_acts_207 : decode cL_acts 207 = .ok (.ireturn, 1) := by decide +kernel
theorem dL_acts_208 : decode cL_acts 208 = .ok (.aload_n 0, 1) := by decide +kernel
theorem dL_acts_209 : decode cL_acts 209 = .ok (.iload_n 3, 1) := by decide +kernel
theorem dL_acts_210 : decode cL_acts 210 = .ok (.iload 5, 2) := by decide +kernel
theorem dL_acts_212 : decode cL_acts 212 = .ok (.invokestatic 72, 3) := by decide +kernel
theorem dL_acts_215 : decode cL_acts 215 = .ok (.ireturn, 1) := by decide +kernel
theorem dL_acts_216 : decode cL_acts 216 = .ok (.iload_n 3, 1) := by decide +kernel
theorem dL_acts_217 : decode cL_acts 217 = .ok (.iload_n 2, 1) := by decide +kernel
theorem dL_acts_218 : decode cL_acts 218 = .ok (.if_icmp .ge 11, 3) := by decide +kernel
theorem dL_acts_221 : decode cL_acts 221 = .ok (.aload_n 0, 1) := by decide +kernel
theorem dL_acts_222 : decode cL_acts 222 = .ok (.iload_n 3, 1) := by decide +kernel
theorem dL_acts_223 : decode cL_acts 223 = .ok (.invokevirtual 74, 3) := by decide +kernel
theorem dL_acts_226 : decode cL_acts 226 = .ok (.goto 6, 3) := by decide +kernel
theorem dL_acts_229 : decode cL_acts 229 = .ok (.sipush (-903), 3) := by decide +kernel
theorem dL_acts_232 : decode cL_acts 232 = .ok (.ireturn, 1) := by decide +kernel
theorem dL_acts_233 : decode cL_acts 233 = .ok (.aload_n 0, 1) := by decide +kernel
theorem dL_acts_234 : decode cL_acts 234 = .ok (.iload_n 3, 1) := by decide +kernel
theorem dL_acts_235 : decode cL_acts 235 = .ok (.iload 6, 2) := by decide +kernel
theorem dL_acts_237 : decode cL_acts 237 = .ok (.invokestatic 77, 3) := by decide +kernel
theorem dL_acts_240 : decode cL_acts 240 = .ok (.ireturn, 1) := by decide +kernel
theorem dL_acts_241 : decode cL_acts 241 = .ok (.aload_n 0, 1) := by decide +kernel
theorem dL_acts_242 : decode cL_acts 242 = .ok (.iload_n 3, 1) := by decide +kernel
theorem dL_acts_243 : decode cL_acts 243 = .ok (.iload 4, 2) := by decide +kernel
theorem dL_acts_245 : decode cL_acts 245 = .ok (.iload_n 1, 1) := by decide +kernel
theorem dL_acts_246 : decode cL_acts 246 = .ok (.bipush 12, 2) := by decide +kernel
theorem dL_acts_248 : decode cL_acts 248 = .ok (.ishr, 1) := by decide +kernel
theorem dL_acts_249 : decode cL_acts 249 = .ok (.bipush 40, 2) := by decide +kernel
theorem dL_acts_251 : decode cL_acts 251 = .ok (.invokestatic 56, 3) := by decide +kernel
theorem dL_acts_254 : decode cL_acts 254 = .ok (.invokestatic 79, 3) := by decide +kernel
theorem dL_acts_257 : decode cL_acts 257 = .ok (.ireturn, 1) := by decide +kernel
theorem dL_acts_258 : decode cL_acts 258 = .ok (.aload_n 0, 1) := by decide +kernel
theorem dL_acts_259 : decode cL_acts 259 = .ok (.iload_n 3, 1) := by decide +kernel
theorem dL_acts_260 : decode cL_acts 260 = .ok (.iload 4, 2) := by decide +kernel
theorem dL_acts_262 : decode cL_acts 262 = .ok (.iload_n 1, 1) := by decide +kernel
theorem dL_acts_263 : decode cL_acts 263 = .ok (.bipush 12, 2) := by decide +kernel
theorem dL_acts_265 : decode cL_acts 265 = .ok (.ishr, 1) := by decide +kernel
theorem dL_acts_266 : decode cL_acts 266 = .ok (.bipush 40, 2) := by decide +kernel
theorem dL_acts_268 : decode cL_acts 268 = .ok (.invokestatic 56, 3) := by decide +kernel
theorem dL_acts_271 : decode cL_acts 271 = .ok (.invokestatic 81, 3) := by decide +kernel
theorem dL_acts_274 : decode cL_acts 274 = .ok (.ireturn, 1) := by decide +kernel
theorem dL_acts_275 : decode cL_acts 275 = .ok (.aload_n 0, 1) := by decide +kernel
theorem dL_acts_276 : decode cL_acts 276 = .ok (.iload_n 1, 1) := by decide +kernel
theorem dL_acts_277 : decode cL_acts 277 = .ok (.bipush 9, 2) := by decide +kernel
theorem dL_acts_279 : decode cL_acts 279 = .ok (.ishr, 1) := by decide +kernel
theorem dL_acts_280 : decode cL_acts 280 = .ok (.iconst 4, 1) := by decide +kernel
theorem dL_acts_281 : decode cL_acts 281 = .ok (.invokestatic 56, 3) := by decide +kernel
theorem dL_acts_284 : decode cL_acts 284 = .ok (.iload_n 1, 1) := by decide +kernel
theorem dL_acts_285 : decode cL_acts 285 = .ok (.bipush 12, 2) := by decide +kernel
theorem dL_acts_287 : decode cL_acts 287 = .ok (.ishr, 1) := by decide +kernel
theorem dL_acts_288 : decode cL_acts 288 = .ok (.bipush 30, 2) := by decide +kernel
theorem dL_acts_290 : decode cL_acts 290 = .ok (.invokestatic 56, 3) := by decide +kernel
theorem dL_acts_293 : decode cL_acts 293 = .ok (.invokestatic 83, 3) := by decide +kernel
theorem dL_acts_296 : decode cL_acts 296 = .ok (.ireturn, 1) := by decide +kernel
theorem dL_acts_297 : decode cL_acts 297 = .ok (.aload_n 0, 1) := by decide +kernel
theorem dL_acts_298 : decode cL_acts 298 = .ok (.invokevirtual 85, 3) := by decide +kernel
theorem dL_acts_301 : decode cL_acts 301 = .ok (.ireturn, 1) := by decide +kernel
theorem dL_isSound_0 : decode cL_isSound 0 = .ok (.iconst 0, 1) := by decide +kernel
theorem dL_isSound_1 : decode cL_isSound 1 = .ok (.istore_n 1, 1) := by decide +kernel
theorem dL_isSound_2 : decode cL_isSound 2 = .ok (.iconst 0, 1) := by decide +kernel
theorem dL_isSound_3 : decode cL_isSound 3 = .ok (.istore_n 2, 1) := by decide +kernel
theorem dL_isSound_4 : decode cL_isSound 4 = .ok (.iconst 0, 1) := by decide +kernel
theorem dL_isSound_5 : decode cL_isSound 5 = .ok (.istore_n 3, 1) := by decide +kernel
theorem dL_isSound_6 : decode cL_isSound 6 = .ok (.iconst 0, 1) := by decide +kernel
theorem dL_isSound_7 : decode cL_isSound 7 = .ok (.istore 4, 2) := by decide +kernel
theorem dL_isSound_9 : decode cL_isSound 9 = .ok (.iconst 0, 1) := by decide +kernel
theorem dL_isSound_10 : decode cL_isSound 10 = .ok (.istore 5, 2) := by decide +kernel
theorem dL_isSound_12 : decode cL_isSound 12 = .ok (.iload 5, 2) := by decide +kernel
theorem dL_isSound_14 : decode cL_isSound 14 = .ok (.aload_n 0, 1) := by decide +kernel
theorem dL_isSound_15 : decode cL_isSound 15 = .ok (.iconst 0, 1) := by decide +kernel
theorem dL_isSound_16 : decode cL_isSound 16 = .ok (.invokevirtual 53, 3) := by decide +kernel
theorem dL_isSound_19 : decode cL_isSound 19 = .ok (.if_icmp .ge 277, 3) := by decide +kernel
theorem dL_isSound_22 : decode cL_isSound 22 = .ok (.aload_n 0, 1) := by decide +kernel
theorem dL_isSound_23 : decode cL_isSound 23 = .ok (.iload 5, 2) := by decide +kernel
theorem dL_isSound_25 : decode cL_isSound 25 = .ok (.iconst 1, 1) := by decide +kernel
theorem dL_isSound_26 : decode cL_isSound 26 = .ok (.invokevirtual 89, 3) := by decide +kernel
theorem dL_isSound_29 : decode cL_isSound 29 = .ok (.istore 6, 2) := by decide +kernel
theorem dL_isSound_31 : decode cL_isSound 31 = .ok (.aload_n 0, 1) := by decide +kernel
theorem dL_isSound_32 : decode cL_isSound 32 = .ok (.iload 5, 2) := by decide +kernel
theorem dL_isSound_34 : decode cL_isSound 34 = .ok (.iconst 0, 1) := by decide +kernel
theorem dL_isSound_35 : decode cL_isSound 35 = .ok (.invokevirtual 92, 3) := by decide +kernel
theorem dL_isSound_38 : decode cL_isSound 38 = .ok (.istore 7, 2) := by decide +kernel
theorem dL_isSound_40 : decode cL_isSound 40 = .ok (.aload_n 0, 1) := by decide +kernel
theorem dL_isSound_41 : decode cL_isSound 41 = .ok (.iload 5, 2) := by decide +kernel
theorem dL_isSound_43 : decode cL_isSound 43 = .ok (.iconst 3, 1) := by decide +kernel
theorem dL_isSound_44 : decode cL_isSound 44 = .ok (.invokevirtual 89, 3) := by decide +kernel
theorem dL_isSound_47 : decode cL_isSound 47 = .ok (.aload_n 0, 1) := by decide +kernel
theorem dL_isSound_48 : decode cL_isSound 48 = .ok (.iload 5, 2) := by decide +kernel
theorem dL_isSound_50 : decode cL_isSound 50 = .ok (.iconst 4, 1) := by decide +kernel
theorem dL_isSound_51 : decode cL_isSound 51 = .ok (.invokevirtual 89, 3) := by decide +kernel
theorem dL_isSound_54 : decode cL_isSound 54 = .ok (.iadd, 1) := by decide +kernel
theorem dL_isSound_55 : decode cL_isSound 55 = .ok (.iload 6, 2) := by decide +kernel
theorem dL_isSound_57 : decode cL_isSound 57 = .ok (.if_icmp .ne 81, 3) := by decide +kernel
theorem dL_isSound_60 : decode cL_isSound 60 = .ok (.aload_n 0, 1) := by decide +kernel
theorem dL_isSound_61 : decode cL_isSound 61 = .ok (.iload 5, 2) := by decide +kernel
theorem dL_isSound_63 : decode cL_isSound 63 = .ok (.iconst 3, 1) := by decide +kernel
theorem dL_isSound_64 : decode cL_isSound 64 = .ok (.invokevirtual 89, 3) := by decide +kernel
theorem dL_isSound_67 : decode cL_isSound 67 = .ok (.aload_n 0, 1) := by decide +kernel
theorem dL_isSound_68 : decode cL_isSound 68 = .ok (.iload 5, 2) := by decide +kernel
theorem dL_isSound_70 : decode cL_isSound 70 = .ok (.iconst 5, 1) := by decide +kernel
theorem dL_isSound_71 : decode cL_isSound 71 = .ok (.invokevirtual 89, 3) := by decide +kernel
theorem dL_isSound_74 : decode cL_isSound 74 = .ok (.iadd, 1) := by decide +kernel
theorem dL_isSound_75 : decode cL_isSound 75 = .ok (.aload_n 0, 1) := by decide +kernel
theorem dL_isSound_76 : decode cL_isSound 76 = .ok (.iload 5, 2) := by decide +kernel
theorem dL_isSound_78 : decode cL_isSound 78 = .ok (.iconst 2, 1) := by decide +kernel
theorem dL_isSound_79 : decode cL_isSound 79 = .ok (.invokevirtual 89, 3) := by decide +kernel
theorem dL_isSound_82 : decode cL_isSound 82 = .ok (.if_icmp .ne 56, 3) := by decide +kernel
theorem dL_isSound_85 : decode cL_isSound 85 = .ok (.iload 7, 2) := by decide +kernel
theorem dL_isSound_87 : decode cL_isSound 87 = .ok (.aload_n 0, 1) := by decide +kernel
theorem dL_isSound_88 : decode cL_isSound 88 = .ok (.iload 5, 2) := by decide +kernel
theorem dL_isSound_90 : decode cL_isSound 90 = .ok (.iconst 1, 1) := by decide +kernel
theorem dL_isSound_91 : decode cL_isSound 91 = .ok (.invokevirtual 92, 3) := by decide +kernel
theorem dL_isSound_94 : decode cL_isSound 94 = .ok (.iadd, 1) := by decide +kernel
theorem dL_isSound_95 : decode cL_isSound 95 = .ok (.aload_n 0, 1) := by decide +kernel
theorem dL_isSound_96 : decode cL_isSound 96 = .ok (.iload 5, 2) := by decide +kernel
theorem dL_isSound_98 : decode cL_isSound 98 = .ok (.iconst 2, 1) := by decide +kernel
theorem dL_isSound_99 : decode cL_isSound 99 = .ok (.invokevirtual 92, 3) := by decide +kernel
theorem dL_isSound_102 : decode cL_isSound 102 = .ok (.iadd, 1) := by decide +kernel
theorem dL_isSound_103 : decode cL_isSound 103 = .ok (.iload 6, 2) := by decide +kernel
theorem dL_isSound_105 : decode cL_isSound 105 = .ok (.if_icmp .ne 33, 3) := by decide +kernel
theorem dL_isSound_108 : decode cL_isSound 108 = .ok (.aload_n 0, 1) := by decide +kernel
theorem dL_isSound_109 : decode cL_isSound 109 = .ok (.iload 5, 2) := by decide +kernel
theorem dL_isSound_111 : decode cL_isSound 111 = .ok (.iconst 3, 1) := by decide +kernel
theorem dL_isSound_112 : decode cL_isSound 112 = .ok (.invokevirtual 92, 3) := by decide +kernel
theorem dL_isSound_115 : decode cL_isSound 115 = .ok (.iload 7, 2) := by decide +kernel
theorem dL_isSound_117 : decode cL_isSound 117 = .ok (.if_icmp .gt 21, 3) := by decide +kernel
theorem dL_isSound_120 : decode cL_isSound 120 = .ok (.aload_n 0, 1) := by decide +kernel
theorem dL_isSound_121 : decode cL_isSound 121 = .ok (.iload 5, 2) := by decide +kernel
theorem dL_isSound_123 : decode cL_isSound 123 = .ok (.iconst 4, 1) := by decide +kernel
theorem dL_isSound_124 : decode cL_isSound 124 = .ok (.invokevirtual 92, 3) := by decide +kernel
theorem dL_isSound_127 : decode cL_isSound 127 = .ok (.aload_n 0, 1) := by decide +kernel
theorem dL_isSound_128 : decode cL_isSound 128 = .ok (.iload 5, 2) := by decide +kernel
theorem dL_isSound_130 : decode cL_isSound 130 = .ok (.bipush 11, 2) := by decide +kernel
theorem dL_isSound_132 : decode cL_isSound 132 = .ok (.invokevirtual 89, 3) := by decide +kernel
theorem dL_isSound_135 : decode cL_isSound 135 = .ok (.if_icmp .ge 5, 3) := by decide +kernel
theorem dL_isSound_138 : decode cL_isSound 138 = .ok (.iconst 0, 1) := by decide +kernel
theorem dL_isSound_139 : decode cL_isSound 139 = .ok (.ireturn, 1) := by decide +kernel
theorem dL_isSound_140 : decode cL_isSound 140 = .ok (.iconst 0, 1) := by decide +kernel
theorem dL_isSound_141 : decode cL_isSound 141 = .ok (.istore 8, 2) := by decide +kernel
theorem dL_isSound_143 : decode cL_isSound 143 = .ok (.iconst 0, 1) := by decide +kernel
theorem dL_isSound_144 : decode cL_isSound 144 = .ok (.istore 9, 2) := by decide +kernel
theorem dL_isSound_146 : decode cL_isSound 146 = .ok (.iload 9, 2) := by decide +kernel
theorem dL_isSound_148 : decode cL_isSound 148 = .ok (.bipush 24, 2) := by decide +kernel
theorem dL_isSound_150 : decode cL_isSound 150 = .ok (.if_icmp .ge 67, 3) := by decide +kernel
theorem dL_isSound_153 : decode cL_isSound 153 = .ok (.aload_n 0, 1) := by decide +kernel
theorem dL_isSound_154 : decode cL_isSound 154 = .ok (.iload 5, 2) := by decide +kernel
theorem dL_isSound_156 : decode cL_isSound 156 = .ok (.iload 9, 2) := by decide +kernel
theorem dL_isSound_158 : decode cL_isSound 158 = .ok (.iconst 2, 1) := by decide +kernel
theorem dL_isSound_159 : decode cL_isSound 159 = .ok (.invokevirtual 95, 3) := by decide +kernel
theorem dL_isSound_162 : decode cL_isSound 162 = .ok (.istore 10, 2) := by decide +kernel
theorem dL_isSound_164 : decode cL_isSound 164 = .ok (.iload 10, 2) := by decide +kernel
theorem dL_isSound_166 : decode cL_isSound 166 = .ok (.aload_n 0, 1) := by decide +kernel
theorem dL_isSound_167 : decode cL_isSound 167 = .ok (.iload 5, 2) := by decide +kernel
theorem dL_isSound_169 : decode cL_isSound 169 = .ok (.iload 9, 2) := by decide +kernel
theorem dL_isSound_171 : decode cL_isSound 171 = .ok (.iconst 0, 1) := by decide +kernel
theorem dL_isSound_172 : decode cL_isSound 172 = .ok (.invokevirtual 95, 3) := by decide +kernel
theorem dL_isSound_175 : decode cL_isSound 175 = .ok (.iconst (-1), 1) := by decide +kernel
theorem dL_isSound_176 : decode cL_isSound 176 = .ok (.ixor, 1) := by decide +kernel
theorem dL_isSound_177 : decode cL_isSound 177 = .ok (.iand, 1) := by decide +kernel
theorem dL_isSound_178 : decode cL_isSound 178 = .ok (.ifCond .eq 5, 3) := by decide +kernel
theorem dL_isSound_181 : decode cL_isSound 181 = .ok (.iconst 0, 1) := by decide +kernel
theorem dL_isSound_182 : decode cL_isSound 182 = .ok (.ireturn, 1) := by decide +kernel
theorem dL_isSound_183 : decode cL_isSound 183 = .ok (.iconst 0, 1) := by decide +kernel
theorem dL_isSound_184 : decode cL_isSound 184 = .ok (.istore 11, 2) := by decide +kernel
theorem dL_isSound_186 : decode cL_isSound 186 = .ok (.iload 11, 2) := by decide +kernel
theorem dL_isSound_188 : decode cL_isSound 188 = .ok (.bipush 12, 2) := by decide +kernel
theorem dL_isSound_190 : decode cL_isSound 190 = .ok (.if_icmp .ge 21, 3) := by decide +kernel
theorem dL_isSound_193 : decode cL_isSound 193 = .ok (.iload 8, 2) := by decide +kernel
theorem dL_isSound_195 : decode cL_isSound 195 = .ok (.iload 10, 2) := by decide +kernel
theorem dL_isSound_197 : decode cL_isSound 197 = .ok (.iload 11, 2) := by decide +kernel
theorem dL_isSound_199 : decode cL_isSound 199 = .ok (.ishr, 1) := by decide +kernel
theorem dL_isSound_200 : decode cL_isSound 200 = .ok (.iconst 1, 1) := by decide +kernel
theorem dL_isSound_201 : decode cL_isSound 201 = .ok (.iand, 1) := by decide +kernel
theorem dL_isSound_202 : decode cL_isSound 202 = .ok (.iadd, 1) := by decide +kernel
theorem dL_isSound_203 : decode cL_isSound 203 = .ok (.istore 8, 2) := by decide +kernel
theorem dL_isSound_205 : decode cL_isSound 205 = .ok (.iinc 11 1, 3) := by decide +kernel
theorem dL_isSound_208 : decode cL_isSound 208 = .ok (.goto (-22), 3) := by decide +kernel
theorem dL_isSound_211 : decode cL_isSound 211 = .ok (.iinc 9 1, 3) := by decide +kernel
theorem dL_isSound_214 : decode cL_isSound 214 = .ok (.goto (-68), 3) := by decide +kernel
theorem dL_isSound_217 : decode cL_isSound 217 = .ok (.iload 8, 2) := by decide +kernel
theorem dL_isSound_219 : decode cL_isSound 219 = .ok (.iload 7, 2) := by decide +kernel
theorem dL_isSound_221 : decode cL_isSound 221 = .ok (.if_icmp .ne 20, 3) := by decide +kernel
theorem dL_isSound_224 : decode cL_isSound 224 = .ok (.aload_n 0, 1) := by decide +kernel
theorem dL_isSound_225 : decode cL_isSound 225 = .ok (.iload 5, 2) := by decide +kernel
theorem dL_isSound_227 : decode cL_isSound 227 = .ok (.iconst 1, 1) := by decide +kernel
theorem dL_isSound_228 : decode cL_isSound 228 = .ok (.invokevirtual 98, 3) := by decide +kernel
theorem dL_isSound_231 : decode cL_isSound 231 = .ok (.aload_n 0, 1) := by decide +kernel
theorem dL_isSound_232 : decode cL_isSound 232 = .ok (.iload 5, 2) := by decide +kernel
theorem dL_isSound_234 : decode cL_isSound 234 = .ok (.iconst 3, 1) := by decide +kernel
theorem dL_isSound_235 : decode cL_isSound 235 = .ok (.invokevirtual 89, 3) := by decide +kernel
theorem dL_isSound_238 : decode cL_isSound 238 = .ok (.if_icmp .ge 5, 3) := by decide +kernel
theorem dL_isSound_241 : decode cL_isSound 241 = .ok (.iconst 0, 1) := by decide +kernel
theorem dL_isSound_242 : decode cL_isSound 242 = .ok (.ireturn, 1) := by decide +kernel
theorem dL_isSound_243 : decode cL_isSound 243 = .ok (.iload_n 1, 1) := by decide +kernel
theorem dL_isSound_244 : decode cL_isSound 244 = .ok (.aload_n 0, 1) := by decide +kernel
theorem dL_isSound_245 : decode cL_isSound 245 = .ok (.iload 5, 2) := by decide +kernel
theorem dL_isSound_247 : decode cL_isSound 247 = .ok (.iconst 0, 1) := by decide +kernel
theorem dL_isSound_248 : decode cL_isSound 248 = .ok (.invokevirtual 89, 3) := by decide +kernel
theorem dL_isSound_251 : decode cL_isSound 251 = .ok (.iload 6, 2) := by decide +kernel
theorem dL_isSound_253 : decode cL_isSound 253 = .ok (.iadd, 1) := by decide +kernel
theorem dL_isSound_254 : decode cL_isSound 254 = .ok (.iadd, 1) := by decide +kernel
theorem dL_isSound_255 : decode cL_isSound 255 = .ok (.istore_n 1, 1) := by decide +kernel
theorem dL_isSound_256 : decode cL_isSound 256 = .ok (.iload_n 2, 1) := by decide +kernel
theorem dL_isSound_257 : decode cL_isSound 257 = .ok (.aload_n 0, 1) := by decide +kernel
theorem dL_isSound_258 : decode cL_isSound 258 = .ok (.iload 5, 2) := by decide +kernel
theorem dL_isSound_260 : decode cL_isSound 260 = .ok (.iconst 3, 1) := by decide +kernel
theorem dL_isSound_261 : decode cL_isSound 261 = .ok (.invokevirtual 89, 3) := by decide +kernel
theorem dL_isSound_264 : decode cL_isSound 264 = .ok (.iadd, 1) := by decide +kernel
theorem dL_isSound_265 : decode cL_isSound 265 = .ok (.istore_n 2, 1) := by decide +kernel
theorem dL_isSound_266 : decode cL_isSound 266 = .ok (.iload_n 3, 1) := by decide +kernel
theorem dL_isSound_267 : decode cL_isSound 267 = .ok (.aload_n 0, 1) := by decide +kernel
theorem dL_isSound_268 : decode cL_isSound 268 = .ok (.iload 5, 2) := by decide +kernel
theorem dL_isSound_270 : decode cL_isSound 270 = .ok (.bipush 6, 2) := by decide +kernel
theorem dL_isSound_272 : decode cL_isSound 272 = .ok (.invokevirtual 89, 3) := by decide +kernel
theorem dL_isSound_275 : decode cL_isSound 275 = .ok (.iadd, 1) := by decide +kernel
theorem dL_isSound_276 : decode cL_isSound 276 = .ok (.istore_n 3, 1) := by decide +kernel
theorem dL_isSound_277 : decode cL_isSound 277 = .ok (.iload 4, 2) := by decide +kernel
theorem dL_isSound_279 : decode cL_isSound 279 = .ok (.aload_n 0, 1) := by decide +kernel
theorem dL_isSound_280 : decode cL_isSound 280 = .ok (.iload 5, 2) := by decide +kernel
theorem dL_isSound_282 : decode cL_isSound 282 = .ok (.bipush 7, 2) := by decide +kernel
theorem dL_isSound_284 : decode cL_isSound 284 = .ok (.invokevirtual 89, 3) := by decide +kernel
theorem dL_isSound_287 : decode cL_isSound 287 = .ok (.iadd, 1) := by decide +kernel
theorem dL_isSound_288 : decode cL_isSound 288 = .ok (.istore 4, 2) := by decide +kernel
theorem dL_isSound_290 : decode cL_isSound 290 = .ok (.iinc 5 1, 3) := by decide +kernel
theorem dL_isSound_293 : decode cL_isSound 293 = .ok (.goto (-281), 3) := by decide +kernel
theorem dL_isSound_296 : decode cL_isSound 296 = .ok (.aload_n 0, 1) := by decide +kernel
theorem dL_isSound_297 : decode cL_isSound 297 = .ok (.iconst 1, 1) := by decide +kernel
theorem dL_isSound_298 : decode cL_isSound 298 = .ok (.invokevirtual 53, 3) := by decide +kernel
theorem dL_isSound_301 : decode cL_isSound 301 = .ok (.iload_n 1, 1) := by decide +kernel
theorem dL_isSound_302 : decode cL_isSound 302 = .ok (.if_icmp .ne 41, 3) := by decide +kernel
theorem dL_isSound_305 : decode cL_isSound 305 = .ok (.aload_n 0, 1) := by decide +kernel
theorem dL_isSound_306 : decode cL_isSound 306 = .ok (.bipush 9, 2) := by decide +kernel
theorem dL_isSound_308 : decode cL_isSound 308 = .ok (.invokevirtual 53, 3) := by decide +kernel
theorem dL_isSound_311 : decode cL_isSound 311 = .ok (.iload_n 2, 1) := by decide +kernel
theorem dL_isSound_312 : decode cL_isSound 312 = .ok (.if_icmp .ne 31, 3) := by decide +kernel
theorem dL_isSound_315 : decode cL_isSound 315 = .ok (.iload_n 3, 1) := by decide +kernel
theorem dL_isSound_316 : decode cL_isSound 316 = .ok (.iload 4, 2) := by decide +kernel
theorem dL_isSound_318 : decode cL_isSound 318 = .ok (.if_icmp .ne 25, 3) := by decide +kernel
theorem dL_isSound_321 : decode cL_isSound 321 = .ok (.iload_n 3, 1) := by decide +kernel
theorem dL_isSound_322 : decode cL_isSound 322 = .ok (.aload_n 0, 1) := by decide +kernel
theorem dL_isSound_323 : decode cL_isSound 323 = .ok (.iconst 3, 1) := by decide +kernel
theorem dL_isSound_324 : decode cL_isSound 324 = .ok (.invokevirtual 53, 3) := by decide +kernel
theorem dL_isSound_327 : decode cL_isSound 327 = .ok (.if_icmp .ne 16, 3) := by decide +kernel
theorem dL_isSound_330 : decode cL_isSound 330 = .ok (.aload_n 0, 1) := by decide +kernel
theorem dL_isSound_331 : decode cL_isSound 331 = .ok (.iconst 0, 1) := by decide +kernel
theorem dL_isSound_332 : decode cL_isSound 332 = .ok (.invokevirtual 101, 3) := by decide +kernel
theorem dL_isSound_335 : decode cL_isSound 335 = .ok (.iload_n 2, 1) := by decide +kernel
theorem dL_isSound_336 : decode cL_isSound 336 = .ok (.if_icmp .lt 7, 3) := by decide +kernel
theorem dL_isSound_339 : decode cL_isSound 339 = .ok (.iconst 1, 1) := by decide +kernel
theorem dL_isSound_340 : decode cL_isSound 340 = .ok (.goto 4, 3) := by decide +kernel
theorem dL_isSound_343 : decode cL_isSound 343 = .ok (.iconst 0, 1) := by decide +kernel
theorem dL_isSound_344 : decode cL_isSound 344 = .ok (.ireturn, 1) := by decide +kernel
theorem dL_isPlayed_0 : decode cL_isPlayed 0 = .ok (.aload_n 0, 1) := by decide +kernel
theorem dL_isPlayed_1 : decode cL_isPlayed 1 = .ok (.iload_n 1, 1) := by decide +kernel
theorem dL_isPlayed_2 : decode cL_isPlayed 2 = .ok (.invokevirtual 104, 3) := by decide +kernel
theorem dL_isPlayed_5 : decode cL_isPlayed 5 = .ok (.istore_n 2, 1) := by decide +kernel
theorem dL_isPlayed_6 : decode cL_isPlayed 6 = .ok (.aload_n 0, 1) := by decide +kernel
theorem dL_isPlayed_7 : decode cL_isPlayed 7 = .ok (.iload_n 1, 1) := by decide +kernel
theorem dL_isPlayed_8 : decode cL_isPlayed 8 = .ok (.iconst 3, 1) := by decide +kernel
theorem dL_isPlayed_9 : decode cL_isPlayed 9 = .ok (.invokevirtual 89, 3) := by decide +kernel
theorem dL_isPlayed_12 : decode cL_isPlayed 12 = .ok (.istore_n 3, 1) := by decide +kernel
theorem dL_isPlayed_13 : decode cL_isPlayed 13 = .ok (.iload_n 2, 1) := by decide +kernel
theorem dL_isPlayed_14 : decode cL_isPlayed 14 = .ok (.ifCond .lt 8, 3) := by decide +kernel
theorem dL_isPlayed_17 : decode cL_isPlayed 17 = .ok (.iload_n 2, 1) := by decide +kernel
theorem dL_isPlayed_18 : decode cL_isPlayed 18 = .ok (.iconst 5, 1) := by decide +kernel
theorem dL_isPlayed_19 : decode cL_isPlayed 19 = .ok (.if_icmp .le 7, 3) := by decide +kernel
theorem dL_isPlayed_22 : decode cL_isPlayed 22 = .ok (.iconst 2, 1) := by decide +kernel
theorem dL_isPlayed_23 : decode cL_isPlayed 23 = .ok (.goto 4, 3) := by decide +kernel
theorem dL_isPlayed_26 : decode cL_isPlayed 26 = .ok (.iload_n 2, 1) := by decide +kernel
theorem dL_isPlayed_27 : decode cL_isPlayed 27 = .ok (.istore 4, 2) := by decide +kernel
theorem dL_isPlayed_29 : decode cL_isPlayed 29 = .ok (.iconst 1, 1) := by decide +kernel
theorem dL_isPlayed_30 : decode cL_isPlayed 30 = .ok (.istore 5, 2) := by decide +kernel
theorem dL_isPlayed_32 : decode cL_isPlayed 32 = .ok (.iload 5, 2) := by decide +kernel
theorem dL_isPlayed_34 : decode cL_isPlayed 34 = .ok (.iload 4, 2) := by decide +kernel
theorem dL_isPlayed_36 : decode cL_isPlayed 36 = .ok (.if_icmp .gt 108, 3) := by decide +kernel
theorem dL_isPlayed_39 : decode cL_isPlayed 39 = .ok (.aload_n 0, 1) := by decide +kernel
theorem dL_isPlayed_40 : decode cL_isPlayed 40 = .ok (.iload_n 1, 1) := by decide +kernel
theorem dL_isPlayed_41 : decode cL_isPlayed 41 = .ok (.iconst 0, 1) := by decide +kernel
theorem dL_isPlayed_42 : decode cL_isPlayed 42 = .ok (.invokevirtual 89, 3) := by decide +kernel
theorem dL_isPlayed_45 : decode cL_isPlayed 45 = .ok (.istore 6, 2) := by decide +kernel
theorem dL_isPlayed_47 : decode cL_isPlayed 47 = .ok (.aload_n 0, 1) := by decide +kernel
theorem dL_isPlayed_48 : decode cL_isPlayed 48 = .ok (.iload_n 1, 1) := by decide +kernel
theorem dL_isPlayed_49 : decode cL_isPlayed 49 = .ok (.iconst 2, 1) := by decide +kernel
theorem dL_isPlayed_50 : decode cL_isPlayed 50 = .ok (.invokevirtual 92, 3) := by decide +kernel
theorem dL_isPlayed_53 : decode cL_isPlayed 53 = .ok (.istore 7, 2) := by decide +kernel
theorem dL_isPlayed_55 : decode cL_isPlayed 55 = .ok (.aload_n 0, 1) := by decide +kernel
theorem dL_isPlayed_56 : decode cL_isPlayed 56 = .ok (.iload_n 1, 1) := by decide +kernel
theorem dL_isPlayed_57 : decode cL_isPlayed 57 = .ok (.iconst 4, 1) := by decide +kernel
theorem dL_isPlayed_58 : decode cL_isPlayed 58 = .ok (.invokevirtual 92, 3) := by decide +kernel
theorem dL_isPlayed_61 : decode cL_isPlayed 61 = .ok (.istore 8, 2) := by decide +kernel
theorem dL_isPlayed_63 : decode cL_isPlayed 63 = .ok (.aload_n 0, 1) := by decide +kernel
theorem dL_isPlayed_64 : decode cL_isPlayed 64 = .ok (.iload_n 1, 1) := by decide +kernel
theorem dL_isPlayed_65 : decode cL_isPlayed 65 = .ok (.iconst 0, 1) := by decide +kernel
theorem dL_isPlayed_66 : decode cL_isPlayed 66 = .ok (.invokevirtual 92, 3) := by decide +kernel
theorem dL_isPlayed_69 : decode cL_isPlayed 69 = .ok (.istore 9, 2) := by decide +kernel
theorem dL_isPlayed_71 : decode cL_isPlayed 71 = .ok (.aload_n 0, 1) := by decide +kernel
theorem dL_isPlayed_72 : decode cL_isPlayed 72 = .ok (.iload_n 1, 1) := by decide +kernel
theorem dL_isPlayed_73 : decode cL_isPlayed 73 = .ok (.invokevirtual 74, 3) := by decide +kernel
theorem dL_isPlayed_76 : decode cL_isPlayed 76 = .ok (.iload 9, 2) := by decide +kernel
theorem dL_isPlayed_78 : decode cL_isPlayed 78 = .ok (.if_icmp .ne 58, 3) := by decide +kernel
theorem dL_isPlayed_81 : decode cL_isPlayed 81 = .ok (.aload_n 0, 1) := by decide +kernel
theorem dL_isPlayed_82 : decode cL_isPlayed 82 = .ok (.iload_n 1, 1) := by decide +kernel
theorem dL_isPlayed_83 : decode cL_isPlayed 83 = .ok (.iconst 0, 1) := by decide +kernel
theorem dL_isPlayed_84 : decode cL_isPlayed 84 = .ok (.invokevirtual 89, 3) := by decide +kernel
theorem dL_isPlayed_87 : decode cL_isPlayed 87 = .ok (.iload 6, 2) := by decide +kernel
theorem dL_isPlayed_89 : decode cL_isPlayed 89 = .ok (.iload 7, 2) := by decide +kernel
theorem dL_isPlayed_91 : decode cL_isPlayed 91 = .ok (.iadd, 1) := by decide +kernel
theorem dL_isPlayed_92 : decode cL_isPlayed 92 = .ok (.if_icmp .ne 44, 3) := by decide +kernel
theorem dL_isPlayed_95 : decode cL_isPlayed 95 = .ok (.aload_n 0, 1) := by decide +kernel
theorem dL_isPlayed_96 : decode cL_isPlayed 96 = .ok (.iload_n 1, 1) := by decide +kernel
theorem dL_isPlayed_97 : decode cL_isPlayed 97 = .ok (.bipush 11, 2) := by decide +kernel
theorem dL_isPlayed_99 : decode cL_isPlayed 99 = .ok (.invokevirtual 89, 3) := by decide +kernel
theorem dL_isPlayed_102 : decode cL_isPlayed 102 = .ok (.iload 8, 2) := by decide +kernel
theorem dL_isPlayed_104 : decode cL_isPlayed 104 = .ok (.if_icmp .ne 32, 3) := by decide +kernel
theorem dL_isPlayed_107 : decode cL_isPlayed 107 = .ok (.aload_n 0, 1) := by decide +kernel
theorem dL_isPlayed_108 : decode cL_isPlayed 108 = .ok (.iload_n 1, 1) := by decide +kernel
theorem dL_isPlayed_109 : decode cL_isPlayed 109 = .ok (.iconst 3, 1) := by decide +kernel
theorem dL_isPlayed_110 : decode cL_isPlayed 110 = .ok (.invokevirtual 89, 3) := by decide +kernel
theorem dL_isPlayed_113 : decode cL_isPlayed 113 = .ok (.iload_n 3, 1) := by decide +kernel
theorem dL_isPlayed_114 : decode cL_isPlayed 114 = .ok (.if_icmp .ge 7, 3) := by decide +kernel
theorem dL_isPlayed_117 : decode cL_isPlayed 117 = .ok (.iconst 1, 1) := by decide +kernel
theorem dL_isPlayed_118 : decode cL_isPlayed 118 = .ok (.goto 4, 3) := by decide +kernel
theorem dL_isPlayed_121 : decode cL_isPlayed 121 = .ok (.iconst 0, 1) := by decide +kernel
theorem dL_isPlayed_122 : decode cL_isPlayed 122 = .ok (.iload 5, 2) := by decide +kernel
theorem dL_isPlayed_124 : decode cL_isPlayed 124 = .ok (.iload_n 2, 1) := by decide +kernel
theorem dL_isPlayed_125 : decode cL_isPlayed 125 = .ok (.if_icmp .ne 7, 3) := by decide +kernel
theorem dL_isPlayed_128 : decode cL_isPlayed 128 = .ok (.iconst 1, 1) := by decide +kernel
theorem dL_isPlayed_129 : decode cL_isPlayed 129 = .ok (.goto 4, 3) := by decide +kernel
theorem dL_isPlayed_132 : decode cL_isPlayed 132 = .ok (.iconst 0, 1) := by decide +kernel
theorem dL_isPlayed_133 : decode cL_isPlayed 133 = .ok (.if_icmp .eq 5, 3) := by decide +kernel
theorem dL_isPlayed_136 : decode cL_isPlayed 136 = .ok (.iconst 0, 1) := by decide +kernel
theorem dL_isPlayed_137 : decode cL_isPlayed 137 = .ok (.ireturn, 1) := by decide +kernel
theorem dL_isPlayed_138 : decode cL_isPlayed 138 = .ok (.iinc 5 1, 3) := by decide +kernel
theorem dL_isPlayed_141 : decode cL_isPlayed 141 = .ok (.goto (-109), 3) := by decide +kernel
theorem dL_isPlayed_144 : decode cL_isPlayed 144 = .ok (.iconst 0, 1) := by decide +kernel
theorem dL_isPlayed_145 : decode cL_isPlayed 145 = .ok (.istore 5, 2) := by decide +kernel
theorem dL_isPlayed_147 : decode cL_isPlayed 147 = .ok (.iload 5, 2) := by decide +kernel
theorem dL_isPlayed_149 : decode cL_isPlayed 149 = .ok (.iload 4, 2) := by decide +kernel
theorem dL_isPlayed_151 : decode cL_isPlayed 151 = .ok (.if_icmp .ge 14, 3) := by decide +kernel
theorem dL_isPlayed_154 : decode cL_isPlayed 154 = .ok (.aload_n 0, 1) := by decide +kernel
theorem dL_isPlayed_155 : decode cL_isPlayed 155 = .ok (.invokevirtual 107, 3) := by decide +kernel
theorem dL_isPlayed_158 : decode cL_isPlayed 158 = .ok (.pop, 1) := by decide +kernel
theorem dL_isPlayed_159 : decode cL_isPlayed 159 = .ok (.iinc 5 1, 3) := by decide +kernel
theorem dL_isPlayed_162 : decode cL_isPlayed 162 = .ok (.goto (-15), 3) := by decide +kernel
theorem dL_isPlayed_165 : decode cL_isPlayed 165 = .ok (.iconst 1, 1) := by decide +kernel
theorem dL_isPlayed_166 : decode cL_isPlayed 166 = .ok (.ireturn, 1) := by decide +kernel
theorem dL_isSettled_0 : decode cL_isSettled 0 = .ok (.aload_n 0, 1) := by decide +kernel
theorem dL_isSettled_1 : decode cL_isSettled 1 = .ok (.iload_n 1, 1) := by decide +kernel
theorem dL_isSettled_2 : decode cL_isSettled 2 = .ok (.bipush 7, 2) := by decide +kernel
theorem dL_isSettled_4 : decode cL_isSettled 4 = .ok (.invokevirtual 89, 3) := by decide +kernel
theorem dL_isSettled_7 : decode cL_isSettled 7 = .ok (.aload_n 0, 1) := by decide +kernel
theorem dL_isSettled_8 : decode cL_isSettled 8 = .ok (.iload_n 1, 1) := by decide +kernel
theorem dL_isSettled_9 : decode cL_isSettled 9 = .ok (.bipush 6, 2) := by decide +kernel
theorem dL_isSettled_11 : decode cL_isSettled 11 = .ok (.invokevirtual 89, 3) := by decide +kernel
theorem dL_isSettled_14 : decode cL_isSettled 14 = .ok (.isub, 1) := by decide +kernel
theorem dL_isSettled_15 : decode cL_isSettled 15 = .ok (.istore_n 2, 1) := by decide +kernel
theorem dL_isSettled_16 : decode cL_isSettled 16 = .ok (.aload_n 0, 1) := by decide +kernel
theorem dL_isSettled_17 : decode cL_isSettled 17 = .ok (.iconst 3, 1) := by decide +kernel
theorem dL_isSettled_18 : decode cL_isSettled 18 = .ok (.invokevirtual 53, 3) := by decide +kernel
theorem dL_isSettled_21 : decode cL_isSettled 21 = .ok (.istore_n 3, 1) := by decide +kernel
theorem dL_isSettled_22 : decode cL_isSettled 22 = .ok (.aload_n 0, 1) := by decide +kernel
theorem dL_isSettled_23 : decode cL_isSettled 23 = .ok (.bipush 8, 2) := by decide +kernel
theorem dL_isSettled_25 : decode cL_isSettled 25 = .ok (.invokevirtual 53, 3) := by decide +kernel
theorem dL_isSettled_28 : decode cL_isSettled 28 = .ok (.istore 4, 2) := by decide +kernel
theorem dL_isSettled_30 : decode cL_isSettled 30 = .ok (.aload_n 0, 1) := by decide +kernel
theorem dL_isSettled_31 : decode cL_isSettled 31 = .ok (.bipush 7, 2) := by decide +kernel
theorem dL_isSettled_33 : decode cL_isSettled 33 = .ok (.invokevirtual 53, 3) := by decide +kernel
theorem dL_isSettled_36 : decode cL_isSettled 36 = .ok (.istore 5, 2) := by decide +kernel
theorem dL_isSettled_38 : decode cL_isSettled 38 = .ok (.aload_n 0, 1) := by decide +kernel
theorem dL_isSettled_39 : decode cL_isSettled 39 = .ok (.iconst 0, 1) := by decide +kernel
theorem dL_isSettled_40 : decode cL_isSettled 40 = .ok (.invokevirtual 110, 3) := by decide +kernel
theorem dL_isSettled_43 : decode cL_isSettled 43 = .ok (.ifCond .le 7, 3) := by decide +kernel
theorem dL_isSettled_46 : decode cL_isSettled 46 = .ok (.iconst 1, 1) := by decide +kernel
theorem dL_isSettled_47 : decode cL_isSettled 47 = .ok (.goto 4, 3) := by decide +kernel
theorem dL_isSettled_50 : decode cL_isSettled 50 = .ok (.iconst 0, 1) := by decide +kernel
theorem dL_isSettled_51 : decode cL_isSettled 51 = .ok (.istore 6, 2) := by decide +kernel
theorem dL_isSettled_53 : decode cL_isSettled 53 = .ok (.aload_n 0, 1) := by decide +kernel
theorem dL_isSettled_54 : decode cL_isSettled 54 = .ok (.invokevirtual 85, 3) := by decide +kernel
theorem dL_isSettled_57 : decode cL_isSettled 57 = .ok (.istore 7, 2) := by decide +kernel
theorem dL_isSettled_59 : decode cL_isSettled 59 = .ok (.iload 7, 2) := by decide +kernel
theorem dL_isSettled_61 : decode cL_isSettled 61 = .ok (.ifCond .le 7, 3) := by decide +kernel
theorem dL_isSettled_64 : decode cL_isSettled 64 = .ok (.iconst 1, 1) := by decide +kernel
theorem dL_isSettled_65 : decode cL_isSettled 65 = .ok (.goto 4, 3) := by decide +kernel
theorem dL_isSettled_68 : decode cL_isSettled 68 = .ok (.iconst 0, 1) := by decide +kernel
theorem dL_isSettled_69 : decode cL_isSettled 69 = .ok (.iload 6, 2) := by decide +kernel
theorem dL_isSettled_71 : decode cL_isSettled 71 = .ok (.if_icmp .ne 78, 3) := by decide +kernel
theorem dL_isSettled_74 : decode cL_isSettled 74 = .ok (.aload_n 0, 1) := by decide +kernel
theorem dL_isSettled_75 : decode cL_isSettled 75 = .ok (.iconst 0, 1) := by decide +kernel
theorem dL_isSettled_76 : decode cL_isSettled 76 = .ok (.invokevirtual 110, 3) := by decide +kernel
theorem dL_isSettled_79 : decode cL_isSettled 79 = .ok (.iconst (-1), 1) := by decide +kernel
theorem dL_isSettled_80 : decode cL_isSettled 80 = .ok (.if_icmp .ne 69, 3) := by decide +kernel
theorem dL_isSettled_83 : decode cL_isSettled 83 = .ok (.aload_n 0, 1) := by decide +kernel
theorem dL_isSettled_84 : decode cL_isSettled 84 = .ok (.bipush 10, 2) := by decide +kernel
theorem dL_isSettled_86 : decode cL_isSettled 86 = .ok (.invokevirtual 110, 3) := by decide +kernel
theorem dL_isSettled_89 : decode cL_isSettled 89 = .ok (.iconst (-1), 1) := by decide +kernel
theorem dL_isSettled_90 : decode cL_isSettled 90 = .ok (.if_icmp .ne 59, 3) := by decide +kernel
theorem dL_isSettled_93 : decode cL_isSettled 93 = .ok (.aload_n 0, 1) := by decide +kernel
theorem dL_isSettled_94 : decode cL_isSettled 94 = .ok (.iload_n 1, 1) := by decide +kernel
theorem dL_isSettled_95 : decode cL_isSettled 95 = .ok (.bipush 7, 2) := by decide +kernel
theorem dL_isSettled_97 : decode cL_isSettled 97 = .ok (.invokevirtual 89, 3) := by decide +kernel
theorem dL_isSettled_100 : decode cL_isSettled 100 = .ok (.aload_n 0, 1) := by decide +kernel
theorem dL_isSettled_101 : decode cL_isSettled 101 = .ok (.iload_n 1, 1) := by decide +kernel
theorem dL_isSettled_102 : decode cL_isSettled 102 = .ok (.bipush 6, 2) := by decide +kernel
theorem dL_isSettled_104 : decode cL_isSettled 104 = .ok (.invokevirtual 89, 3) := by decide +kernel
theorem dL_isSettled_107 : decode cL_isSettled 107 = .ok (.isub, 1) := by decide +kernel
theorem dL_isSettled_108 : decode cL_isSettled 108 = .ok (.iload_n 2, 1) := by decide +kernel
theorem dL_isSettled_109 : decode cL_isSettled 109 = .ok (.if_icmp .ne 40, 3) := by decide +kernel
theorem dL_isSettled_112 : decode cL_isSettled 112 = .ok (.aload_n 0, 1) := by decide +kernel
theorem dL_isSettled_113 : decode cL_isSettled 113 = .ok (.bipush 7, 2) := by decide +kernel
theorem dL_isSettled_115 : decode cL_isSettled 115 = .ok (.invokevirtual 53, 3) := by decide +kernel
theorem dL_isSettled_118 : decode cL_isSettled 118 = .ok (.iload 5, 2) := by decide +kernel
theorem dL_isSettled_120 : decode cL_isSettled 120 = .ok (.iload 7, 2) := by decide +kernel
theorem dL_isSettled_122 : decode cL_isSettled 122 = .ok (.iadd, 1) := by decide +kernel
theorem dL_isSettled_123 : decode cL_isSettled 123 = .ok (.if_icmp .ne 26, 3) := by decide +kernel
theorem dL_isSettled_126 : decode cL_isSettled 126 = .ok (.aload_n 0, 1) := by decide +kernel
theorem dL_isSettled_127 : decode cL_isSettled 127 = .ok (.bipush 8, 2) := by decide +kernel
theorem dL_isSettled_129 : decode cL_isSettled 129 = .ok (.invokevirtual 53, 3) := by decide +kernel
theorem dL_isSettled_132 : decode cL_isSettled 132 = .ok (.iload 4, 2) := by decide +kernel
theorem dL_isSettled_134 : decode cL_isSettled 134 = .ok (.isub, 1) := by decide +kernel
theorem dL_isSettled_135 : decode cL_isSettled 135 = .ok (.iload_n 3, 1) := by decide +kernel
theorem dL_isSettled_136 : decode cL_isSettled 136 = .ok (.aload_n 0, 1) := by decide +kernel
theorem dL_isSettled_137 : decode cL_isSettled 137 = .ok (.iconst 3, 1) := by decide +kernel
theorem dL_isSettled_138 : decode cL_isSettled 138 = .ok (.invokevirtual 53, 3) := by decide +kernel
theorem dL_isSettled_141 : decode cL_isSettled 141 = .ok (.isub, 1) := by decide +kernel
theorem dL_isSettled_142 : decode cL_isSettled 142 = .ok (.if_icmp .ne 7, 3) := by decide +kernel
theorem dL_isSettled_145 : decode cL_isSettled 145 = .ok (.iconst 1, 1) := by decide +kernel
theorem dL_isSettled_146 : decode cL_isSettled 146 = .ok (.goto 4, 3) := by decide +kernel
theorem dL_isSettled_149 : decode cL_isSettled 149 = .ok (.iconst 0, 1) := by decide +kernel
theorem dL_isSettled_150 : decode cL_isSettled 150 = .ok (.istore 8, 2) := by decide +kernel
theorem dL_isSettled_152 : decode cL_isSettled 152 = .ok (.aload_n 0, 1) := by decide +kernel
theorem dL_isSettled_153 : decode cL_isSettled 153 = .ok (.invokevirtual 107, 3) := by decide +kernel
theorem dL_isSettled_156 : decode cL_isSettled 156 = .ok (.pop, 1) := by decide +kernel
theorem dL_isSettled_157 : decode cL_isSettled 157 = .ok (.iload 8, 2) := by decide +kernel
theorem dL_isSettled_159 : decode cL_isSettled 159 = .ok (.ifCond .eq 16, 3) := by decide +kernel
theorem dL_isSettled_162 : decode cL_isSettled 162 = .ok (.aload_n 0, 1) := by decide +kernel
theorem dL_isSettled_163 : decode cL_isSettled 163 = .ok (.iconst 3, 1) := by decide +kernel
theorem dL_isSettled_164 : decode cL_isSettled 164 = .ok (.invokevirtual 53, 3) := by decide +kernel
theorem dL_isSettled_167 : decode cL_isSettled 167 = .ok (.iload_n 3, 1) := by decide +kernel
theorem dL_isSettled_168 : decode cL_isSettled 168 = .ok (.if_icmp .ne 7, 3) := by decide +kernel
theorem dL_isSettled_171 : decode cL_isSettled 171 = .ok (.iconst 1, 1) := by decide +kernel
theorem dL_isSettled_172 : decode cL_isSettled 172 = .ok (.goto 4, 3) := by decide +kernel
theorem dL_isSettled_175 : decode cL_isSettled 175 = .ok (.iconst 0, 1) := by decide +kernel
theorem dL_isSettled_176 : decode cL_isSettled 176 = .ok (.ireturn, 1) := by decide +kernel
theorem dL_isBest_0 : decode cL_isBest 0 = .ok (.aload_n 0, 1) := by decide +kernel
theorem dL_isBest_1 : decode cL_isBest 1 = .ok (.bipush 10, 2) := by decide +kernel
theorem dL_isBest_3 : decode cL_isBest 3 = .ok (.invokevirtual 53, 3) := by decide +kernel
theorem dL_isBest_6 : decode cL_isBest 6 = .ok (.bipush 6, 2) := by decide +kernel
theorem dL_isBest_8 : decode cL_isBest 8 = .ok (.if_icmp .ne 8, 3) := by decide +kernel
theorem dL_isBest_11 : decode cL_isBest 11 = .ok (.aload_n 0, 1) := by decide +kernel
theorem dL_isBest_12 : decode cL_isBest 12 = .ok (.invokevirtual 107, 3) := by decide +kernel
theorem dL_isBest_15 : decode cL_isBest 15 = .ok (.pop, 1) := by decide +kernel
theorem dL_isBest_16 : decode cL_isBest 16 = .ok (.aload_n 0, 1) := by decide +kernel
theorem dL_isBest_17 : decode cL_isBest 17 = .ok (.invokevirtual 113, 3) := by decide +kernel
theorem dL_isBest_20 : decode cL_isBest 20 = .ok (.lstore_n 3, 1) := by decide +kernel
theorem dL_isBest_21 : decode cL_isBest 21 = .ok (.aload_n 0, 1) := by decide +kernel
theorem dL_isBest_22 : decode cL_isBest 22 = .ok (.iload_n 1, 1) := by decide +kernel
theorem dL_isBest_23 : decode cL_isBest 23 = .ok (.iconst 1, 1) := by decide +kernel
theorem dL_isBest_24 : decode cL_isBest 24 = .ok (.invokevirtual 98, 3) := by decide +kernel
theorem dL_isBest_27 : decode cL_isBest 27 = .ok (.istore 5, 2) := by decide +kernel
theorem dL_isBest_29 : decode cL_isBest 29 = .ok (.aload_n 0, 1) := by decide +kernel
theorem dL_isBest_30 : decode cL_isBest 30 = .ok (.iload_n 1, 1) := by decide +kernel
theorem dL_isBest_31 : decode cL_isBest 31 = .ok (.iconst 0, 1) := by decide +kernel
theorem dL_isBest_32 : decode cL_isBest 32 = .ok (.invokevirtual 98, 3) := by decide +kernel
theorem dL_isBest_35 : decode cL_isBest 35 = .ok (.istore 6, 2) := by decide +kernel
theorem dL_isBest_37 : decode cL_isBest 37 = .ok (.iload_n 2, 1) := by decide +kernel
theorem dL_isBest_38 : decode cL_isBest 38 = .ok (.bipush 24, 2) := by decide +kernel
theorem dL_isBest_40 : decode cL_isBest 40 = .ok (.invokestatic 56, 3) := by decide +kernel
theorem dL_isBest_43 : decode cL_isBest 43 = .ok (.istore 7, 2) := by decide +kernel
theorem dL_isBest_45 : decode cL_isBest 45 = .ok (.aload_n 0, 1) := by decide +kernel
theorem dL_isBest_46 : decode cL_isBest 46 = .ok (.iload_n 1, 1) := by decide +kernel
theorem dL_isBest_47 : decode cL_isBest 47 = .ok (.iload 7, 2) := by decide +kernel
theorem dL_isBest_49 : decode cL_isBest 49 = .ok (.invokevirtual 41, 3) := by decide +kernel
theorem dL_isBest_52 : decode cL_isBest 52 = .ok (.istore 8, 2) := by decide +kernel
theorem dL_isBest_54 : decode cL_isBest 54 = .ok (.aload_n 0, 1) := by decide +kernel
theorem dL_isBest_55 : decode cL_isBest 55 = .ok (.invokevirtual 107, 3) := by decide +kernel
theorem dL_isBest_58 : decode cL_isBest 58 = .ok (.pop, 1) := by decide +kernel
theorem dL_isBest_59 : decode cL_isBest 59 = .ok (.iload 8, 2) := by decide +kernel
theorem dL_isBest_61 : decode cL_isBest 61 = .ok (.iload 5, 2) := by decide +kernel
theorem dL_isBest_63 : decode cL_isBest 63 = .ok (.if_icmp .gt 29, 3) := by decide +kernel
theorem dL_isBest_66 : decode cL_isBest 66 = .ok (.iload 8, 2) := by decide +kernel
theorem dL_isBest_68 : decode cL_isBest 68 = .ok (.iload 5, 2) := by decide +kernel
theorem dL_isBest_70 : decode cL_isBest 70 = .ok (.if_icmp .ne 10, 3) := by decide +kernel
theorem dL_isBest_73 : decode cL_isBest 73 = .ok (.iload 7, 2) := by decide +kernel
theorem dL_isBest_75 : decode cL_isBest 75 = .ok (.iload 6, 2) := by decide +kernel
theorem dL_isBest_77 : decode cL_isBest 77 = .ok (.if_icmp .lt 15, 3) := by decide +kernel
theorem dL_isBest_80 : decode cL_isBest 80 = .ok (.aload_n 0, 1) := by decide +kernel
theorem dL_isBest_81 : decode cL_isBest 81 = .ok (.iload_n 1, 1) := by decide +kernel
theorem dL_isBest_82 : decode cL_isBest 82 = .ok (.iload 6, 2) := by decide +kernel
theorem dL_isBest_84 : decode cL_isBest 84 = .ok (.invokevirtual 41, 3) := by decide +kernel
theorem dL_isBest_87 : decode cL_isBest 87 = .ok (.iload 5, 2) := by decide +kernel
theorem dL_isBest_89 : decode cL_isBest 89 = .ok (.if_icmp .eq 5, 3) := by decide +kernel
theorem dL_isBest_92 : decode cL_isBest 92 = .ok (.iconst 0, 1) := by decide +kernel
theorem dL_isBest_93 : decode cL_isBest 93 = .ok (.ireturn, 1) := by decide +kernel
theorem dL_isBest_94 : decode cL_isBest 94 = .ok (.aload_n 0, 1) := by decide +kernel
theorem dL_isBest_95 : decode cL_isBest 95 = .ok (.invokevirtual 107, 3) := by decide +kernel
theorem dL_isBest_98 : decode cL_isBest 98 = .ok (.pop, 1) := by decide +kernel
theorem dL_isBest_99 : decode cL_isBest 99 = .ok (.iload_n 2, 1) := by decide +kernel
theorem dL_isBest_100 : decode cL_isBest 100 = .ok (.iconst 5, 1) := by decide +kernel
theorem dL_isBest_101 : decode cL_isBest 101 = .ok (.ishr, 1) := by decide +kernel
theorem dL_isBest_102 : decode cL_isBest 102 = .ok (.aload_n 0, 1) := by decide +kernel
theorem dL_isBest_103 : decode cL_isBest 103 = .ok (.iconst 0, 1) := by decide +kernel
theorem dL_isBest_104 : decode cL_isBest 104 = .ok (.invokevirtual 53, 3) := by decide +kernel
theorem dL_isBest_107 : decode cL_isBest 107 = .ok (.invokestatic 56, 3) := by decide +kernel
theorem dL_isBest_110 : decode cL_isBest 110 = .ok (.istore 9, 2) := by decide +kernel
theorem dL_isBest_112 : decode cL_isBest 112 = .ok (.aload_n 0, 1) := by decide +kernel
theorem dL_isBest_113 : decode cL_isBest 113 = .ok (.iload_n 1, 1) := by decide +kernel
theorem dL_isBest_114 : decode cL_isBest 114 = .ok (.invokevirtual 117, 3) := by decide +kernel
theorem dL_isBest_117 : decode cL_isBest 117 = .ok (.istore 10, 2) := by decide +kernel
theorem dL_isBest_119 : decode cL_isBest 119 = .ok (.iload 9, 2) := by decide +kernel
theorem dL_isBest_121 : decode cL_isBest 121 = .ok (.iload_n 1, 1) := by decide +kernel
theorem dL_isBest_122 : decode cL_isBest 122 = .ok (.if_icmp .eq 68, 3) := by decide +kernel
theorem dL_isBest_125 : decode cL_isBest 125 = .ok (.aload_n 0, 1) := by decide +kernel
theorem dL_isBest_126 : decode cL_isBest 126 = .ok (.iload_n 1, 1) := by decide +kernel
theorem dL_isBest_127 : decode cL_isBest 127 = .ok (.iload 10, 2) := by decide +kernel
theorem dL_isBest_129 : decode cL_isBest 129 = .ok (.invokevirtual 27, 3) := by decide +kernel
theorem dL_isBest_132 : decode cL_isBest 132 = .ok (.pop, 1) := by decide +kernel
theorem dL_isBest_133 : decode cL_isBest 133 = .ok (.aload_n 0, 1) := by decide +kernel
theorem dL_isBest_134 : decode cL_isBest 134 = .ok (.iload_n 1, 1) := by decide +kernel
theorem dL_isBest_135 : decode cL_isBest 135 = .ok (.iconst 3, 1) := by decide +kernel
theorem dL_isBest_136 : decode cL_isBest 136 = .ok (.invokevirtual 89, 3) := by decide +kernel
theorem dL_isBest_139 : decode cL_isBest 139 = .ok (.istore 11, 2) := by decide +kernel
theorem dL_isBest_141 : decode cL_isBest 141 = .ok (.aload_n 0, 1) := by decide +kernel
theorem dL_isBest_142 : decode cL_isBest 142 = .ok (.invokevirtual 107, 3) := by decide +kernel
theorem dL_isBest_145 : decode cL_isBest 145 = .ok (.pop, 1) := by decide +kernel
theorem dL_isBest_146 : decode cL_isBest 146 = .ok (.aload_n 0, 1) := by decide +kernel
theorem dL_isBest_147 : decode cL_isBest 147 = .ok (.iload_n 1, 1) := by decide +kernel
theorem dL_isBest_148 : decode cL_isBest 148 = .ok (.iload 9, 2) := by decide +kernel
theorem dL_isBest_150 : decode cL_isBest 150 = .ok (.invokevirtual 27, 3) := by decide +kernel
theorem dL_isBest_153 : decode cL_isBest 153 = .ok (.pop, 1) := by decide +kernel
theorem dL_isBest_154 : decode cL_isBest 154 = .ok (.aload_n 0, 1) := by decide +kernel
theorem dL_isBest_155 : decode cL_isBest 155 = .ok (.iload_n 1, 1) := by decide +kernel
theorem dL_isBest_156 : decode cL_isBest 156 = .ok (.iconst 3, 1) := by decide +kernel
theorem dL_isBest_157 : decode cL_isBest 157 = .ok (.invokevirtual 89, 3) := by decide +kernel
theorem dL_isBest_160 : decode cL_isBest 160 = .ok (.istore 12, 2) := by decide +kernel
theorem dL_isBest_162 : decode cL_isBest 162 = .ok (.aload_n 0, 1) := by decide +kernel
theorem dL_isBest_163 : decode cL_isBest 163 = .ok (.invokevirtual 107, 3) := by decide +kernel
theorem dL_isBest_166 : decode cL_isBest 166 = .ok (.pop, 1) := by decide +kernel
theorem dL_isBest_167 : decode cL_isBest 167 = .ok (.iload 12, 2) := by decide +kernel
theorem dL_isBest_169 : decode cL_isBest 169 = .ok (.iload 11, 2) := by decide +kernel
theorem dL_isBest_171 : decode cL_isBest 171 = .ok (.if_icmp .gt 17, 3) := by decide +kernel
theorem dL_isBest_174 : decode cL_isBest 174 = .ok (.iload 12, 2) := by decide +kernel
theorem dL_isBest_176 : decode cL_isBest 176 = .ok (.iload 11, 2) := by decide +kernel
theorem dL_isBest_178 : decode cL_isBest 178 = .ok (.if_icmp .ne 12, 3) := by decide +kernel
theorem dL_isBest_181 : decode cL_isBest 181 = .ok (.iload 9, 2) := by decide +kernel
theorem dL_isBest_183 : decode cL_isBest 183 = .ok (.iload 10, 2) := by decide +kernel
theorem dL_isBest_185 : decode cL_isBest 185 = .ok (.if_icmp .ge 5, 3) := by decide +kernel
theorem dL_isBest_188 : decode cL_isBest 188 = .ok (.iconst 0, 1) := by decide +kernel
theorem dL_isBest_189 : decode cL_isBest 189 = .ok (.ireturn, 1) := by decide +kernel
theorem dL_isBest_190 : decode cL_isBest 190 = .ok (.iload 10, 2) := by decide +kernel
theorem dL_isBest_192 : decode cL_isBest 192 = .ok (.iload_n 1, 1) := by decide +kernel
theorem dL_isBest_193 : decode cL_isBest 193 = .ok (.if_icmp .eq 16, 3) := by decide +kernel
theorem dL_isBest_196 : decode cL_isBest 196 = .ok (.aload_n 0, 1) := by decide +kernel
theorem dL_isBest_197 : decode cL_isBest 197 = .ok (.invokevirtual 113, 3) := by decide +kernel
theorem dL_isBest_200 : decode cL_isBest 200 = .ok (.lload_n 3, 1) := by decide +kernel
theorem dL_isBest_201 : decode cL_isBest 201 = .ok (.lcmp, 1) := by decide +kernel
theorem dL_isBest_202 : decode cL_isBest 202 = .ok (.ifCond .ne 7, 3) := by decide +kernel
theorem dL_isBest_205 : decode cL_isBest 205 = .ok (.iconst 1, 1) := by decide +kernel
theorem dL_isBest_206 : decode cL_isBest 206 = .ok (.goto 4, 3) := by decide +kernel
theorem dL_isBest_209 : decode cL_isBest 209 = .ok (.iconst 0, 1) := by decide +kernel
theorem dL_isBest_210 : decode cL_isBest 210 = .ok (.ireturn, 1) := by decide +kernel
theorem dL_law_0 : decode cL_law 0 = .ok (.new 9, 3) := by decide +kernel
theorem dL_law_3 : decode cL_law 3 = .ok (.dup, 1) := by decide +kernel
theorem dL_law_4 : decode cL_law 4 = .ok (.invokespecial 120, 3) := by decide +kernel
theorem dL_law_7 : decode cL_law 7 = .ok (.astore_n 1, 1) := by decide +kernel
theorem dL_law_8 : decode cL_law 8 = .ok (.aload_n 0, 1) := by decide +kernel
theorem dL_law_9 : decode cL_law 9 = .ok (.iconst 0, 1) := by decide +kernel
theorem dL_law_10 : decode cL_law 10 = .ok (.invokestatic 121, 3) := by decide +kernel
theorem dL_law_13 : decode cL_law 13 = .ok (.istore_n 2, 1) := by decide +kernel
theorem dL_law_14 : decode cL_law 14 = .ok (.iconst 1, 1) := by decide +kernel
theorem dL_law_15 : decode cL_law 15 = .ok (.iload_n 2, 1) := by decide +kernel
theorem dL_law_16 : decode cL_law 16 = .ok (.iconst 4, 1) := by decide +kernel
theorem dL_law_17 : decode cL_law 17 = .ok (.invokestatic 56, 3) := by decide +kernel
theorem dL_law_20 : decode cL_law 20 = .ok (.iadd, 1) := by decide +kernel
theorem dL_law_21 : decode cL_law 21 = .ok (.istore_n 3, 1) := by decide +kernel
theorem dL_law_22 : decode cL_law 22 = .ok (.iconst 0, 1) := by decide +kernel
theorem dL_law_23 : decode cL_law 23 = .ok (.istore 4, 2) := by decide +kernel
theorem dL_law_25 : decode cL_law 25 = .ok (.iconst 0, 1) := by decide +kernel
theorem dL_law_26 : decode cL_law 26 = .ok (.istore 5, 2) := by decide +kernel
theorem dL_law_28 : decode cL_law 28 = .ok (.iload 5, 2) := by decide +kernel
theorem dL_law_30 : decode cL_law 30 = .ok (.iload_n 3, 1) := by decide +kernel
theorem dL_law_31 : decode cL_law 31 = .ok (.if_icmp .ge 47, 3) := by decide +kernel
theorem dL_law_34 : decode cL_law 34 = .ok (.bipush 10, 2) := by decide +kernel
theorem dL_law_36 : decode cL_law 36 = .ok (.iload_n 2, 1) := by decide +kernel
theorem dL_law_37 : decode cL_law 37 = .ok (.iconst 3, 1) := by decide +kernel
theorem dL_law_38 : decode cL_law 38 = .ok (.iconst 4, 1) := by decide +kernel
theorem dL_law_39 : decode cL_law 39 = .ok (.iload 5, 2) := by decide +kernel
theorem dL_law_41 : decode cL_law 41 = .ok (.imul, 1) := by decide +kernel
theorem dL_law_42 : decode cL_law 42 = .ok (.iadd, 1) := by decide +kernel
theorem dL_law_43 : decode cL_law 43 = .ok (.ishr, 1) := by decide +kernel
theorem dL_law_44 : decode cL_law 44 = .ok (.bipush 60, 2) := by decide +kernel
theorem dL_law_46 : decode cL_law 46 = .ok (.invokestatic 56, 3) := by decide +kernel
theorem dL_law_49 : decode cL_law 49 = .ok (.iadd, 1) := by decide +kernel
theorem dL_law_50 : decode cL_law 50 = .ok (.istore 6, 2) := by decide +kernel
theorem dL_law_52 : decode cL_law 52 = .ok (.iload 4, 2) := by decide +kernel
theorem dL_law_54 : decode cL_law 54 = .ok (.iload 6, 2) := by decide +kernel
theorem dL_law_56 : decode cL_law 56 = .ok (.iadd, 1) := by decide +kernel
theorem dL_law_57 : decode cL_law 57 = .ok (.istore 4, 2) := by decide +kernel
theorem dL_law_59 : decode cL_law 59 = .ok (.aload_n 1, 1) := by decide +kernel
theorem dL_law_60 : decode cL_law 60 = .ok (.iload 6, 2) := by decide +kernel
theorem dL_law_62 : decode cL_law 62 = .ok (.invokestatic 125, 3) := by decide +kernel
theorem dL_law_65 : decode cL_law 65 = .ok (.iload 5, 2) := by decide +kernel
theorem dL_law_67 : decode cL_law 67 = .ok (.if_icmp .eq 5, 3) := by decide +kernel
theorem dL_law_70 : decode cL_law 70 = .ok (.iconst 0, 1) := by decide +kernel
theorem dL_law_71 : decode cL_law 71 = .ok (.ireturn, 1) := by decide +kernel
theorem dL_law_72 : decode cL_law 72 = .ok (.iinc 5 1, 3) := by decide +kernel
theorem dL_law_75 : decode cL_law 75 = .ok (.goto (-47), 3) := by decide +kernel
theorem dL_law_78 : decode cL_law 78 = .ok (.aload_n 1, 1) := by decide +kernel
theorem dL_law_79 : decode cL_law 79 = .ok (.bipush 97, 2) := by decide +kernel
theorem dL_law_81 : decode cL_law 81 = .ok (.iload_n 2, 1) := by decide +kernel
theorem dL_law_82 : decode cL_law 82 = .ok (.iconst 5, 1) := by decide +kernel
theorem dL_law_83 : decode cL_law 83 = .ok (.ishr, 1) := by decide +kernel
theorem dL_law_84 : decode cL_law 84 = .ok (.iconst 3, 1) := by decide +kernel
theorem dL_law_85 : decode cL_law 85 = .ok (.invokestatic 56, 3) := by decide +kernel
theorem dL_law_88 : decode cL_law 88 = .ok (.iadd, 1) := by decide +kernel
theorem dL_law_89 : decode cL_law 89 = .ok (.invokevirtual 128, 3) := by decide +kernel
theorem dL_law_92 : decode cL_law 92 = .ok (.pop, 1) := by decide +kernel
theorem dL_law_93 : decode cL_law 93 = .ok (.aload_n 1, 1) := by decide +kernel
theorem dL_law_94 : decode cL_law 94 = .ok (.bipush 45, 2) := by decide +kernel
theorem dL_law_96 : decode cL_law 96 = .ok (.invokevirtual 128, 3) := by decide +kernel
theorem dL_law_99 : decode cL_law 99 = .ok (.pop, 1) := by decide +kernel
theorem dL_law_100 : decode cL_law 100 = .ok (.aload_n 1, 1) := by decide +kernel
theorem dL_law_101 : decode cL_law 101 = .ok (.bipush 40, 2) := by decide +kernel
theorem dL_law_103 : decode cL_law 103 = .ok (.invokevirtual 128, 3) := by decide +kernel
theorem dL_law_106 : decode cL_law 106 = .ok (.pop, 1) := by decide +kernel
theorem dL_law_107 : decode cL_law 107 = .ok (.aload_n 1, 1) := by decide +kernel
theorem dL_law_108 : decode cL_law 108 = .ok (.bipush 97, 2) := by decide +kernel
theorem dL_law_110 : decode cL_law 110 = .ok (.iload_n 2, 1) := by decide +kernel
theorem dL_law_111 : decode cL_law 111 = .ok (.bipush 9, 2) := by decide +kernel
theorem dL_law_113 : decode cL_law 113 = .ok (.ishr, 1) := by decide +kernel
theorem dL_law_114 : decode cL_law 114 = .ok (.iconst 2, 1) := by decide +kernel
theorem dL_law_115 : decode cL_law 115 = .ok (.invokestatic 56, 3) := by decide +kernel
theorem dL_law_118 : decode cL_law 118 = .ok (.iadd, 1) := by decide +kernel
theorem dL_law_119 : decode cL_law 119 = .ok (.invokevirtual 128, 3) := by decide +kernel
theorem dL_law_122 : decode cL_law 122 = .ok (.pop, 1) := by decide +kernel
theorem dL_law_123 : decode cL_law 123 = .ok (.aload_n 1, 1) := by decide +kernel
theorem dL_law_124 : decode cL_law 124 = .ok (.bipush 99, 2) := by decide +kernel
theorem dL_law_126 : decode cL_law 126 = .ok (.invokevirtual 128, 3) := by decide +kernel
theorem dL_law_129 : decode cL_law 129 = .ok (.pop, 1) := by decide +kernel
theorem dL_law_130 : decode cL_law 130 = .ok (.aload_n 1, 1) := by decide +kernel
theorem dL_law_131 : decode cL_law 131 = .ok (.bipush 41, 2) := by decide +kernel
theorem dL_law_133 : decode cL_law 133 = .ok (.invokevirtual 128, 3) := by decide +kernel
theorem dL_law_136 : decode cL_law 136 = .ok (.pop, 1) := by decide +kernel
theorem dL_law_137 : decode cL_law 137 = .ok (.aload_n 1, 1) := by decide +kernel
theorem dL_law_138 : decode cL_law 138 = .ok (.iload_n 2, 1) := by decide +kernel
theorem dL_law_139 : decode cL_law 139 = .ok (.bipush 11, 2) := by decide +kernel
theorem dL_law_141 : decode cL_law 141 = .ok (.ishr, 1) := by decide +kernel
theorem dL_law_142 : decode cL_law 142 = .ok (.iload_n 3, 1) := by decide +kernel
theorem dL_law_143 : decode cL_law 143 = .ok (.invokestatic 56, 3) := by decide +kernel
theorem dL_law_146 : decode cL_law 146 = .ok (.invokestatic 131, 3) := by decide +kernel
theorem dL_law_149 : decode cL_law 149 = .ok (.iconst 3, 1) := by decide +kernel
theorem dL_law_150 : decode cL_law 150 = .ok (.if_icmp .eq 5, 3) := by decide +kernel
theorem dL_law_153 : decode cL_law 153 = .ok (.iconst 0, 1) := by decide +kernel
theorem dL_law_154 : decode cL_law 154 = .ok (.ireturn, 1) := by decide +kernel
theorem dL_law_155 : decode cL_law 155 = .ok (.aload_n 1, 1) := by decide +kernel
theorem dL_law_156 : decode cL_law 156 = .ok (.iconst 1, 1) := by decide +kernel
theorem dL_law_157 : decode cL_law 157 = .ok (.iconst 1, 1) := by decide +kernel
theorem dL_law_158 : decode cL_law 158 = .ok (.iload_n 2, 1) := by decide +kernel
theorem dL_law_159 : decode cL_law 159 = .ok (.bipush 14, 2) := by decide +kernel
theorem dL_law_161 : decode cL_law 161 = .ok (.ishr, 1) := by decide +kernel
theorem dL_law_162 : decode cL_law 162 = .ok (.bipush 6, 2) := by decide +kernel
theorem dL_law_164 : decode cL_law 164 = .ok (.invokestatic 56, 3) := by decide +kernel
theorem dL_law_167 : decode cL_law 167 = .ok (.iadd, 1) := by decide +kernel
theorem dL_law_168 : decode cL_law 168 = .ok (.invokevirtual 47, 3) := by decide +kernel
theorem dL_law_171 : decode cL_law 171 = .ok (.pop, 1) := by decide +kernel
theorem dL_law_172 : decode cL_law 172 = .ok (.iconst 0, 1) := by decide +kernel
theorem dL_law_173 : decode cL_law 173 = .ok (.istore 5, 2) := by decide +kernel
theorem dL_law_175 : decode cL_law 175 = .ok (.iload 5, 2) := by decide +kernel
theorem dL_law_177 : decode cL_law 177 = .ok (.bipush 24, 2) := by decide +kernel
theorem dL_law_179 : decode cL_law 179 = .ok (.if_icmp .ge 177, 3) := by decide +kernel
theorem dL_law_182 : decode cL_law 182 = .ok (.aload_n 0, 1) := by decide +kernel
theorem dL_law_183 : decode cL_law 183 = .ok (.iconst 1, 1) := by decide +kernel
theorem dL_law_184 : decode cL_law 184 = .ok (.iload 5, 2) := by decide +kernel
theorem dL_law_186 : decode cL_law 186 = .ok (.iadd, 1) := by decide +kernel
theorem dL_law_187 : decode cL_law 187 = .ok (.invokestatic 121, 3) := by decide +kernel
theorem dL_law_190 : decode cL_law 190 = .ok (.istore 6, 2) := by decide +kernel
