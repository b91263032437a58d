theorem dX7_goTo_129 : decode cX7_goTo 129 = .ok (.iadd, 1) := by decide +kernel
theorem dX7_goTo_130 : decode cX7_goTo 130 = .ok (.iaload, 1) := by decide +kernel
theorem dX7_goTo_131 : decode cX7_goTo 131 = .ok (.if_icmp .ge 16, 3) := by decide +kernel
theorem dX7_goTo_134 : decode cX7_goTo 134 = .ok (.aload_n 0, 1) := by decide +kernel
theorem dX7_goTo_135 : decode cX7_goTo 135 = .ok (.dup, 1) := by decide +kernel
theorem dX7_goTo_136 : decode cX7_goTo 136 = .ok (.getfield 87, 3) := by decide +kernel
theorem dX7_goTo_139 : decode cX7_goTo 139 = .ok (.iconst 1, 1) := by decide +kernel
theorem dX7_goTo_140 : decode cX7_goTo 140 = .ok (.iadd, 1) := by decide +kernel
theorem dX7_goTo_141 : decode cX7_goTo 141 = .ok (.putfield 87, 3) := by decide +kernel
theorem dX7_goTo_144 : decode cX7_goTo 144 = .ok (.goto 64, 3) := by decide +kernel
theorem dX7_goTo_147 : decode cX7_goTo 147 = .ok (.aload_n 0, 1) := by decide +kernel
theorem dX7_goTo_148 : decode cX7_goTo 148 = .ok (.dup, 1) := by decide +kernel
theorem dX7_goTo_149 : decode cX7_goTo 149 = .ok (.getfield 90, 3) := by decide +kernel
theorem dX7_goTo_152 : decode cX7_goTo 152 = .ok (.iconst 1, 1) := by decide +kernel
theorem dX7_goTo_153 : decode cX7_goTo 153 = .ok (.iadd, 1) := by decide +kernel
theorem dX7_goTo_154 : decode cX7_goTo 154 = .ok (.putfield 90, 3) := by decide +kernel
theorem dX7_goTo_157 : decode cX7_goTo 157 = .ok (.aload_n 0, 1) := by decide +kernel
theorem dX7_goTo_158 : decode cX7_goTo 158 = .ok (.dup, 1) := by decide +kernel
theorem dX7_goTo_159 : decode cX7_goTo 159 = .ok (.getfield 93, 3) := by decide +kernel
theorem dX7_goTo_162 : decode cX7_goTo 162 = .ok (.iload 5, 2) := by decide +kernel
theorem dX7_goTo_164 : decode cX7_goTo 164 = .ok (.ifCond .eq 7, 3) := by decide +kernel
theorem dX7_goTo_167 : decode cX7_goTo 167 = .ok (.iconst 1, 1) := by decide +kernel
theorem dX7_goTo_168 : decode cX7_goTo 168 = .ok (.goto 4, 3) := by decide +kernel
theorem dX7_goTo_171 : decode cX7_goTo 171 = .ok (.iconst 0, 1) := by decide +kernel
theorem dX7_goTo_172 : decode cX7_goTo 172 = .ok (.iadd, 1) := by decide +kernel
theorem dX7_goTo_173 : decode cX7_goTo 173 = .ok (.putfield 93, 3) := by decide +kernel
theorem dX7_goTo_176 : decode cX7_goTo 176 = .ok (.aload_n 0, 1) := by decide +kernel
theorem dX7_goTo_177 : decode cX7_goTo 177 = .ok (.getfield 19, 3) := by decide +kernel
theorem dX7_goTo_180 : decode cX7_goTo 180 = .ok (.iload_n 3, 1) := by decide +kernel
theorem dX7_goTo_181 : decode cX7_goTo 181 = .ok (.dup2, 1) := by decide +kernel
theorem dX7_goTo_182 : decode cX7_goTo 182 = .ok (.iaload, 1) := by decide +kernel
theorem dX7_goTo_183 : decode cX7_goTo 183 = .ok (.iconst 1, 1) := by decide +kernel
theorem dX7_goTo_184 : decode cX7_goTo 184 = .ok (.iload 4, 2) := by decide +kernel
theorem dX7_goTo_186 : decode cX7_goTo 186 = .ok (.ishl, 1) := by decide +kernel
theorem dX7_goTo_187 : decode cX7_goTo 187 = .ok (.ior, 1) := by decide +kernel
theorem dX7_goTo_188 : decode cX7_goTo 188 = .ok (.iastore, 1) := by decide +kernel
theorem dX7_goTo_189 : decode cX7_goTo 189 = .ok (.aload_n 0, 1) := by decide +kernel
theorem dX7_goTo_190 : decode cX7_goTo 190 = .ok (.getfield 16, 3) := by decide +kernel
theorem dX7_goTo_193 : decode cX7_goTo 193 = .ok (.iload 4, 2) := by decide +kernel
theorem dX7_goTo_195 : decode cX7_goTo 195 = .ok (.iload_n 3, 1) := by decide +kernel
theorem dX7_goTo_196 : decode cX7_goTo 196 = .ok (.iastore, 1) := by decide +kernel
theorem dX7_goTo_197 : decode cX7_goTo 197 = .ok (.aload_n 0, 1) := by decide +kernel
theorem dX7_goTo_198 : decode cX7_goTo 198 = .ok (.getfield 7, 3) := by decide +kernel
theorem dX7_goTo_201 : decode cX7_goTo 201 = .ok (.iload 6, 2) := by decide +kernel
theorem dX7_goTo_203 : decode cX7_goTo 203 = .ok (.dup2, 1) := by decide +kernel
theorem dX7_goTo_204 : decode cX7_goTo 204 = .ok (.iaload, 1) := by decide +kernel
theorem dX7_goTo_205 : decode cX7_goTo 205 = .ok (.iconst 1, 1) := by decide +kernel
theorem dX7_goTo_206 : decode cX7_goTo 206 = .ok (.iadd, 1) := by decide +kernel
theorem dX7_goTo_207 : decode cX7_goTo 207 = .ok (.iastore, 1) := by decide +kernel
theorem dX7_goTo_208 : decode cX7_goTo 208 = .ok (.return_, 1) := by decide +kernel
theorem dX7_playIn_0 : decode cX7_playIn 0 = .ok (.aload_n 0, 1) := by decide +kernel
theorem dX7_playIn_1 : decode cX7_playIn 1 = .ok (.iconst 0, 1) := by decide +kernel
theorem dX7_playIn_2 : decode cX7_playIn 2 = .ok (.putfield 90, 3) := by decide +kernel
theorem dX7_playIn_5 : decode cX7_playIn 5 = .ok (.aload_n 0, 1) := by decide +kernel
theorem dX7_playIn_6 : decode cX7_playIn 6 = .ok (.iconst 0, 1) := by decide +kernel
theorem dX7_playIn_7 : decode cX7_playIn 7 = .ok (.putfield 93, 3) := by decide +kernel
theorem dX7_playIn_10 : decode cX7_playIn 10 = .ok (.aload_n 0, 1) := by decide +kernel
theorem dX7_playIn_11 : decode cX7_playIn 11 = .ok (.iconst 0, 1) := by decide +kernel
theorem dX7_playIn_12 : decode cX7_playIn 12 = .ok (.putfield 87, 3) := by decide +kernel
theorem dX7_playIn_15 : decode cX7_playIn 15 = .ok (.aload_n 0, 1) := by decide +kernel
theorem dX7_playIn_16 : decode cX7_playIn 16 = .ok (.iconst 0, 1) := by decide +kernel
theorem dX7_playIn_17 : decode cX7_playIn 17 = .ok (.putfield 81, 3) := by decide +kernel
theorem dX7_playIn_20 : decode cX7_playIn 20 = .ok (.aload_n 0, 1) := by decide +kernel
theorem dX7_playIn_21 : decode cX7_playIn 21 = .ok (.iconst 0, 1) := by decide +kernel
theorem dX7_playIn_22 : decode cX7_playIn 22 = .ok (.putfield 84, 3) := by decide +kernel
theorem dX7_playIn_25 : decode cX7_playIn 25 = .ok (.iconst 0, 1) := by decide +kernel
theorem dX7_playIn_26 : decode cX7_playIn 26 = .ok (.istore_n 3, 1) := by decide +kernel
theorem dX7_playIn_27 : decode cX7_playIn 27 = .ok (.iload_n 3, 1) := by decide +kernel
theorem dX7_playIn_28 : decode cX7_playIn 28 = .ok (.bipush 12, 2) := by decide +kernel
theorem dX7_playIn_30 : decode cX7_playIn 30 = .ok (.if_icmp .ge 17, 3) := by decide +kernel
theorem dX7_playIn_33 : decode cX7_playIn 33 = .ok (.aload_n 0, 1) := by decide +kernel
theorem dX7_playIn_34 : decode cX7_playIn 34 = .ok (.getfield 16, 3) := by decide +kernel
theorem dX7_playIn_37 : decode cX7_playIn 37 = .ok (.iload_n 3, 1) := by decide +kernel
theorem dX7_playIn_38 : decode cX7_playIn 38 = .ok (.bipush (-100), 2) := by decide +kernel
theorem dX7_playIn_40 : decode cX7_playIn 40 = .ok (.iastore, 1) := by decide +kernel
theorem dX7_playIn_41 : decode cX7_playIn 41 = .ok (.iinc 3 1, 3) := by decide +kernel
theorem dX7_playIn_44 : decode cX7_playIn 44 = .ok (.goto (-17), 3) := by decide +kernel
theorem dX7_playIn_47 : decode cX7_playIn 47 = .ok (.iconst 0, 1) := by decide +kernel
theorem dX7_playIn_48 : decode cX7_playIn 48 = .ok (.istore_n 3, 1) := by decide +kernel
theorem dX7_playIn_49 : decode cX7_playIn 49 = .ok (.iload_n 3, 1) := by decide +kernel
theorem dX7_playIn_50 : decode cX7_playIn 50 = .ok (.bipush 24, 2) := by decide +kernel
theorem dX7_playIn_52 : decode cX7_playIn 52 = .ok (.if_icmp .ge 67, 3) := by decide +kernel
theorem dX7_playIn_55 : decode cX7_playIn 55 = .ok (.aload_n 0, 1) := by decide +kernel
theorem dX7_playIn_56 : decode cX7_playIn 56 = .ok (.getfield 7, 3) := by decide +kernel
theorem dX7_playIn_59 : decode cX7_playIn 59 = .ok (.iload_n 1, 1) := by decide +kernel
theorem dX7_playIn_60 : decode cX7_playIn 60 = .ok (.bipush 6, 2) := by decide +kernel
theorem dX7_playIn_62 : decode cX7_playIn 62 = .ok (.iload_n 2, 1) := by decide +kernel
theorem dX7_playIn_63 : decode cX7_playIn 63 = .ok (.iload_n 3, 1) := by decide +kernel
theorem dX7_playIn_64 : decode cX7_playIn 64 = .ok (.invokestatic 56, 3) := by decide +kernel
theorem dX7_playIn_67 : decode cX7_playIn 67 = .ok (.iadd, 1) := by decide +kernel
theorem dX7_playIn_68 : decode cX7_playIn 68 = .ok (.iaload, 1) := by decide +kernel
theorem dX7_playIn_69 : decode cX7_playIn 69 = .ok (.istore 4, 2) := by decide +kernel
theorem dX7_playIn_71 : decode cX7_playIn 71 = .ok (.aload_n 0, 1) := by decide +kernel
theorem dX7_playIn_72 : decode cX7_playIn 72 = .ok (.getfield 19, 3) := by decide +kernel
theorem dX7_playIn_75 : decode cX7_playIn 75 = .ok (.iload_n 3, 1) := by decide +kernel
theorem dX7_playIn_76 : decode cX7_playIn 76 = .ok (.iconst 0, 1) := by decide +kernel
theorem dX7_playIn_77 : decode cX7_playIn 77 = .ok (.iastore, 1) := by decide +kernel
theorem dX7_playIn_78 : decode cX7_playIn 78 = .ok (.iconst 0, 1) := by decide +kernel
theorem dX7_playIn_79 : decode cX7_playIn 79 = .ok (.istore 5, 2) := by decide +kernel
theorem dX7_playIn_81 : decode cX7_playIn 81 = .ok (.iload 5, 2) := by decide +kernel
theorem dX7_playIn_83 : decode cX7_playIn 83 = .ok (.bipush 12, 2) := by decide +kernel
theorem dX7_playIn_85 : decode cX7_playIn 85 = .ok (.if_icmp .ge 28, 3) := by decide +kernel
theorem dX7_playIn_88 : decode cX7_playIn 88 = .ok (.iload 4, 2) := by decide +kernel
theorem dX7_playIn_90 : decode cX7_playIn 90 = .ok (.iload 5, 2) := by decide +kernel
theorem dX7_playIn_92 : decode cX7_playIn 92 = .ok (.invokestatic 70, 3) := by decide +kernel
theorem dX7_playIn_95 : decode cX7_playIn 95 = .ok (.ifCond .eq 12, 3) := by decide +kernel
theorem dX7_playIn_98 : decode cX7_playIn 98 = .ok (.aload_n 0, 1) := by decide +kernel
theorem dX7_playIn_99 : decode cX7_playIn 99 = .ok (.iload_n 1, 1) := by decide +kernel
theorem dX7_playIn_100 : decode cX7_playIn 100 = .ok (.iload_n 2, 1) := by decide +kernel
theorem dX7_playIn_101 : decode cX7_playIn 101 = .ok (.iload_n 3, 1) := by decide +kernel
theorem dX7_playIn_102 : decode cX7_playIn 102 = .ok (.iload 5, 2) := by decide +kernel
theorem dX7_playIn_104 : decode cX7_playIn 104 = .ok (.invokevirtual 96, 3) := by decide +kernel
theorem dX7_playIn_107 : decode cX7_playIn 107 = .ok (.iinc 5 1, 3) := by decide +kernel
theorem dX7_playIn_110 : decode cX7_playIn 110 = .ok (.goto (-29), 3) := by decide +kernel
theorem dX7_playIn_113 : decode cX7_playIn 113 = .ok (.iinc 3 1, 3) := by decide +kernel
theorem dX7_playIn_116 : decode cX7_playIn 116 = .ok (.goto (-67), 3) := by decide +kernel
theorem dX7_playIn_119 : decode cX7_playIn 119 = .ok (.return_, 1) := by decide +kernel
theorem dX7_play_0 : decode cX7_play 0 = .ok (.aload_n 0, 1) := by decide +kernel
theorem dX7_play_1 : decode cX7_play 1 = .ok (.aload_n 0, 1) := by decide +kernel
theorem dX7_play_2 : decode cX7_play 2 = .ok (.iload_n 1, 1) := by decide +kernel
theorem dX7_play_3 : decode cX7_play 3 = .ok (.invokevirtual 45, 3) := by decide +kernel
theorem dX7_play_6 : decode cX7_play 6 = .ok (.ifCond .eq 7, 3) := by decide +kernel
theorem dX7_play_9 : decode cX7_play 9 = .ok (.iconst 0, 1) := by decide +kernel
theorem dX7_play_10 : decode cX7_play 10 = .ok (.goto 4, 3) := by decide +kernel
theorem dX7_play_13 : decode cX7_play 13 = .ok (.iconst 1, 1) := by decide +kernel
theorem dX7_play_14 : decode cX7_play 14 = .ok (.putfield 37, 3) := by decide +kernel
theorem dX7_play_17 : decode cX7_play 17 = .ok (.aload_n 0, 1) := by decide +kernel
theorem dX7_play_18 : decode cX7_play 18 = .ok (.getfield 37, 3) := by decide +kernel
theorem dX7_play_21 : decode cX7_play 21 = .ok (.ifCond .eq 5, 3) := by decide +kernel
theorem dX7_play_24 : decode cX7_play 24 = .ok (.iconst 0, 1) := by decide +kernel
theorem dX7_play_25 : decode cX7_play 25 = .ok (.ireturn, 1) := by decide +kernel
theorem dX7_play_26 : decode cX7_play 26 = .ok (.aload_n 0, 1) := by decide +kernel
theorem dX7_play_27 : decode cX7_play 27 = .ok (.invokevirtual 64, 3) := by decide +kernel
theorem dX7_play_30 : decode cX7_play 30 = .ok (.aload_n 0, 1) := by decide +kernel
theorem dX7_play_31 : decode cX7_play 31 = .ok (.iconst 0, 1) := by decide +kernel
theorem dX7_play_32 : decode cX7_play 32 = .ok (.iload_n 1, 1) := by decide +kernel
theorem dX7_play_33 : decode cX7_play 33 = .ok (.invokevirtual 100, 3) := by decide +kernel
theorem dX7_play_36 : decode cX7_play 36 = .ok (.aload_n 0, 1) := by decide +kernel
theorem dX7_play_37 : decode cX7_play 37 = .ok (.getfield 7, 3) := by decide +kernel
theorem dX7_play_40 : decode cX7_play 40 = .ok (.iconst 0, 1) := by decide +kernel
theorem dX7_play_41 : decode cX7_play 41 = .ok (.iload_n 1, 1) := by decide +kernel
theorem dX7_play_42 : decode cX7_play 42 = .ok (.iadd, 1) := by decide +kernel
theorem dX7_play_43 : decode cX7_play 43 = .ok (.dup2, 1) := by decide +kernel
theorem dX7_play_44 : decode cX7_play 44 = .ok (.iaload, 1) := by decide +kernel
theorem dX7_play_45 : decode cX7_play 45 = .ok (.aload_n 0, 1) := by decide +kernel
theorem dX7_play_46 : decode cX7_play 46 = .ok (.getfield 81, 3) := by decide +kernel
theorem dX7_play_49 : decode cX7_play 49 = .ok (.iadd, 1) := by decide +kernel
theorem dX7_play_50 : decode cX7_play 50 = .ok (.iastore, 1) := by decide +kernel
theorem dX7_play_51 : decode cX7_play 51 = .ok (.aload_n 0, 1) := by decide +kernel
theorem dX7_play_52 : decode cX7_play 52 = .ok (.getfield 7, 3) := by decide +kernel
theorem dX7_play_55 : decode cX7_play 55 = .ok (.sipush 402, 3) := by decide +kernel
theorem dX7_play_58 : decode cX7_play 58 = .ok (.iload_n 1, 1) := by decide +kernel
theorem dX7_play_59 : decode cX7_play 59 = .ok (.iadd, 1) := by decide +kernel
theorem dX7_play_60 : decode cX7_play 60 = .ok (.dup2, 1) := by decide +kernel
theorem dX7_play_61 : decode cX7_play 61 = .ok (.iaload, 1) := by decide +kernel
theorem dX7_play_62 : decode cX7_play 62 = .ok (.iconst 1, 1) := by decide +kernel
theorem dX7_play_63 : decode cX7_play 63 = .ok (.iadd, 1) := by decide +kernel
theorem dX7_play_64 : decode cX7_play 64 = .ok (.iastore, 1) := by decide +kernel
theorem dX7_play_65 : decode cX7_play 65 = .ok (.aload_n 0, 1) := by decide +kernel
theorem dX7_play_66 : decode cX7_play 66 = .ok (.getfield 7, 3) := by decide +kernel
theorem dX7_play_69 : decode cX7_play 69 = .ok (.sipush 408, 3) := by decide +kernel
theorem dX7_play_72 : decode cX7_play 72 = .ok (.iload_n 1, 1) := by decide +kernel
theorem dX7_play_73 : decode cX7_play 73 = .ok (.iadd, 1) := by decide +kernel
theorem dX7_play_74 : decode cX7_play 74 = .ok (.dup2, 1) := by decide +kernel
theorem dX7_play_75 : decode cX7_play 75 = .ok (.iaload, 1) := by decide +kernel
theorem dX7_play_76 : decode cX7_play 76 = .ok (.aload_n 0, 1) := by decide +kernel
theorem dX7_play_77 : decode cX7_play 77 = .ok (.getfield 90, 3) := by decide +kernel
theorem dX7_play_80 : decode cX7_play 80 = .ok (.iadd, 1) := by decide +kernel
theorem dX7_play_81 : decode cX7_play 81 = .ok (.iastore, 1) := by decide +kernel
theorem dX7_play_82 : decode cX7_play 82 = .ok (.aload_n 0, 1) := by decide +kernel
theorem dX7_play_83 : decode cX7_play 83 = .ok (.getfield 7, 3) := by decide +kernel
theorem dX7_play_86 : decode cX7_play 86 = .ok (.sipush 414, 3) := by decide +kernel
theorem dX7_play_89 : decode cX7_play 89 = .ok (.iload_n 1, 1) := by decide +kernel
theorem dX7_play_90 : decode cX7_play 90 = .ok (.iadd, 1) := by decide +kernel
theorem dX7_play_91 : decode cX7_play 91 = .ok (.dup2, 1) := by decide +kernel
theorem dX7_play_92 : decode cX7_play 92 = .ok (.iaload, 1) := by decide +kernel
theorem dX7_play_93 : decode cX7_play 93 = .ok (.aload_n 0, 1) := by decide +kernel
theorem dX7_play_94 : decode cX7_play 94 = .ok (.getfield 81, 3) := by decide +kernel
theorem dX7_play_97 : decode cX7_play 97 = .ok (.iadd, 1) := by decide +kernel
theorem dX7_play_98 : decode cX7_play 98 = .ok (.iastore, 1) := by decide +kernel
theorem dX7_play_99 : decode cX7_play 99 = .ok (.aload_n 0, 1) := by decide +kernel
theorem dX7_play_100 : decode cX7_play 100 = .ok (.getfield 90, 3) := by decide +kernel
theorem dX7_play_103 : decode cX7_play 103 = .ok (.ireturn, 1) := by decide +kernel
theorem dX7_tryPlaying_0 : decode cX7_tryPlaying 0 = .ok (.aload_n 0, 1) := by decide +kernel
theorem dX7_tryPlaying_1 : decode cX7_tryPlaying 1 = .ok (.iconst 0, 1) := by decide +kernel
theorem dX7_tryPlaying_2 : decode cX7_tryPlaying 2 = .ok (.sipush 2996, 3) := by decide +kernel
theorem dX7_tryPlaying_5 : decode cX7_tryPlaying 5 = .ok (.invokevirtual 52, 3) := by decide +kernel
theorem dX7_tryPlaying_8 : decode cX7_tryPlaying 8 = .ok (.aload_n 0, 1) := by decide +kernel
theorem dX7_tryPlaying_9 : decode cX7_tryPlaying 9 = .ok (.sipush 2996, 3) := by decide +kernel
theorem dX7_tryPlaying_12 : decode cX7_tryPlaying 12 = .ok (.iload_n 1, 1) := by decide +kernel
theorem dX7_tryPlaying_13 : decode cX7_tryPlaying 13 = .ok (.invokevirtual 100, 3) := by decide +kernel
theorem dX7_tryPlaying_16 : decode cX7_tryPlaying 16 = .ok (.return_, 1) := by decide +kernel
theorem dX7_dullIn_0 : decode cX7_dullIn 0 = .ok (.iconst 0, 1) := by decide +kernel
theorem dX7_dullIn_1 : decode cX7_dullIn 1 = .ok (.istore_n 3, 1) := by decide +kernel
theorem dX7_dullIn_2 : decode cX7_dullIn 2 = .ok (.iconst 0, 1) := by decide +kernel
theorem dX7_dullIn_3 : decode cX7_dullIn 3 = .ok (.istore 4, 2) := by decide +kernel
theorem dX7_dullIn_5 : decode cX7_dullIn 5 = .ok (.iload 4, 2) := by decide +kernel
theorem dX7_dullIn_7 : decode cX7_dullIn 7 = .ok (.bipush 12, 2) := by decide +kernel
theorem dX7_dullIn_9 : decode cX7_dullIn 9 = .ok (.if_icmp .ge 48, 3) := by decide +kernel
theorem dX7_dullIn_12 : decode cX7_dullIn 12 = .ok (.iload_n 3, 1) := by decide +kernel
theorem dX7_dullIn_13 : decode cX7_dullIn 13 = .ok (.aload_n 0, 1) := by decide +kernel
theorem dX7_dullIn_14 : decode cX7_dullIn 14 = .ok (.getfield 7, 3) := by decide +kernel
theorem dX7_dullIn_17 : decode cX7_dullIn 17 = .ok (.iload_n 1, 1) := by decide +kernel
theorem dX7_dullIn_18 : decode cX7_dullIn 18 = .ok (.sipush 294, 3) := by decide +kernel
theorem dX7_dullIn_21 : decode cX7_dullIn 21 = .ok (.iadd, 1) := by decide +kernel
theorem dX7_dullIn_22 : decode cX7_dullIn 22 = .ok (.bipush 12, 2) := by decide +kernel
theorem dX7_dullIn_24 : decode cX7_dullIn 24 = .ok (.iload_n 2, 1) := by decide +kernel
theorem dX7_dullIn_25 : decode cX7_dullIn 25 = .ok (.imul, 1) := by decide +kernel
theorem dX7_dullIn_26 : decode cX7_dullIn 26 = .ok (.iadd, 1) := by decide +kernel
theorem dX7_dullIn_27 : decode cX7_dullIn 27 = .ok (.iload 4, 2) := by decide +kernel
theorem dX7_dullIn_29 : decode cX7_dullIn 29 = .ok (.iadd, 1) := by decide +kernel
theorem dX7_dullIn_30 : decode cX7_dullIn 30 = .ok (.iaload, 1) := by decide +kernel
theorem dX7_dullIn_31 : decode cX7_dullIn 31 = .ok (.aload_n 0, 1) := by decide +kernel
theorem dX7_dullIn_32 : decode cX7_dullIn 32 = .ok (.getfield 7, 3) := by decide +kernel
theorem dX7_dullIn_35 : decode cX7_dullIn 35 = .ok (.iload_n 1, 1) := by decide +kernel
theorem dX7_dullIn_36 : decode cX7_dullIn 36 = .ok (.sipush 421, 3) := by decide +kernel
theorem dX7_dullIn_39 : decode cX7_dullIn 39 = .ok (.iadd, 1) := by decide +kernel
theorem dX7_dullIn_40 : decode cX7_dullIn 40 = .ok (.iaload, 1) := by decide +kernel
theorem dX7_dullIn_41 : decode cX7_dullIn 41 = .ok (.if_icmp .lt 7, 3) := by decide +kernel
theorem dX7_dullIn_44 : decode cX7_dullIn 44 = .ok (.iconst 1, 1) := by decide +kernel
theorem dX7_dullIn_45 : decode cX7_dullIn 45 = .ok (.goto 4, 3) := by decide +kernel
theorem dX7_dullIn_48 : decode cX7_dullIn 48 = .ok (.iconst 0, 1) := by decide +kernel
theorem dX7_dullIn_49 : decode cX7_dullIn 49 = .ok (.iadd, 1) := by decide +kernel
theorem dX7_dullIn_50 : decode cX7_dullIn 50 = .ok (.istore_n 3, 1) := by decide +kernel
theorem dX7_dullIn_51 : decode cX7_dullIn 51 = .ok (.iinc 4 1, 3) := by decide +kernel
theorem dX7_dullIn_54 : decode cX7_dullIn 54 = .ok (.goto (-49), 3) := by decide +kernel
theorem dX7_dullIn_57 : decode cX7_dullIn 57 = .ok (.iload_n 3, 1) := by decide +kernel
theorem dX7_dullIn_58 : decode cX7_dullIn 58 = .ok (.ireturn, 1) := by decide +kernel
theorem dX7_ifPlayedOf_0 : decode cX7_ifPlayedOf 0 = .ok (.aload_n 0, 1) := by decide +kernel
theorem dX7_ifPlayedOf_1 : decode cX7_ifPlayedOf 1 = .ok (.iload_n 1, 1) := by decide +kernel
theorem dX7_ifPlayedOf_2 : decode cX7_ifPlayedOf 2 = .ok (.invokevirtual 103, 3) := by decide +kernel
theorem dX7_ifPlayedOf_5 : decode cX7_ifPlayedOf 5 = .ok (.iload_n 2, 1) := by decide +kernel
theorem dX7_ifPlayedOf_6 : decode cX7_ifPlayedOf 6 = .ok (.ifCond .ne 10, 3) := by decide +kernel
theorem dX7_ifPlayedOf_9 : decode cX7_ifPlayedOf 9 = .ok (.aload_n 0, 1) := by decide +kernel
theorem dX7_ifPlayedOf_10 : decode cX7_ifPlayedOf 10 = .ok (.getfield 90, 3) := by decide +kernel
theorem dX7_ifPlayedOf_13 : decode cX7_ifPlayedOf 13 = .ok (.goto 47, 3) := by decide +kernel
theorem dX7_ifPlayedOf_16 : decode cX7_ifPlayedOf 16 = .ok (.iload_n 2, 1) := by decide +kernel
theorem dX7_ifPlayedOf_17 : decode cX7_ifPlayedOf 17 = .ok (.iconst 1, 1) := by decide +kernel
theorem dX7_ifPlayedOf_18 : decode cX7_ifPlayedOf 18 = .ok (.if_icmp .ne 10, 3) := by decide +kernel
theorem dX7_ifPlayedOf_21 : decode cX7_ifPlayedOf 21 = .ok (.aload_n 0, 1) := by decide +kernel
theorem dX7_ifPlayedOf_22 : decode cX7_ifPlayedOf 22 = .ok (.getfield 87, 3) := by decide +kernel
theorem dX7_ifPlayedOf_25 : decode cX7_ifPlayedOf 25 = .ok (.goto 35, 3) := by decide +kernel
theorem dX7_ifPlayedOf_28 : decode cX7_ifPlayedOf 28 = .ok (.iload_n 2, 1) := by decide +kernel
theorem dX7_ifPlayedOf_29 : decode cX7_ifPlayedOf 29 = .ok (.iconst 2, 1) := by decide +kernel
theorem dX7_ifPlayedOf_30 : decode cX7_ifPlayedOf 30 = .ok (.if_icmp .ne 10, 3) := by decide +kernel
theorem dX7_ifPlayedOf_33 : decode cX7_ifPlayedOf 33 = .ok (.aload_n 0, 1) := by decide +kernel
theorem dX7_ifPlayedOf_34 : decode cX7_ifPlayedOf 34 = .ok (.getfield 81, 3) := by decide +kernel
theorem dX7_ifPlayedOf_37 : decode cX7_ifPlayedOf 37 = .ok (.goto 23, 3) := by decide +kernel
theorem dX7_ifPlayedOf_40 : decode cX7_ifPlayedOf 40 = .ok (.iload_n 2, 1) := by decide +kernel
theorem dX7_ifPlayedOf_41 : decode cX7_ifPlayedOf 41 = .ok (.iconst 3, 1) := by decide +kernel
theorem dX7_ifPlayedOf_42 : decode cX7_ifPlayedOf 42 = .ok (.if_icmp .ne 10, 3) := by decide +kernel
theorem dX7_ifPlayedOf_45 : decode cX7_ifPlayedOf 45 = .ok (.aload_n 0, 1) := by decide +kernel
theorem dX7_ifPlayedOf_46 : decode cX7_ifPlayedOf 46 = .ok (.getfield 93, 3) := by decide +kernel
theorem dX7_ifPlayedOf_49 : decode cX7_ifPlayedOf 49 = .ok (.goto 11, 3) := by decide +kernel
theorem dX7_ifPlayedOf_52 : decode cX7_ifPlayedOf 52 = .ok (.aload_n 0, 1) := by decide +kernel
theorem dX7_ifPlayedOf_53 : decode cX7_ifPlayedOf 53 = .ok (.sipush 2996, 3) := by decide +kernel
theorem dX7_ifPlayedOf_56 : decode cX7_ifPlayedOf 56 = .ok (.iload_n 1, 1) := by decide +kernel
theorem dX7_ifPlayedOf_57 : decode cX7_ifPlayedOf 57 = .ok (.invokevirtual 107, 3) := by decide +kernel
theorem dX7_ifPlayedOf_60 : decode cX7_ifPlayedOf 60 = .ok (.ireturn, 1) := by decide +kernel
theorem dX7_ifPlayed_0 : decode cX7_ifPlayed 0 = .ok (.aload_n 0, 1) := by decide +kernel
theorem dX7_ifPlayed_1 : decode cX7_ifPlayed 1 = .ok (.aload_n 0, 1) := by decide +kernel
theorem dX7_ifPlayed_2 : decode cX7_ifPlayed 2 = .ok (.iload_n 1, 1) := by decide +kernel
theorem dX7_ifPlayed_3 : decode cX7_ifPlayed 3 = .ok (.invokevirtual 45, 3) := by decide +kernel
theorem dX7_ifPlayed_6 : decode cX7_ifPlayed 6 = .ok (.ifCond .ne 7, 3) := by decide +kernel
theorem dX7_ifPlayed_9 : decode cX7_ifPlayed 9 = .ok (.iconst 1, 1) := by decide +kernel
theorem dX7_ifPlayed_10 : decode cX7_ifPlayed 10 = .ok (.goto 17, 3) := by decide +kernel
theorem dX7_ifPlayed_13 : decode cX7_ifPlayed 13 = .ok (.iload_n 2, 1) := by decide +kernel
theorem dX7_ifPlayed_14 : decode cX7_ifPlayed 14 = .ok (.iconst 0, 1) := by decide +kernel
theorem dX7_ifPlayed_15 : decode cX7_ifPlayed 15 = .ok (.iconst 4, 1) := by decide +kernel
theorem dX7_ifPlayed_16 : decode cX7_ifPlayed 16 = .ok (.invokestatic 41, 3) := by decide +kernel
theorem dX7_ifPlayed_19 : decode cX7_ifPlayed 19 = .ok (.ifCond .ne 7, 3) := by decide +kernel
theorem dX7_ifPlayed_22 : decode cX7_ifPlayed 22 = .ok (.iconst 2, 1) := by decide +kernel
theorem dX7_ifPlayed_23 : decode cX7_ifPlayed 23 = .ok (.goto 4, 3) := by decide +kernel
theorem dX7_ifPlayed_26 : decode cX7_ifPlayed 26 = .ok (.iconst 0, 1) := by decide +kernel
theorem dX7_ifPlayed_27 : decode cX7_ifPlayed 27 = .ok (.putfield 37, 3) := by decide +kernel
theorem dX7_ifPlayed_30 : decode cX7_ifPlayed 30 = .ok (.aload_n 0, 1) := by decide +kernel
theorem dX7_ifPlayed_31 : decode cX7_ifPlayed 31 = .ok (.getfield 37, 3) := by decide +kernel
theorem dX7_ifPlayed_34 : decode cX7_ifPlayed 34 = .ok (.ifCond .ne 12, 3) := by decide +kernel
theorem dX7_ifPlayed_37 : decode cX7_ifPlayed 37 = .ok (.aload_n 0, 1) := by decide +kernel
theorem dX7_ifPlayed_38 : decode cX7_ifPlayed 38 = .ok (.iload_n 1, 1) := by decide +kernel
theorem dX7_ifPlayed_39 : decode cX7_ifPlayed 39 = .ok (.iload_n 2, 1) := by decide +kernel
theorem dX7_ifPlayed_40 : decode cX7_ifPlayed 40 = .ok (.invokevirtual 110, 3) := by decide +kernel
theorem dX7_ifPlayed_43 : decode cX7_ifPlayed 43 = .ok (.goto 4, 3) := by decide +kernel
theorem dX7_ifPlayed_46 : decode cX7_ifPlayed 46 = .ok (.iconst 0, 1) := by decide +kernel
theorem dX7_ifPlayed_47 : decode cX7_ifPlayed 47 = .ok (.ireturn, 1) := by decide +kernel
theorem dX7_lastsOf_0 : decode cX7_lastsOf 0 = .ok (.aload_n 0, 1) := by decide +kernel
theorem dX7_lastsOf_1 : decode cX7_lastsOf 1 = .ok (.iconst 0, 1) := by decide +kernel
theorem dX7_lastsOf_2 : decode cX7_lastsOf 2 = .ok (.sipush 2996, 3) := by decide +kernel
theorem dX7_lastsOf_5 : decode cX7_lastsOf 5 = .ok (.invokevirtual 52, 3) := by decide +kernel
theorem dX7_lastsOf_8 : decode cX7_lastsOf 8 = .ok (.iconst 1, 1) := by decide +kernel
theorem dX7_lastsOf_9 : decode cX7_lastsOf 9 = .ok (.istore_n 2, 1) := by decide +kernel
theorem dX7_lastsOf_10 : decode cX7_lastsOf 10 = .ok (.iload_n 2, 1) := by decide +kernel
theorem dX7_lastsOf_11 : decode cX7_lastsOf 11 = .ok (.sipush 200, 3) := by decide +kernel
theorem dX7_lastsOf_14 : decode cX7_lastsOf 14 = .ok (.if_icmp .gt 26, 3) := by decide +kernel
theorem dX7_lastsOf_17 : decode cX7_lastsOf 17 = .ok (.aload_n 0, 1) := by decide +kernel
theorem dX7_lastsOf_18 : decode cX7_lastsOf 18 = .ok (.sipush 2996, 3) := by decide +kernel
theorem dX7_lastsOf_21 : decode cX7_lastsOf 21 = .ok (.iload_n 1, 1) := by decide +kernel
theorem dX7_lastsOf_22 : decode cX7_lastsOf 22 = .ok (.invokevirtual 100, 3) := by decide +kernel
theorem dX7_lastsOf_25 : decode cX7_lastsOf 25 = .ok (.aload_n 0, 1) := by decide +kernel
theorem dX7_lastsOf_26 : decode cX7_lastsOf 26 = .ok (.getfield 84, 3) := by decide +kernel
theorem dX7_lastsOf_29 : decode cX7_lastsOf 29 = .ok (.ifCond .le 5, 3) := by decide +kernel
theorem dX7_lastsOf_32 : decode cX7_lastsOf 32 = .ok (.iload_n 2, 1) := by decide +kernel
theorem dX7_lastsOf_33 : decode cX7_lastsOf 33 = .ok (.ireturn, 1) := by decide +kernel
theorem dX7_lastsOf_34 : decode cX7_lastsOf 34 = .ok (.iinc 2 1, 3) := by decide +kernel
theorem dX7_lastsOf_37 : decode cX7_lastsOf 37 = .ok (.goto (-27), 3) := by decide +kernel
theorem dX7_lastsOf_40 : decode cX7_lastsOf 40 = .ok (.iconst (-1), 1) := by decide +kernel
theorem dX7_lastsOf_41 : decode cX7_lastsOf 41 = .ok (.ireturn, 1) := by decide +kernel
theorem dX7_lastsFor_0 : decode cX7_lastsFor 0 = .ok (.aload_n 0, 1) := by decide +kernel
theorem dX7_lastsFor_1 : decode cX7_lastsFor 1 = .ok (.aload_n 0, 1) := by decide +kernel
theorem dX7_lastsFor_2 : decode cX7_lastsFor 2 = .ok (.iload_n 1, 1) := by decide +kernel
theorem dX7_lastsFor_3 : decode cX7_lastsFor 3 = .ok (.invokevirtual 45, 3) := by decide +kernel
theorem dX7_lastsFor_6 : decode cX7_lastsFor 6 = .ok (.ifCond .eq 7, 3) := by decide +kernel
theorem dX7_lastsFor_9 : decode cX7_lastsFor 9 = .ok (.iconst 0, 1) := by decide +kernel
theorem dX7_lastsFor_10 : decode cX7_lastsFor 10 = .ok (.goto 4, 3) := by decide +kernel
theorem dX7_lastsFor_13 : decode cX7_lastsFor 13 = .ok (.iconst 1, 1) := by decide +kernel
theorem dX7_lastsFor_14 : decode cX7_lastsFor 14 = .ok (.putfield 37, 3) := by decide +kernel
theorem dX7_lastsFor_17 : decode cX7_lastsFor 17 = .ok (.aload_n 0, 1) := by decide +kernel
theorem dX7_lastsFor_18 : decode cX7_lastsFor 18 = .ok (.getfield 37, 3) := by decide +kernel
theorem dX7_lastsFor_21 : decode cX7_lastsFor 21 = .ok (.ifCond .ne 11, 3) := by decide +kernel
theorem dX7_lastsFor_24 : decode cX7_lastsFor 24 = .ok (.aload_n 0, 1) := by decide +kernel
theorem dX7_lastsFor_25 : decode cX7_lastsFor 25 = .ok (.iload_n 1, 1) := by decide +kernel
theorem dX7_lastsFor_26 : decode cX7_lastsFor 26 = .ok (.invokevirtual 113, 3) := by decide +kernel
theorem dX7_lastsFor_29 : decode cX7_lastsFor 29 = .ok (.goto 4, 3) := by decide +kernel
theorem dX7_lastsFor_32 : decode cX7_lastsFor 32 = .ok (.iconst 0, 1) := by decide +kernel
theorem dX7_lastsFor_33 : decode cX7_lastsFor 33 = .ok (.ireturn, 1) := by decide +kernel
theorem dX7_owes_0 : decode cX7_owes 0 = .ok (.sipush 366, 3) := by decide +kernel
theorem dX7_owes_3 : decode cX7_owes 3 = .ok (.bipush 6, 2) := by decide +kernel
theorem dX7_owes_5 : decode cX7_owes 5 = .ok (.iload_n 0, 1) := by decide +kernel
theorem dX7_owes_6 : decode cX7_owes 6 = .ok (.imul, 1) := by decide +kernel
theorem dX7_owes_7 : decode cX7_owes 7 = .ok (.iadd, 1) := by decide +kernel
theorem dX7_owes_8 : decode cX7_owes 8 = .ok (.iload_n 1, 1) := by decide +kernel
theorem dX7_owes_9 : decode cX7_owes 9 = .ok (.iadd, 1) := by decide +kernel
theorem dX7_owes_10 : decode cX7_owes 10 = .ok (.ireturn, 1) := by decide +kernel
theorem dX7_canGo_0 : decode cX7_canGo 0 = .ok (.aload_n 0, 1) := by decide +kernel
theorem dX7_canGo_1 : decode cX7_canGo 1 = .ok (.getfield 7, 3) := by decide +kernel
theorem dX7_canGo_4 : decode cX7_canGo 4 = .ok (.iconst 0, 1) := by decide +kernel
theorem dX7_canGo_5 : decode cX7_canGo 5 = .ok (.iload_n 1, 1) := by decide +kernel
theorem dX7_canGo_6 : decode cX7_canGo 6 = .ok (.iadd, 1) := by decide +kernel
theorem dX7_canGo_7 : decode cX7_canGo 7 = .ok (.iaload, 1) := by decide +kernel
theorem dX7_canGo_8 : decode cX7_canGo 8 = .ok (.iload_n 3, 1) := by decide +kernel
theorem dX7_canGo_9 : decode cX7_canGo 9 = .ok (.if_icmp .lt 28, 3) := by decide +kernel
theorem dX7_canGo_12 : decode cX7_canGo 12 = .ok (.aload_n 0, 1) := by decide +kernel
theorem dX7_canGo_13 : decode cX7_canGo 13 = .ok (.getfield 7, 3) := by decide +kernel
theorem dX7_canGo_16 : decode cX7_canGo 16 = .ok (.iconst 0, 1) := by decide +kernel
theorem dX7_canGo_17 : decode cX7_canGo 17 = .ok (.iload_n 2, 1) := by decide +kernel
theorem dX7_canGo_18 : decode cX7_canGo 18 = .ok (.iadd, 1) := by decide +kernel
theorem dX7_canGo_19 : decode cX7_canGo 19 = .ok (.iaload, 1) := by decide +kernel
theorem dX7_canGo_20 : decode cX7_canGo 20 = .ok (.iload_n 3, 1) := by decide +kernel
theorem dX7_canGo_21 : decode cX7_canGo 21 = .ok (.iadd, 1) := by decide +kernel
theorem dX7_canGo_22 : decode cX7_canGo 22 = .ok (.aload_n 0, 1) := by decide +kernel
theorem dX7_canGo_23 : decode cX7_canGo 23 = .ok (.getfield 7, 3) := by decide +kernel
theorem dX7_canGo_26 : decode cX7_canGo 26 = .ok (.sipush 422, 3) := by decide +kernel
theorem dX7_canGo_29 : decode cX7_canGo 29 = .ok (.iaload, 1) := by decide +kernel
theorem dX7_canGo_30 : decode cX7_canGo 30 = .ok (.if_icmp .gt 7, 3) := by decide +kernel
theorem dX7_canGo_33 : decode cX7_canGo 33 = .ok (.iconst 1, 1) := by decide +kernel
theorem dX7_canGo_34 : decode cX7_canGo 34 = .ok (.goto 4, 3) := by decide +kernel
theorem dX7_canGo_37 : decode cX7_canGo 37 = .ok (.iconst 0, 1) := by decide +kernel
theorem dX7_canGo_38 : decode cX7_canGo 38 = .ok (.ireturn, 1) := by decide +kernel
theorem dX7_go_0 : decode cX7_go 0 = .ok (.aload_n 0, 1) := by decide +kernel
theorem dX7_go_1 : decode cX7_go 1 = .ok (.getfield 7, 3) := by decide +kernel
theorem dX7_go_4 : decode cX7_go 4 = .ok (.iconst 0, 1) := by decide +kernel
theorem dX7_go_5 : decode cX7_go 5 = .ok (.iload_n 1, 1) := by decide +kernel
theorem dX7_go_6 : decode cX7_go 6 = .ok (.iadd, 1) := by decide +kernel
theorem dX7_go_7 : decode cX7_go 7 = .ok (.dup2, 1) := by decide +kernel
theorem dX7_go_8 : decode cX7_go 8 = .ok (.iaload, 1) := by decide +kernel
theorem dX7_go_9 : decode cX7_go 9 = .ok (.iload_n 3, 1) := by decide +kernel
theorem dX7_go_10 : decode cX7_go 10 = .ok (.isub, 1) := by decide +kernel
theorem dX7_go_11 : decode cX7_go 11 = .ok (.iastore, 1) := by decide +kernel
theorem dX7_go_12 : decode cX7_go 12 = .ok (.aload_n 0, 1) := by decide +kernel
theorem dX7_go_13 : decode cX7_go 13 = .ok (.getfield 7, 3) := by decide +kernel
theorem dX7_go_16 : decode cX7_go 16 = .ok (.iconst 0, 1) := by decide +kernel
theorem dX7_go_17 : decode cX7_go 17 = .ok (.iload_n 2, 1) := by decide +kernel
theorem dX7_go_18 : decode cX7_go 18 = .ok (.iadd, 1) := by decide +kernel
theorem dX7_go_19 : decode cX7_go 19 = .ok (.dup2, 1) := by decide +kernel
theorem dX7_go_20 : decode cX7_go 20 = .ok (.iaload, 1) := by decide +kernel
theorem dX7_go_21 : decode cX7_go 21 = .ok (.iload_n 3, 1) := by decide +kernel
theorem dX7_go_22 : decode cX7_go 22 = .ok (.iadd, 1) := by decide +kernel
theorem dX7_go_23 : decode cX7_go 23 = .ok (.iastore, 1) := by decide +kernel
theorem dX7_go_24 : decode cX7_go 24 = .ok (.return_, 1) := by decide +kernel
theorem dX7_lend_0 : decode cX7_lend 0 = .ok (.aload_n 0, 1) := by decide +kernel
theorem dX7_lend_1 : decode cX7_lend 1 = .ok (.aload_n 0, 1) := by decide +kernel
theorem dX7_lend_2 : decode cX7_lend 2 = .ok (.iload_n 1, 1) := by decide +kernel
theorem dX7_lend_3 : decode cX7_lend 3 = .ok (.invokevirtual 45, 3) := by decide +kernel
theorem dX7_lend_6 : decode cX7_lend 6 = .ok (.ifCond .eq 11, 3) := by decide +kernel
theorem dX7_lend_9 : decode cX7_lend 9 = .ok (.aload_n 0, 1) := by decide +kernel
theorem dX7_lend_10 : decode cX7_lend 10 = .ok (.iload_n 2, 1) := by decide +kernel
theorem dX7_lend_11 : decode cX7_lend 11 = .ok (.invokevirtual 45, 3) := by decide +kernel
theorem dX7_lend_14 : decode cX7_lend 14 = .ok (.ifCond .ne 7, 3) := by decide +kernel
theorem dX7_lend_17 : decode cX7_lend 17 = .ok (.iconst 1, 1) := by decide +kernel
theorem dX7_lend_18 : decode cX7_lend 18 = .ok (.goto 38, 3) := by decide +kernel
theorem dX7_lend_21 : decode cX7_lend 21 = .ok (.iload_n 1, 1) := by decide +kernel
theorem dX7_lend_22 : decode cX7_lend 22 = .ok (.iload_n 2, 1) := by decide +kernel
theorem dX7_lend_23 : decode cX7_lend 23 = .ok (.if_icmp .eq 14, 3) := by decide +kernel
theorem dX7_lend_26 : decode cX7_lend 26 = .ok (.iload_n 3, 1) := by decide +kernel
theorem dX7_lend_27 : decode cX7_lend 27 = .ok (.iconst 1, 1) := by decide +kernel
theorem dX7_lend_28 : decode cX7_lend 28 = .ok (.sipush 200, 3) := by decide +kernel
theorem dX7_lend_31 : decode cX7_lend 31 = .ok (.invokestatic 41, 3) := by decide +kernel
theorem dX7_lend_34 : decode cX7_lend 34 = .ok (.ifCond .ne 7, 3) := by decide +kernel
theorem dX7_lend_37 : decode cX7_lend 37 = .ok (.iconst 2, 1) := by decide +kernel
theorem dX7_lend_38 : decode cX7_lend 38 = .ok (.goto 18, 3) := by decide +kernel
theorem dX7_lend_41 : decode cX7_lend 41 = .ok (.aload_n 0, 1) := by decide +kernel
theorem dX7_lend_42 : decode cX7_lend 42 = .ok (.iload_n 1, 1) := by decide +kernel
theorem dX7_lend_43 : decode cX7_lend 43 = .ok (.iload_n 2, 1) := by decide +kernel
theorem dX7_lend_44 : decode cX7_lend 44 = .ok (.iload_n 3, 1) := by decide +kernel
theorem dX7_lend_45 : decode cX7_lend 45 = .ok (.invokevirtual 116, 3) := by decide +kernel
theorem dX7_lend_48 : decode cX7_lend 48 = .ok (.ifCond .ne 7, 3) := by decide +kernel
theorem dX7_lend_51 : decode cX7_lend 51 = .ok (.iconst 3, 1) := by decide +kernel
theorem dX7_lend_52 : decode cX7_lend 52 = .ok (.goto 4, 3) := by decide +kernel
theorem dX7_lend_55 : decode cX7_lend 55 = .ok (.iconst 0, 1) := by decide +kernel
theorem dX7_lend_56 : decode cX7_lend 56 = .ok (.putfield 37, 3) := by decide +kernel
theorem dX7_lend_59 : decode cX7_lend 59 = .ok (.aload_n 0, 1) := by decide +kernel
theorem dX7_lend_60 : decode cX7_lend 60 = .ok (.getfield 37, 3) := by decide +kernel
theorem dX7_lend_63 : decode cX7_lend 63 = .ok (.ifCond .eq 5, 3) := by decide +kernel
theorem dX7_lend_66 : decode cX7_lend 66 = .ok (.iconst 0, 1) := by decide +kernel
theorem dX7_lend_67 : decode cX7_lend 67 = .ok (.ireturn, 1) := by decide +kernel
theorem dX7_lend_68 : decode cX7_lend 68 = .ok (.aload_n 0, 1) := by decide +kernel
theorem dX7_lend_69 : decode cX7_lend 69 = .ok (.invokevirtual 64, 3) := by decide +kernel
theorem dX7_lend_72 : decode cX7_lend 72 = .ok (.aload_n 0, 1) := by decide +kernel
theorem dX7_lend_73 : decode cX7_lend 73 = .ok (.iload_n 1, 1) := by decide +kernel
theorem dX7_lend_74 : decode cX7_lend 74 = .ok (.iload_n 2, 1) := by decide +kernel
theorem dX7_lend_75 : decode cX7_lend 75 = .ok (.iload_n 3, 1) := by decide +kernel
theorem dX7_lend_76 : decode cX7_lend 76 = .ok (.invokevirtual 119, 3) := by decide +kernel
theorem dX7_lend_79 : decode cX7_lend 79 = .ok (.aload_n 0, 1) := by decide +kernel
theorem dX7_lend_80 : decode cX7_lend 80 = .ok (.getfield 7, 3) := by decide +kernel
theorem dX7_lend_83 : decode cX7_lend 83 = .ok (.iload_n 2, 1) := by decide +kernel
theorem dX7_lend_84 : decode cX7_lend 84 = .ok (.iload_n 1, 1) := by decide +kernel
theorem dX7_lend_85 : decode cX7_lend 85 = .ok (.invokestatic 123, 3) := by decide +kernel
theorem dX7_lend_88 : decode cX7_lend 88 = .ok (.dup2, 1) := by decide +kernel
theorem dX7_lend_89 : decode cX7_lend 89 = .ok (.iaload, 1) := by decide +kernel
theorem dX7_lend_90 : decode cX7_lend 90 = .ok (.iload_n 3, 1) := by decide +kernel
theorem dX7_lend_91 : decode cX7_lend 91 = .ok (.iadd, 1) := by decide +kernel
theorem dX7_lend_92 : decode cX7_lend 92 = .ok (.iastore, 1) := by decide +kernel
theorem dX7_lend_93 : decode cX7_lend 93 = .ok (.aload_n 0, 1) := by decide +kernel
theorem dX7_lend_94 : decode cX7_lend 94 = .ok (.getfield 7, 3) := by decide +kernel
theorem dX7_lend_97 : decode cX7_lend 97 = .ok (.sipush 424, 3) := by decide +kernel
theorem dX7_lend_100 : decode cX7_lend 100 = .ok (.dup2, 1) := by decide +kernel
theorem dX7_lend_101 : decode cX7_lend 101 = .ok (.iaload, 1) := by decide +kernel
theorem dX7_lend_102 : decode cX7_lend 102 = .ok (.iload_n 3, 1) := by decide +kernel
theorem dX7_lend_103 : decode cX7_lend 103 = .ok (.iadd, 1) := by decide +kernel
theorem dX7_lend_104 : decode cX7_lend 104 = .ok (.iastore, 1) := by decide +kernel
theorem dX7_lend_105 : decode cX7_lend 105 = .ok (.aload_n 0, 1) := by decide +kernel
theorem dX7_lend_106 : decode cX7_lend 106 = .ok (.getfield 7, 3) := by decide +kernel
theorem dX7_lend_109 : decode cX7_lend 109 = .ok (.iload_n 2, 1) := by decide +kernel
theorem dX7_lend_110 : decode cX7_lend 110 = .ok (.iload_n 1, 1) := by decide +kernel
theorem dX7_lend_111 : decode cX7_lend 111 = .ok (.invokestatic 123, 3) := by decide +kernel
theorem dX7_lend_114 : decode cX7_lend 114 = .ok (.iaload, 1) := by decide +kernel
theorem dX7_lend_115 : decode cX7_lend 115 = .ok (.ireturn, 1) := by decide +kernel
theorem dX7_repay_0 : decode cX7_repay 0 = .ok (.aload_n 0, 1) := by decide +kernel
theorem dX7_repay_1 : decode cX7_repay 1 = .ok (.aload_n 0, 1) := by decide +kernel
theorem dX7_repay_2 : decode cX7_repay 2 = .ok (.iload_n 1, 1) := by decide +kernel
theorem dX7_repay_3 : decode cX7_repay 3 = .ok (.invokevirtual 45, 3) := by decide +kernel
theorem dX7_repay_6 : decode cX7_repay 6 = .ok (.ifCond .eq 11, 3) := by decide +kernel
theorem dX7_repay_9 : decode cX7_repay 9 = .ok (.aload_n 0, 1) := by decide +kernel
theorem dX7_repay_10 : decode cX7_repay 10 = .ok (.iload_n 2, 1) := by decide +kernel
theorem dX7_repay_11 : decode cX7_repay 11 = .ok (.invokevirtual 45, 3) := by decide +kernel
theorem dX7_repay_14 : decode cX7_repay 14 = .ok (.ifCond .ne 7, 3) := by decide +kernel
theorem dX7_repay_17 : decode cX7_repay 17 = .ok (.iconst 1, 1) := by decide +kernel
theorem dX7_repay_18 : decode cX7_repay 18 = .ok (.goto 52, 3) := by decide +kernel
theorem dX7_repay_21 : decode cX7_repay 21 = .ok (.iload_n 1, 1) := by decide +kernel
theorem dX7_repay_22 : decode cX7_repay 22 = .ok (.iload_n 2, 1) := by decide +kernel
theorem dX7_repay_23 : decode cX7_repay 23 = .ok (.if_icmp .eq 14, 3) := by decide +kernel
theorem dX7_repay_26 : decode cX7_repay 26 = .ok (.iload_n 3, 1) := by decide +kernel
theorem dX7_repay_27 : decode cX7_repay 27 = .ok (.iconst 1, 1) := by decide +kernel
theorem dX7_repay_28 : decode cX7_repay 28 = .ok (.sipush 200, 3) := by decide +kernel
theorem dX7_repay_31 : decode cX7_repay 31 = .ok (.invokestatic 41, 3) := by decide +kernel
theorem dX7_repay_34 : decode cX7_repay 34 = .ok (.ifCond .ne 7, 3) := by decide +kernel
theorem dX7_repay_37 : decode cX7_repay 37 = .ok (.iconst 2, 1) := by decide +kernel
theorem dX7_repay_38 : decode cX7_repay 38 = .ok (.goto 32, 3) := by decide +kernel
theorem dX7_repay_41 : decode cX7_repay 41 = .ok (.aload_n 0, 1) := by decide +kernel
theorem dX7_repay_42 : decode cX7_repay 42 = .ok (.getfield 7, 3) := by decide +kernel
theorem dX7_repay_45 : decode cX7_repay 45 = .ok (.iload_n 1, 1) := by decide +kernel
theorem dX7_repay_46 : decode cX7_repay 46 = .ok (.iload_n 2, 1) := by decide +kernel
theorem dX7_repay_47 : decode cX7_repay 47 = .ok (.invokestatic 123, 3) := by decide +kernel
theorem dX7_repay_50 : decode cX7_repay 50 = .ok (.iaload, 1) := by decide +kernel
theorem dX7_repay_51 : decode cX7_repay 51 = .ok (.iload_n 3, 1) := by decide +kernel
theorem dX7_repay_52 : decode cX7_repay 52 = .ok (.if_icmp .lt 13, 3) := by decide +kernel
theorem dX7_repay_55 : decode cX7_repay 55 = .ok (.aload_n 0, 1) := by decide +kernel
theorem dX7_repay_56 : decode cX7_repay 56 = .ok (.iload_n 1, 1) := by decide +kernel
theorem dX7_repay_57 : decode cX7_repay 57 = .ok (.iload_n 2, 1) := by decide +kernel
theorem dX7_repay_58 : decode cX7_repay 58 = .ok (.iload_n 3, 1) := by decide +kernel
theorem dX7_repay_59 : decode cX7_repay 59 = .ok (.invokevirtual 116, 3) := by decide +kernel
theorem dX7_repay_62 : decode cX7_repay 62 = .ok (.ifCond .ne 7, 3) := by decide +kernel
theorem dX7_repay_65 : decode cX7_repay 65 = .ok (.iconst 3, 1) := by decide +kernel
theorem dX7_repay_66 : decode cX7_repay 66 = .ok (.goto 4, 3) := by decide +kernel
theorem dX7_repay_69 : decode cX7_repay 69 = .ok (.iconst 0, 1) := by decide +kernel
theorem dX7_repay_70 : decode cX7_repay 70 = .ok (.putfield 37, 3) := by decide +kernel
theorem dX7_repay_73 : decode cX7_repay 73 = .ok (.aload_n 0, 1) := by decide +kernel
theorem dX7_repay_74 : decode cX7_repay 74 = .ok (.getfield 37, 3) := by decide +kernel
theorem dX7_repay_77 : decode cX7_repay 77 = .ok (.ifCond .eq 5, 3) := by decide +kernel
theorem dX7_repay_80 : decode cX7_repay 80 = .ok (.iconst 0, 1) := by decide +kernel
theorem dX7_repay_81 : decode cX7_repay 81 = .ok (.ireturn, 1) := by decide +kernel
theorem dX7_repay_82 : decode cX7_repay 82 = .ok (.aload_n 0, 1) := by decide +kernel
theorem dX7_repay_83 : decode cX7_repay 83 = .ok (.invokevirtual 64, 3) := by decide +kernel
theorem dX7_repay_86 : decode cX7_repay 86 = .ok (.aload_n 0, 1) := by decide +kernel
theorem dX7_repay_87 : decode cX7_repay 87 = .ok (.iload_n 1, 1) := by decide +kernel
theorem dX7_repay_88 : decode cX7_repay 88 = .ok (.iload_n 2, 1) := by decide +kernel
theorem dX7_repay_89 : decode cX7_repay 89 = .ok (.iload_n 3, 1) := by decide +kernel
theorem dX7_repay_90 : decode cX7_repay 90 = .ok (.invokevirtual 119, 3) := by decide +kernel
theorem dX7_repay_93 : decode cX7_repay 93 = .ok (.aload_n 0, 1) := by decide +kernel
theorem dX7_repay_94 : decode cX7_repay 94 = .ok (.getfield 7, 3) := by decide +kernel
theorem dX7_repay_97 : decode cX7_repay 97 = .ok (.iload_n 1, 1) := by decide +kernel
theorem dX7_repay_98 : decode cX7_repay 98 = .ok (.iload_n 2, 1) := by decide +kernel
theorem dX7_repay_99 : decode cX7_repay 99 = .ok (.invokestatic 123, 3) := by decide +kernel
theorem dX7_repay_102 : decode cX7_repay 102 = .ok (.dup2, 1) := by decide +kernel
theorem dX7_repay_103 : decode cX7_repay 103 = .ok (.iaload, 1) := by decide +kernel
theorem dX7_repay_104 : decode cX7_repay 104 = .ok (.iload_n 3, 1) := by decide +kernel
theorem dX7_repay_105 : decode cX7_repay 105 = .ok (.isub, 1) := by decide +kernel
theorem dX7_repay_106 : decode cX7_repay 106 = .ok (.iastore, 1) := by decide +kernel
theorem dX7_repay_107 : decode cX7_repay 107 = .ok (.aload_n 0, 1) := by decide +kernel
theorem dX7_repay_108 : decode cX7_repay 108 = .ok (.getfield 7, 3) := by decide +kernel
theorem dX7_repay_111 : decode cX7_repay 111 = .ok (.sipush 425, 3) := by decide +kernel
theorem dX7_repay_114 : decode cX7_repay 114 = .ok (.dup2, 1) := by decide +kernel
theorem dX7_repay_115 : decode cX7_repay 115 = .ok (.iaload, 1) := by decide +kernel
theorem dX7_repay_116 : decode cX7_repay 116 = .ok (.iload_n 3, 1) := by decide +kernel
theorem dX7_repay_117 : decode cX7_repay 117 = .ok (.iadd, 1) := by decide +kernel
theorem dX7_repay_118 : decode cX7_repay 118 = .ok (.iastore, 1) := by decide +kernel
theorem dX7_repay_119 : decode cX7_repay 119 = .ok (.aload_n 0, 1) := by decide +kernel
theorem dX7_repay_120 : decode cX7_repay 120 = .ok (.getfield 7, 3) := by decide +kernel
theorem dX7_repay_123 : decode cX7_repay 123 = .ok (.iload_n 1, 1) := by decide +kernel
theorem dX7_repay_124 : decode cX7_repay 124 = .ok (.iload_n 2, 1) := by decide +kernel
theorem dX7_repay_125 : decode cX7_repay 125 = .ok (.invokestatic 123, 3) := by decide +kernel
theorem dX7_repay_128 : decode cX7_repay 128 = .ok (.iaload, 1) := by decide +kernel
theorem dX7_repay_129 : decode cX7_repay 129 = .ok (.ireturn, 1) := by decide +kernel
theorem dX7_debt_0 : decode cX7_debt 0 = .ok (.aload_n 0, 1) := by decide +kernel
theorem dX7_debt_1 : decode cX7_debt 1 = .ok (.aload_n 0, 1) := by decide +kernel
theorem dX7_debt_2 : decode cX7_debt 2 = .ok (.iload_n 1, 1) := by decide +kernel
theorem dX7_debt_3 : decode cX7_debt 3 = .ok (.invokevirtual 45, 3) := by decide +kernel
theorem dX7_debt_6 : decode cX7_debt 6 = .ok (.ifCond .eq 15, 3) := by decide +kernel
theorem dX7_debt_9 : decode cX7_debt 9 = .ok (.aload_n 0, 1) := by decide +kernel
theorem dX7_debt_10 : decode cX7_debt 10 = .ok (.iload_n 2, 1) := by decide +kernel
theorem dX7_debt_11 : decode cX7_debt 11 = .ok (.invokevirtual 45, 3) := by decide +kernel
theorem dX7_debt_14 : decode cX7_debt 14 = .ok (.ifCond .eq 7, 3) := by decide +kernel
theorem dX7_debt_17 : decode cX7_debt 17 = .ok (.iconst 0, 1) := by decide +kernel
theorem dX7_debt_18 : decode cX7_debt 18 = .ok (.goto 4, 3) := by decide +kernel
theorem dX7_debt_21 : decode cX7_debt 21 = .ok (.iconst 1, 1) := by decide +kernel
theorem dX7_debt_22 : decode cX7_debt 22 = .ok (.putfield 37, 3) := by decide +kernel
theorem dX7_debt_25 : decode cX7_debt 25 = .ok (.aload_n 0, 1) := by decide +kernel
theorem dX7_debt_26 : decode cX7_debt 26 = .ok (.getfield 37, 3) := by decide +kernel
theorem dX7_debt_29 : decode cX7_debt 29 = .ok (.ifCond .ne 16, 3) := by decide +kernel
theorem dX7_debt_32 : decode cX7_debt 32 = .ok (.aload_n 0, 1) := by decide +kernel
theorem dX7_debt_33 : decode cX7_debt 33 = .ok (.getfield 7, 3) := by decide +kernel
theorem dX7_debt_36 : decode cX7_debt 36 = .ok (.iload_n 1, 1) := by decide +kernel
theorem dX7_debt_37 : decode cX7_debt 37 = .ok (.iload_n 2, 1) := by decide +kernel
theorem dX7_debt_38 : decode cX7_debt 38 = .ok (.invokestatic 123, 3) := by decide +kernel
theorem dX7_debt_41 : decode cX7_debt 41 = .ok (.iaload, 1) := by decide +kernel
theorem dX7_debt_42 : decode cX7_debt 42 = .ok (.goto 4, 3) := by decide +kernel
theorem dX7_debt_45 : decode cX7_debt 45 = .ok (.iconst 0, 1) := by decide +kernel
theorem dX7_debt_46 : decode cX7_debt 46 = .ok (.ireturn, 1) := by decide +kernel
theorem dX7_isNew_0 : decode cX7_isNew 0 = .ok (.iload_n 1, 1) := by decide +kernel
theorem dX7_isNew_1 : decode cX7_isNew 1 = .ok (.aload_n 0, 1) := by decide +kernel
theorem dX7_isNew_2 : decode cX7_isNew 2 = .ok (.getfield 22, 3) := by decide +kernel
theorem dX7_isNew_5 : decode cX7_isNew 5 = .ok (.iconst 0, 1) := by decide +kernel
theorem dX7_isNew_6 : decode cX7_isNew 6 = .ok (.iaload, 1) := by decide +kernel
theorem dX7_isNew_7 : decode cX7_isNew 7 = .ok (.if_icmp .le 7, 3) := by decide +kernel
theorem dX7_isNew_10 : decode cX7_isNew 10 = .ok (.iconst 1, 1) := by decide +kernel
theorem dX7_isNew_11 : decode cX7_isNew 11 = .ok (.goto 4, 3) := by decide +kernel
theorem dX7_isNew_14 : decode cX7_isNew 14 = .ok (.iconst 0, 1) := by decide +kernel
theorem dX7_isNew_15 : decode cX7_isNew 15 = .ok (.istore_n 3, 1) := by decide +kernel
theorem dX7_isNew_16 : decode cX7_isNew 16 = .ok (.iconst 0, 1) := by decide +kernel
theorem dX7_isNew_17 : decode cX7_isNew 17 = .ok (.istore 4, 2) := by decide +kernel
theorem dX7_isNew_19 : decode cX7_isNew 19 = .ok (.iload 4, 2) := by decide +kernel
theorem dX7_isNew_21 : decode cX7_isNew 21 = .ok (.iload_n 2, 1) := by decide +kernel
theorem dX7_isNew_22 : decode cX7_isNew 22 = .ok (.if_icmp .ge 30, 3) := by decide +kernel
theorem dX7_isNew_25 : decode cX7_isNew 25 = .ok (.iload_n 3, 1) := by decide +kernel
theorem dX7_isNew_26 : decode cX7_isNew 26 = .ok (.ifCond .eq 18, 3) := by decide +kernel
theorem dX7_isNew_29 : decode cX7_isNew 29 = .ok (.aload_n 0, 1) := by decide +kernel
theorem dX7_isNew_30 : decode cX7_isNew 30 = .ok (.getfield 22, 3) := by decide +kernel
theorem dX7_isNew_33 : decode cX7_isNew 33 = .ok (.iload 4, 2) := by decide +kernel
theorem dX7_isNew_35 : decode cX7_isNew 35 = .ok (.iaload, 1) := by decide +kernel
theorem dX7_isNew_36 : decode cX7_isNew 36 = .ok (.iload_n 1, 1) := by decide +kernel
theorem dX7_isNew_37 : decode cX7_isNew 37 = .ok (.if_icmp .eq 7, 3) := by decide +kernel
theorem dX7_isNew_40 : decode cX7_isNew 40 = .ok (.iconst 1, 1) := by decide +kernel
theorem dX7_isNew_41 : decode cX7_isNew 41 = .ok (.goto 4, 3) := by decide +kernel
theorem dX7_isNew_44 : decode cX7_isNew 44 = .ok (.iconst 0, 1) := by decide +kernel
theorem dX7_isNew_45 : decode cX7_isNew 45 = .ok (.istore_n 3, 1) := by decide +kernel
theorem dX7_isNew_46 : decode cX7_isNew 46 = .ok (.iinc 4 1, 3) := by decide +kernel
theorem dX7_isNew_49 : decode cX7_isNew 49 = .ok (.goto (-30), 3) := by decide +kernel
theorem dX7_isNew_52 : decode cX7_isNew 52 = .ok (.iload_n 3, 1) := by decide +kernel
theorem dX7_isNew_53 : decode cX7_isNew 53 = .ok (.ireturn, 1) := by decide +kernel
theorem dX7_nextAt_0 : decode cX7_nextAt 0 = .ok (.aload_n 0, 1) := by decide +kernel
theorem dX7_nextAt_1 : decode cX7_nextAt 1 = .ok (.getfield 22, 3) := by decide +kernel
theorem dX7_nextAt_4 : decode cX7_nextAt 4 = .ok (.iload_n 1, 1) := by decide +kernel
theorem dX7_nextAt_5 : decode cX7_nextAt 5 = .ok (.iaload, 1) := by decide +kernel
theorem dX7_nextAt_6 : decode cX7_nextAt 6 = .ok (.iconst 1, 1) := by decide +kernel
theorem dX7_nextAt_7 : decode cX7_nextAt 7 = .ok (.iadd, 1) := by decide +kernel
theorem dX7_nextAt_8 : decode cX7_nextAt 8 = .ok (.istore_n 2, 1) := by decide +kernel
theorem dX7_nextAt_9 : decode cX7_nextAt 9 = .ok (.iload_n 2, 1) := by decide +kernel
theorem dX7_nextAt_10 : decode cX7_nextAt 10 = .ok (.aload_n 0, 1) := by decide +kernel
theorem dX7_nextAt_11 : decode cX7_nextAt 11 = .ok (.getfield 7, 3) := by decide +kernel
theorem dX7_nextAt_14 : decode cX7_nextAt 14 = .ok (.sipush 423, 3) := by decide +kernel
theorem dX7_nextAt_17 : decode cX7_nextAt 17 = .ok (.iaload, 1) := by decide +kernel
theorem dX7_nextAt_18 : decode cX7_nextAt 18 = .ok (.if_icmp .ge 40, 3) := by decide +kernel
theorem dX7_nextAt_21 : decode cX7_nextAt 21 = .ok (.aload_n 0, 1) := by decide +kernel
theorem dX7_nextAt_22 : decode cX7_nextAt 22 = .ok (.getfield 7, 3) := by decide +kernel
theorem dX7_nextAt_25 : decode cX7_nextAt 25 = .ok (.aload_n 0, 1) := by decide +kernel
theorem dX7_nextAt_26 : decode cX7_nextAt 26 = .ok (.getfield 22, 3) := by decide +kernel
theorem dX7_nextAt_29 : decode cX7_nextAt 29 = .ok (.iload_n 1, 1) := by decide +kernel
theorem dX7_nextAt_30 : decode cX7_nextAt 30 = .ok (.iconst 1, 1) := by decide +kernel
theorem dX7_nextAt_31 : decode cX7_nextAt 31 = .ok (.isub, 1) := by decide +kernel
theorem dX7_nextAt_32 : decode cX7_nextAt 32 = .ok (.iaload, 1) := by decide +kernel
theorem dX7_nextAt_33 : decode cX7_nextAt 33 = .ok (.iload_n 2, 1) := by decide +kernel
theorem dX7_nextAt_34 : decode cX7_nextAt 34 = .ok (.invokestatic 123, 3) := by decide +kernel
theorem dX7_nextAt_37 : decode cX7_nextAt 37 = .ok (.iaload, 1) := by decide +kernel
theorem dX7_nextAt_38 : decode cX7_nextAt 38 = .ok (.ifCond .le 14, 3) := by decide +kernel
theorem dX7_nextAt_41 : decode cX7_nextAt 41 = .ok (.aload_n 0, 1) := by decide +kernel
theorem dX7_nextAt_42 : decode cX7_nextAt 42 = .ok (.iload_n 2, 1) := by decide +kernel
theorem dX7_nextAt_43 : decode cX7_nextAt 43 = .ok (.iload_n 1, 1) := by decide +kernel
theorem dX7_nextAt_44 : decode cX7_nextAt 44 = .ok (.invokevirtual 126, 3) := by decide +kernel
theorem dX7_nextAt_47 : decode cX7_nextAt 47 = .ok (.ifCond .eq 5, 3) := by decide +kernel
theorem dX7_nextAt_50 : decode cX7_nextAt 50 = .ok (.iload_n 2, 1) := by decide +kernel
theorem dX7_nextAt_51 : decode cX7_nextAt 51 = .ok (.ireturn, 1) := by decide +kernel
theorem dX7_nextAt_52 : decode cX7_nextAt 52 = .ok (.iinc 2 1, 3) := by decide +kernel
theorem dX7_nextAt_55 : decode cX7_nextAt 55 = .ok (.goto (-46), 3) := by decide +kernel
theorem dX7_nextAt_58 : decode cX7_nextAt 58 = .ok (.iconst (-1), 1) := by decide +kernel
theorem dX7_nextAt_59 : decode cX7_nextAt 59 = .ok (.ireturn, 1) := by decide +kernel
theorem dX7_closes_0 : decode cX7_closes 0 = .ok (.iconst 1, 1) := by decide +kernel
theorem dX7_closes_1 : decode cX7_closes 1 = .ok (.istore_n 2, 1) := by decide +kernel
theorem dX7_closes_2 : decode cX7_closes 2 = .ok (.aload_n 0, 1) := by decide +kernel
theorem dX7_closes_3 : decode cX7_closes 3 = .ok (.getfield 22, 3) := by decide +kernel
theorem dX7_closes_6 : decode cX7_closes 6 = .ok (.iconst 1, 1) := by decide +kernel
theorem dX7_closes_7 : decode cX7_closes 7 = .ok (.iconst (-1), 1) := by decide +kernel
theorem dX7_closes_8 : decode cX7_closes 8 = .ok (.iastore, 1) := by decide +kernel
theorem dX7_closes_9 : decode cX7_closes 9 = .ok (.iload_n 2, 1) := by decide +kernel
theorem dX7_closes_10 : decode cX7_closes 10 = .ok (.ifCond .le 75, 3) := by decide +kernel
theorem dX7_closes_13 : decode cX7_closes 13 = .ok (.aload_n 0, 1) := by decide +kernel
theorem dX7_closes_14 : decode cX7_closes 14 = .ok (.getfield 22, 3) := by decide +kernel
theorem dX7_closes_17 : decode cX7_closes 17 = .ok (.iload_n 2, 1) := by decide +kernel
theorem dX7_closes_18 : decode cX7_closes 18 = .ok (.aload_n 0, 1) := by decide +kernel
theorem dX7_closes_19 : decode cX7_closes 19 = .ok (.iload_n 2, 1) := by decide +kernel
theorem dX7_closes_20 : decode cX7_closes 20 = .ok (.invokevirtual 129, 3) := by decide +kernel
theorem dX7_closes_23 : decode cX7_closes 23 = .ok (.iastore, 1) := by decide +kernel
theorem dX7_closes_24 : decode cX7_closes 24 = .ok (.aload_n 0, 1) := by decide +kernel
theorem dX7_closes_25 : decode cX7_closes 25 = .ok (.getfield 22, 3) := by decide +kernel
theorem dX7_closes_28 : decode cX7_closes 28 = .ok (.iload_n 2, 1) := by decide +kernel
theorem dX7_closes_29 : decode cX7_closes 29 = .ok (.iaload, 1) := by decide +kernel
theorem dX7_closes_30 : decode cX7_closes 30 = .ok (.iconst (-1), 1) := by decide +kernel
theorem dX7_closes_31 : decode cX7_closes 31 = .ok (.if_icmp .ne 9, 3) := by decide +kernel
theorem dX7_closes_34 : decode cX7_closes 34 = .ok (.iinc 2 (-1), 3) := by decide +kernel
theorem dX7_closes_37 : decode cX7_closes 37 = .ok (.goto (-28), 3) := by decide +kernel
theorem dX7_closes_40 : decode cX7_closes 40 = .ok (.iload_n 2, 1) := by decide +kernel
theorem dX7_closes_41 : decode cX7_closes 41 = .ok (.iconst 1, 1) := by decide +kernel
theorem dX7_closes_42 : decode cX7_closes 42 = .ok (.iadd, 1) := by decide +kernel
theorem dX7_closes_43 : decode cX7_closes 43 = .ok (.iload_n 1, 1) := by decide +kernel
theorem dX7_closes_44 : decode cX7_closes 44 = .ok (.if_icmp .ge 16, 3) := by decide +kernel
theorem dX7_closes_47 : decode cX7_closes 47 = .ok (.iinc 2 1, 3) := by decide +kernel
theorem dX7_closes_50 : decode cX7_closes 50 = .ok (.aload_n 0, 1) := by decide +kernel
theorem dX7_closes_51 : decode cX7_closes 51 = .ok (.getfield 22, 3) := by decide +kernel
theorem dX7_closes_54 : decode cX7_closes 54 = .ok (.iload_n 2, 1) := by decide +kernel
theorem dX7_closes_55 : decode cX7_closes 55 = .ok (.iconst (-1), 1) := by decide +kernel
theorem dX7_closes_56 : decode cX7_closes 56 = .ok (.iastore, 1) := by decide +kernel
theorem dX7_closes_57 : decode cX7_closes 57 = .ok (.goto (-48), 3) := by decide +kernel
theorem dX7_closes_60 : decode cX7_closes 60 = .ok (.aload_n 0, 1) := by decide +kernel
theorem dX7_closes_61 : decode cX7_closes 61 = .ok (.getfield 7, 3) := by decide +kernel
theorem dX7_closes_64 : decode cX7_closes 64 = .ok (.aload_n 0, 1) := by decide +kernel
theorem dX7_closes_65 : decode cX7_closes 65 = .ok (.getfield 22, 3) := by decide +kernel
theorem dX7_closes_68 : decode cX7_closes 68 = .ok (.iload_n 2, 1) := by decide +kernel
theorem dX7_closes_69 : decode cX7_closes 69 = .ok (.iaload, 1) := by decide +kernel
theorem dX7_closes_70 : decode cX7_closes 70 = .ok (.aload_n 0, 1) := by decide +kernel
theorem dX7_closes_71 : decode cX7_closes 71 = .ok (.getfield 22, 3) := by decide +kernel
theorem dX7_closes_74 : decode cX7_closes 74 = .ok (.iconst 0, 1) := by decide +kernel
theorem dX7_closes_75 : decode cX7_closes 75 = .ok (.iaload, 1) := by decide +kernel
theorem dX7_closes_76 : decode cX7_closes 76 = .ok (.invokestatic 123, 3) := by decide +kernel
theorem dX7_closes_79 : decode cX7_closes 79 = .ok (.iaload, 1) := by decide +kernel
theorem dX7_closes_80 : decode cX7_closes 80 = .ok (.ifCond .le (-71), 3) := by decide +kernel
theorem dX7_closes_83 : decode cX7_closes 83 = .ok (.iconst 1, 1) := by decide +kernel
theorem dX7_closes_84 : decode cX7_closes 84 = .ok (.ireturn, 1) := by decide +kernel
theorem dX7_closes_85 : decode cX7_closes 85 = .ok (.iconst 0, 1) := by decide +kernel
theorem dX7_closes_86 : decode cX7_closes 86 = .ok (.ireturn, 1) := by decide +kernel
theorem dX7_findsRing_0 : decode cX7_findsRing 0 = .ok (.iconst 2, 1) := by decide +kernel
theorem dX7_findsRing_1 : decode cX7_findsRing 1 = .ok (.istore_n 1, 1) := by decide +kernel
theorem dX7_findsRing_2 : decode cX7_findsRing 2 = .ok (.iload_n 1, 1) := by decide +kernel
theorem dX7_findsRing_3 : decode cX7_findsRing 3 = .ok (.aload_n 0, 1) := by decide +kernel
theorem dX7_findsRing_4 : decode cX7_findsRing 4 = .ok (.getfield 7, 3) := by decide +kernel
theorem dX7_findsRing_7 : decode cX7_findsRing 7 = .ok (.sipush 423, 3) := by decide +kernel
theorem dX7_findsRing_10 : decode cX7_findsRing 10 = .ok (.iaload, 1) := by decide +kernel
theorem dX7_findsRing_11 : decode cX7_findsRing 11 = .ok (.if_icmp .gt 51, 3) := by decide +kernel
theorem dX7_findsRing_14 : decode cX7_findsRing 14 = .ok (.iconst 0, 1) := by decide +kernel
theorem dX7_findsRing_15 : decode cX7_findsRing 15 = .ok (.istore_n 2, 1) := by decide +kernel
theorem dX7_findsRing_16 : decode cX7_findsRing 16 = .ok (.iload_n 2, 1) := by decide +kernel
theorem dX7_findsRing_17 : decode cX7_findsRing 17 = .ok (.aload_n 0, 1) := by decide +kernel
theorem dX7_findsRing_18 : decode cX7_findsRing 18 = .ok (.getfield 7, 3) := by decide +kernel
theorem dX7_findsRing_21 : decode cX7_findsRing 21 = .ok (.sipush 423, 3) := by decide +kernel
theorem dX7_findsRing_24 : decode cX7_findsRing 24 = .ok (.iaload, 1) := by decide +kernel
theorem dX7_findsRing_25 : decode cX7_findsRing 25 = .ok (.if_icmp .ge 31, 3) := by decide +kernel
theorem dX7_findsRing_28 : decode cX7_findsRing 28 = .ok (.aload_n 0, 1) := by decide +kernel
theorem dX7_findsRing_29 : decode cX7_findsRing 29 = .ok (.getfield 22, 3) := by decide +kernel
theorem dX7_findsRing_32 : decode cX7_findsRing 32 = .ok (.iconst 0, 1) := by decide +kernel
theorem dX7_findsRing_33 : decode cX7_findsRing 33 = .ok (.iload_n 2, 1) := by decide +kernel
theorem dX7_findsRing_34 : decode cX7_findsRing 34 = .ok (.iastore, 1) := by decide +kernel
theorem dX7_findsRing_35 : decode cX7_findsRing 35 = .ok (.aload_n 0, 1) := by decide +kernel
theorem dX7_findsRing_36 : decode cX7_findsRing 36 = .ok (.iload_n 1, 1) := by decide +kernel
theorem dX7_findsRing_37 : decode cX7_findsRing 37 = .ok (.invokevirtual 132, 3) := by decide +kernel
theorem dX7_findsRing_40 : decode cX7_findsRing 40 = .ok (.ifCond .eq 10, 3) := by decide +kernel
theorem dX7_findsRing_43 : decode cX7_findsRing 43 = .ok (.aload_n 0, 1) := by decide +kernel
theorem dX7_findsRing_44 : decode cX7_findsRing 44 = .ok (.iload_n 1, 1) := by decide +kernel
theorem dX7_findsRing_45 : decode cX7_findsRing 45 = .ok (.putfield 135, 3) := by decide +kernel
theorem dX7_findsRing_48 : decode cX7_findsRing 48 = .ok (.iconst 1, 1) := by decide +kernel
theorem dX7_findsRing_49 : decode cX7_findsRing 49 = .ok (.ireturn, 1) := by decide +kernel
theorem dX7_findsRing_50 : decode cX7_findsRing 50 = .ok (.iinc 2 1, 3) := by decide +kernel
theorem dX7_findsRing_53 : decode cX7_findsRing 53 = .ok (.goto (-37), 3) := by decide +kernel
theorem dX7_findsRing_56 : decode cX7_findsRing 56 = .ok (.iinc 1 1, 3) := by decide +kernel
theorem dX7_findsRing_59 : decode cX7_findsRing 59 = .ok (.goto (-57), 3) := by decide +kernel
theorem dX7_findsRing_62 : decode cX7_findsRing 62 = .ok (.aload_n 0, 1) := by decide +kernel
theorem dX7_findsRing_63 : decode cX7_findsRing 63 = .ok (.iconst 0, 1) := by decide +kernel
theorem dX7_findsRing_64 : decode cX7_findsRing 64 = .ok (.putfield 135, 3) := by decide +kernel
theorem dX7_findsRing_67 : decode cX7_findsRing 67 = .ok (.iconst 0, 1) := by decide +kernel
theorem dX7_findsRing_68 : decode cX7_findsRing 68 = .ok (.ireturn, 1) := by decide +kernel
theorem dX7_leastOfRing_0 : decode cX7_leastOfRing 0 = .ok (.aload_n 0, 1) := by decide +kernel
theorem dX7_leastOfRing_1 : decode cX7_leastOfRing 1 = .ok (.getfield 7, 3) := by decide +kernel
theorem dX7_leastOfRing_4 : decode cX7_leastOfRing 4 = .ok (.aload_n 0, 1) := by decide +kernel
theorem dX7_leastOfRing_5 : decode cX7_leastOfRing 5 = .ok (.getfield 22, 3) := by decide +kernel
theorem dX7_leastOfRing_8 : decode cX7_leastOfRing 8 = .ok (.iconst 0, 1) := by decide +kernel
theorem dX7_leastOfRing_9 : decode cX7_leastOfRing 9 = .ok (.iaload, 1) := by decide +kernel
theorem dX7_leastOfRing_10 : decode cX7_leastOfRing 10 = .ok (.aload_n 0, 1) := by decide +kernel
theorem dX7_leastOfRing_11 : decode cX7_leastOfRing 11 = .ok (.getfield 22, 3) := by decide +kernel
theorem dX7_leastOfRing_14 : decode cX7_leastOfRing 14 = .ok (.iconst 1, 1) := by decide +kernel
theorem dX7_leastOfRing_15 : decode cX7_leastOfRing 15 = .ok (.iaload, 1) := by decide +kernel
theorem dX7_leastOfRing_16 : decode cX7_leastOfRing 16 = .ok (.invokestatic 123, 3) := by decide +kernel
theorem dX7_leastOfRing_19 : decode cX7_leastOfRing 19 = .ok (.iaload, 1) := by decide +kernel
theorem dX7_leastOfRing_20 : decode cX7_leastOfRing 20 = .ok (.istore_n 1, 1) := by decide +kernel
theorem dX7_leastOfRing_21 : decode cX7_leastOfRing 21 = .ok (.iconst 1, 1) := by decide +kernel
theorem dX7_leastOfRing_22 : decode cX7_leastOfRing 22 = .ok (.istore_n 2, 1) := by decide +kernel
theorem dX7_leastOfRing_23 : decode cX7_leastOfRing 23 = .ok (.iload_n 2, 1) := by decide +kernel
theorem dX7_leastOfRing_24 : decode cX7_leastOfRing 24 = .ok (.aload_n 0, 1) := by decide +kernel
theorem dX7_leastOfRing_25 : decode cX7_leastOfRing 25 = .ok (.getfield 135, 3) := by decide +kernel
theorem dX7_leastOfRing_28 : decode cX7_leastOfRing 28 = .ok (.if_icmp .ge 48, 3) := by decide +kernel
theorem dX7_leastOfRing_31 : decode cX7_leastOfRing 31 = .ok (.aload_n 0, 1) := by decide +kernel
theorem dX7_leastOfRing_32 : decode cX7_leastOfRing 32 = .ok (.getfield 7, 3) := by decide +kernel
theorem dX7_leastOfRing_35 : decode cX7_leastOfRing 35 = .ok (.aload_n 0, 1) := by decide +kernel
theorem dX7_leastOfRing_36 : decode cX7_leastOfRing 36 = .ok (.getfield 22, 3) := by decide +kernel
theorem dX7_leastOfRing_39 : decode cX7_leastOfRing 39 = .ok (.iload_n 2, 1) := by decide +kernel
theorem dX7_leastOfRing_40 : decode cX7_leastOfRing 40 = .ok (.iaload, 1) := by decide +kernel
theorem dX7_leastOfRing_41 : decode cX7_leastOfRing 41 = .ok (.aload_n 0, 1) := by decide +kernel
theorem dX7_leastOfRing_42 : decode cX7_leastOfRing 42 = .ok (.getfield 22, 3) := by decide +kernel
theorem dX7_leastOfRing_45 : decode cX7_leastOfRing 45 = .ok (.iload_n 2, 1) := by decide +kernel
theorem dX7_leastOfRing_46 : decode cX7_leastOfRing 46 = .ok (.iconst 1, 1) := by decide +kernel
theorem dX7_leastOfRing_47 : decode cX7_leastOfRing 47 = .ok (.iadd, 1) := by decide +kernel
theorem dX7_leastOfRing_48 : decode cX7_leastOfRing 48 = .ok (.aload_n 0, 1) := by decide +kernel
theorem dX7_leastOfRing_49 : decode cX7_leastOfRing 49 = .ok (.getfield 135, 3) := by decide +kernel
theorem dX7_leastOfRing_52 : decode cX7_leastOfRing 52 = .ok (.irem, 1) := by decide +kernel
theorem dX7_leastOfRing_53 : decode cX7_leastOfRing 53 = .ok (.iaload, 1) := by decide +kernel
theorem dX7_leastOfRing_54 : decode cX7_leastOfRing 54 = .ok (.invokestatic 123, 3) := by decide +kernel
theorem dX7_leastOfRing_57 : decode cX7_leastOfRing 57 = .ok (.iaload, 1) := by decide +kernel
theorem dX7_leastOfRing_58 : decode cX7_leastOfRing 58 = .ok (.istore_n 3, 1) := by decide +kernel
theorem dX7_leastOfRing_59 : decode cX7_leastOfRing 59 = .ok (.iload_n 3, 1) := by decide +kernel
theorem dX7_leastOfRing_60 : decode cX7_leastOfRing 60 = .ok (.iload_n 1, 1) := by decide +kernel
theorem dX7_leastOfRing_61 : decode cX7_leastOfRing 61 = .ok (.if_icmp .ge 7, 3) := by decide +kernel
theorem dX7_leastOfRing_64 : decode cX7_leastOfRing 64 = .ok (.iload_n 3, 1) := by decide +kernel
theorem dX7_leastOfRing_65 : decode cX7_leastOfRing 65 = .ok (.goto 4, 3) := by decide +kernel
theorem dX7_leastOfRing_68 : decode cX7_leastOfRing 68 = .ok (.iload_n 1, 1) := by decide +kernel
theorem dX7_leastOfRing_69 : decode cX7_leastOfRing 69 = .ok (.istore_n 1, 1) := by decide +kernel
theorem dX7_leastOfRing_70 : decode cX7_leastOfRing 70 = .ok (.iinc 2 1, 3) := by decide +kernel
theorem dX7_leastOfRing_73 : decode cX7_leastOfRing 73 = .ok (.goto (-50), 3) := by decide +kernel
theorem dX7_leastOfRing_76 : decode cX7_leastOfRing 76 = .ok (.iload_n 1, 1) := by decide +kernel
theorem dX7_leastOfRing_77 : decode cX7_leastOfRing 77 = .ok (.ireturn, 1) := by decide +kernel
theorem dX7_settle_0 : decode cX7_settle 0 = .ok (.aload_n 0, 1) := by decide +kernel
theorem dX7_settle_1 : decode cX7_settle 1 = .ok (.iconst 0, 1) := by decide +kernel
theorem dX7_settle_2 : decode cX7_settle 2 = .ok (.putfield 37, 3) := by decide +kernel
theorem dX7_settle_5 : decode cX7_settle 5 = .ok (.aload_n 0, 1) := by decide +kernel
theorem dX7_settle_6 : decode cX7_settle 6 = .ok (.invokevirtual 64, 3) := by decide +kernel
theorem dX7_settle_9 : decode cX7_settle 9 = .ok (.iconst 0, 1) := by decide +kernel
theorem dX7_settle_10 : decode cX7_settle 10 = .ok (.istore_n 1, 1) := by decide +kernel
theorem dX7_settle_11 : decode cX7_settle 11 = .ok (.aload_n 0, 1) := by decide +kernel
theorem dX7_settle_12 : decode cX7_settle 12 = .ok (.invokevirtual 138, 3) := by decide +kernel
theorem dX7_settle_15 : decode cX7_settle 15 = .ok (.ifCond .eq 90, 3) := by decide +kernel
theorem dX7_settle_18 : decode cX7_settle 18 = .ok (.aload_n 0, 1) := by decide +kernel
theorem dX7_settle_19 : decode cX7_settle 19 = .ok (.invokevirtual 142, 3) := by decide +kernel
theorem dX7_settle_22 : decode cX7_settle 22 = .ok (.istore_n 2, 1) := by decide +kernel
theorem dX7_settle_23 : decode cX7_settle 23 = .ok (.iconst 0, 1) := by decide +kernel
theorem dX7_settle_24 : decode cX7_settle 24 = .ok (.istore_n 3, 1) := by decide +kernel
theorem dX7_settle_25 : decode cX7_settle 25 = .ok (.iload_n 3, 1) := by decide +kernel
theorem dX7_settle_26 : decode cX7_settle 26 = .ok (.aload_n 0, 1) := by decide +kernel
theorem dX7_settle_27 : decode cX7_settle 27 = .ok (.getfield 135, 3) := by decide +kernel
theorem dX7_settle_30 : decode cX7_settle 30 = .ok (.if_icmp .ge 40, 3) := by decide +kernel
theorem dX7_settle_33 : decode cX7_settle 33 = .ok (.aload_n 0, 1) := by decide +kernel
theorem dX7_settle_34 : decode cX7_settle 34 = .ok (.getfield 7, 3) := by decide +kernel
theorem dX7_settle_37 : decode cX7_settle 37 = .ok (.aload_n 0, 1) := by decide +kernel
theorem dX7_settle_38 : decode cX7_settle 38 = .ok (.getfield 22, 3) := by decide +kernel
theorem dX7_settle_41 : decode cX7_settle 41 = .ok (.iload_n 3, 1) := by decide +kernel
theorem dX7_settle_42 : decode cX7_settle 42 = .ok (.iaload, 1) := by decide +kernel
theorem dX7_settle_43 : decode cX7_settle 43 = .ok (.aload_n 0, 1) := by decide +kernel
theorem dX7_settle_44 : decode cX7_settle 44 = .ok (.getfield 22, 3) := by decide +kernel
theorem dX7_settle_47 : decode cX7_settle 47 = .ok (.iload_n 3, 1) := by decide +kernel
theorem dX7_settle_48 : decode cX7_settle 48 = .ok (.iconst 1, 1) := by decide +kernel
theorem dX7_settle_49 : decode cX7_settle 49 = .ok (.iadd, 1) := by decide +kernel
theorem dX7_settle_50 : decode cX7_settle 50 = .ok (.aload_n 0, 1) := by decide +kernel
theorem dX7_settle_51 : decode cX7_settle 51 = .ok (.getfield 135, 3) := by decide +kernel
theorem dX7_settle_54 : decode cX7_settle 54 = .ok (.irem, 1) := by decide +kernel
theorem dX7_settle_55 : decode cX7_settle 55 = .ok (.iaload, 1) := by decide +kernel
theorem dX7_settle_56 : decode cX7_settle 56 = .ok (.invokestatic 123, 3) := by decide +kernel
theorem dX7_settle_59 : decode cX7_settle 59 = .ok (.dup2, 1) := by decide +kernel
theorem dX7_settle_60 : decode cX7_settle 60 = .ok (.iaload, 1) := by decide +kernel
theorem dX7_settle_61 : decode cX7_settle 61 = .ok (.iload_n 2, 1) := by decide +kernel
theorem dX7_settle_62 : decode cX7_settle 62 = .ok (.isub, 1) := by decide +kernel
theorem dX7_settle_63 : decode cX7_settle 63 = .ok (.iastore, 1) := by decide +kernel
theorem dX7_settle_64 : decode cX7_settle 64 = .ok (.iinc 3 1, 3) := by decide +kernel
theorem dX7_settle_67 : decode cX7_settle 67 = .ok (.goto (-42), 3) := by decide +kernel
theorem dX7_settle_70 : decode cX7_settle 70 = .ok (.aload_n 0, 1) := by decide +kernel
theorem dX7_settle_71 : decode cX7_settle 71 = .ok (.getfield 7, 3) := by decide +kernel
theorem dX7_settle_74 : decode cX7_settle 74 = .ok (.sipush 427, 3) := by decide +kernel
theorem dX7_settle_77 : decode cX7_settle 77 = .ok (.dup2, 1) := by decide +kernel
theorem dX7_settle_78 : decode cX7_settle 78 = .ok (.iaload, 1) := by decide +kernel
theorem dX7_settle_79 : decode cX7_settle 79 = .ok (.iload_n 2, 1) := by decide +kernel
theorem dX7_settle_80 : decode cX7_settle 80 = .ok (.aload_n 0, 1) := by decide +kernel
theorem dX7_settle_81 : decode cX7_settle 81 = .ok (.getfield 135, 3) := by decide +kernel
theorem dX7_settle_84 : decode cX7_settle 84 = .ok (.imul, 1) := by decide +kernel
theorem dX7_settle_85 : decode cX7_settle 85 = .ok (.iadd, 1) := by decide +kernel
theorem dX7_settle_86 : decode cX7_settle 86 = .ok (.iastore, 1) := by decide +kernel
theorem dX7_settle_87 : decode cX7_settle 87 = .ok (.aload_n 0, 1) := by decide +kernel
theorem dX7_settle_88 : decode cX7_settle 88 = .ok (.getfield 7, 3) := by decide +kernel
theorem dX7_settle_91 : decode cX7_settle 91 = .ok (.sipush 426, 3) := by decide +kernel
theorem dX7_settle_94 : decode cX7_settle 94 = .ok (.dup2, 1) := by decide +kernel
theorem dX7_settle_95 : decode cX7_settle 95 = .ok (.iaload, 1) := by decide +kernel
theorem dX7_settle_96 : decode cX7_settle 96 = .ok (.iconst 1, 1) := by decide +kernel
theorem dX7_settle_97 : decode cX7_settle 97 = .ok (.iadd, 1) := by decide +kernel
theorem dX7_settle_98 : decode cX7_settle 98 = .ok (.iastore, 1) := by decide +kernel
theorem dX7_settle_99 : decode cX7_settle 99 = .ok (.iinc 1 1, 3) := by decide +kernel
theorem dX7_settle_102 : decode cX7_settle 102 = .ok (.goto (-91), 3) := by decide +kernel
theorem dX7_settle_105 : decode cX7_settle 105 = .ok (.iload_n 1, 1) := by decide +kernel
theorem dX7_settle_106 : decode cX7_settle 106 = .ok (.ireturn, 1) := by decide +kernel
theorem dX7_ringOf_0 : decode cX7_ringOf 0 = .ok (.aload_n 0, 1) := by decide +kernel
theorem dX7_ringOf_1 : decode cX7_ringOf 1 = .ok (.invokevirtual 138, 3) := by decide +kernel
theorem dX7_ringOf_4 : decode cX7_ringOf 4 = .ok (.ifCond .ne 5, 3) := by decide +kernel
theorem dX7_ringOf_7 : decode cX7_ringOf 7 = .ok (.iconst (-1), 1) := by decide +kernel
theorem dX7_ringOf_8 : decode cX7_ringOf 8 = .ok (.ireturn, 1) := by decide +kernel
theorem dX7_ringOf_9 : decode cX7_ringOf 9 = .ok (.iload_n 1, 1) := by decide +kernel
theorem dX7_ringOf_10 : decode cX7_ringOf 10 = .ok (.iconst 2, 1) := by decide +kernel
theorem dX7_ringOf_11 : decode cX7_ringOf 11 = .ok (.if_icmp .ge 19, 3) := by decide +kernel
theorem dX7_ringOf_14 : decode cX7_ringOf 14 = .ok (.iload_n 1, 1) := by decide +kernel
theorem dX7_ringOf_15 : decode cX7_ringOf 15 = .ok (.ifCond .ne 10, 3) := by decide +kernel
theorem dX7_ringOf_18 : decode cX7_ringOf 18 = .ok (.aload_n 0, 1) := by decide +kernel
theorem dX7_ringOf_19 : decode cX7_ringOf 19 = .ok (.getfield 135, 3) := by decide +kernel
theorem dX7_ringOf_22 : decode cX7_ringOf 22 = .ok (.goto 7, 3) := by decide +kernel
theorem dX7_ringOf_25 : decode cX7_ringOf 25 = .ok (.aload_n 0, 1) := by decide +kernel
theorem dX7_ringOf_26 : decode cX7_ringOf 26 = .ok (.invokevirtual 142, 3) := by decide +kernel
theorem dX7_ringOf_29 : decode cX7_ringOf 29 = .ok (.ireturn, 1) := by decide +kernel
theorem dX7_ringOf_30 : decode cX7_ringOf 30 = .ok (.iload_n 1, 1) := by decide +kernel
theorem dX7_ringOf_31 : decode cX7_ringOf 31 = .ok (.bipush 10, 2) := by decide +kernel
theorem dX7_ringOf_33 : decode cX7_ringOf 33 = .ok (.isub, 1) := by decide +kernel
theorem dX7_ringOf_34 : decode cX7_ringOf 34 = .ok (.aload_n 0, 1) := by decide +kernel
theorem dX7_ringOf_35 : decode cX7_ringOf 35 = .ok (.getfield 135, 3) := by decide +kernel
theorem dX7_ringOf_38 : decode cX7_ringOf 38 = .ok (.if_icmp .ge 15, 3) := by decide +kernel
theorem dX7_ringOf_41 : decode cX7_ringOf 41 = .ok (.aload_n 0, 1) := by decide +kernel
theorem dX7_ringOf_42 : decode cX7_ringOf 42 = .ok (.getfield 22, 3) := by decide +kernel
theorem dX7_ringOf_45 : decode cX7_ringOf 45 = .ok (.iload_n 1, 1) := by decide +kernel
theorem dX7_ringOf_46 : decode cX7_ringOf 46 = .ok (.bipush 10, 2) := by decide +kernel
theorem dX7_ringOf_48 : decode cX7_ringOf 48 = .ok (.isub, 1) := by decide +kernel
theorem dX7_ringOf_49 : decode cX7_ringOf 49 = .ok (.iaload, 1) := by decide +kernel
theorem dX7_ringOf_50 : decode cX7_ringOf 50 = .ok (.goto 4, 3) := by decide +kernel
theorem dX7_ringOf_53 : decode cX7_ringOf 53 = .ok (.iconst (-1), 1) := by decide +kernel
theorem dX7_ringOf_54 : decode cX7_ringOf 54 = .ok (.ireturn, 1) := by decide +kernel
theorem dX7_ring_0 : decode cX7_ring 0 = .ok (.aload_n 0, 1) := by decide +kernel
theorem dX7_ring_1 : decode cX7_ring 1 = .ok (.iload_n 1, 1) := by decide +kernel
theorem dX7_ring_2 : decode cX7_ring 2 = .ok (.iconst 0, 1) := by decide +kernel
theorem dX7_ring_3 : decode cX7_ring 3 = .ok (.iconst 1, 1) := by decide +kernel
theorem dX7_ring_4 : decode cX7_ring 4 = .ok (.invokestatic 41, 3) := by decide +kernel
theorem dX7_ring_7 : decode cX7_ring 7 = .ok (.ifCond .ne 14, 3) := by decide +kernel
theorem dX7_ring_10 : decode cX7_ring 10 = .ok (.iload_n 1, 1) := by decide +kernel
theorem dX7_ring_11 : decode cX7_ring 11 = .ok (.bipush 10, 2) := by decide +kernel
theorem dX7_ring_13 : decode cX7_ring 13 = .ok (.bipush 15, 2) := by decide +kernel
theorem dX7_ring_15 : decode cX7_ring 15 = .ok (.invokestatic 41, 3) := by decide +kernel
theorem dX7_ring_18 : decode cX7_ring 18 = .ok (.ifCond .eq 7, 3) := by decide +kernel
theorem dX7_ring_21 : decode cX7_ring 21 = .ok (.iconst 0, 1) := by decide +kernel
theorem dX7_ring_22 : decode cX7_ring 22 = .ok (.goto 4, 3) := by decide +kernel
theorem dX7_ring_25 : decode cX7_ring 25 = .ok (.iconst 1, 1) := by decide +kernel
theorem dX7_ring_26 : decode cX7_ring 26 = .ok (.putfield 37, 3) := by decide +kernel
theorem dX7_ring_29 : decode cX7_ring 29 = .ok (.aload_n 0, 1) := by decide +kernel
theorem dX7_ring_30 : decode cX7_ring 30 = .ok (.getfield 37, 3) := by decide +kernel
theorem dX7_ring_33 : decode cX7_ring 33 = .ok (.ifCond .ne 11, 3) := by decide +kernel
theorem dX7_ring_36 : decode cX7_ring 36 = .ok (.aload_n 0, 1) := by decide +kernel
theorem dX7_ring_37 : decode cX7_ring 37 = .ok (.iload_n 1, 1) := by decide +kernel
theorem dX7_ring_38 : decode cX7_ring 38 = .ok (.invokevirtual 146, 3) := by decide +kernel
theorem dX7_ring_41 : decode cX7_ring 41 = .ok (.goto 4, 3) := by decide +kernel
theorem dX7_ring_44 : decode cX7_ring 44 = .ok (.iconst 0, 1) := by decide +kernel
theorem dX7_ring_45 : decode cX7_ring 45 = .ok (.ireturn, 1) := by decide +kernel
theorem dX7_append_0 : decode cX7_append 0 = .ok (.aload_n 0, 1) := by decide +kernel
theorem dX7_append_1 : decode cX7_append 1 = .ok (.iload_n 1, 1) := by decide +kernel
theorem dX7_append_2 : decode cX7_append 2 = .ok (.bipush 33, 2) := by decide +kernel
theorem dX7_append_4 : decode cX7_append 4 = .ok (.bipush 126, 2) := by decide +kernel
theorem dX7_append_6 : decode cX7_append 6 = .ok (.invokestatic 41, 3) := by decide +kernel
theorem dX7_append_9 : decode cX7_append 9 = .ok (.ifCond .ne 7, 3) := by decide +kernel
theorem dX7_append_12 : decode cX7_append 12 = .ok (.iconst 1, 1) := by decide +kernel
theorem dX7_append_13 : decode cX7_append 13 = .ok (.goto 17, 3) := by decide +kernel
theorem dX7_append_16 : decode cX7_append 16 = .ok (.aload_n 0, 1) := by decide +kernel
theorem dX7_append_17 : decode cX7_append 17 = .ok (.getfield 149, 3) := by decide +kernel
theorem dX7_append_20 : decode cX7_append 20 = .ok (.bipush 60, 2) := by decide +kernel
theorem dX7_append_22 : decode cX7_append 22 = .ok (.if_icmp .ne 7, 3) := by decide +kernel
theorem dX7_append_25 : decode cX7_append 25 = .ok (.iconst 2, 1) := by decide +kernel
theorem dX7_append_26 : decode cX7_append 26 = .ok (.goto 4, 3) := by decide +kernel
theorem dX7_append_29 : decode cX7_append 29 = .ok (.iconst 0, 1) := by decide +kernel
theorem dX7_append_30 : decode cX7_append 30 = .ok (.putfield 37, 3) := by decide +kernel
theorem dX7_append_33 : decode cX7_append 33 = .ok (.aload_n 0, 1) := by decide +kernel
theorem dX7_append_34 : decode cX7_append 34 = .ok (.getfield 37, 3) := by decide +kernel
theorem dX7_append_37 : decode cX7_append 37 = .ok (.ifCond .eq 5, 3) := by decide +kernel
theorem dX7_append_40 : decode cX7_append 40 = .ok (.iconst 0, 1) := by decide +kernel
theorem dX7_append_41 : decode cX7_append 41 = .ok (.ireturn, 1) := by decide +kernel
theorem dX7_append_42 : decode cX7_append 42 = .ok (.aload_n 0, 1) := by decide +kernel
theorem dX7_append_43 : decode cX7_append 43 = .ok (.getfield 13, 3) := by decide +kernel
theorem dX7_append_46 : decode cX7_append 46 = .ok (.aload_n 0, 1) := by decide +kernel
theorem dX7_append_47 : decode cX7_append 47 = .ok (.getfield 149, 3) := by decide +kernel
theorem dX7_append_50 : decode cX7_append 50 = .ok (.iload_n 1, 1) := by decide +kernel
theorem dX7_append_51 : decode cX7_append 51 = .ok (.iastore, 1) := by decide +kernel
theorem dX7_append_52 : decode cX7_append 52 = .ok (.aload_n 0, 1) := by decide +kernel
theorem dX7_append_53 : decode cX7_append 53 = .ok (.dup, 1) := by decide +kernel
theorem dX7_append_54 : decode cX7_append 54 = .ok (.getfield 149, 3) := by decide +kernel
theorem dX7_append_57 : decode cX7_append 57 = .ok (.iconst 1, 1) := by decide +kernel
theorem dX7_append_58 : decode cX7_append 58 = .ok (.iadd, 1) := by decide +kernel
theorem dX7_append_59 : decode cX7_append 59 = .ok (.putfield 149, 3) := by decide +kernel
theorem dX7_append_62 : decode cX7_append 62 = .ok (.aload_n 0, 1) := by decide +kernel
theorem dX7_append_63 : decode cX7_append 63 = .ok (.getfield 149, 3) := by decide +kernel
theorem dX7_append_66 : decode cX7_append 66 = .ok (.ireturn, 1) := by decide +kernel
theorem dX7_clearBuffer_0 : decode cX7_clearBuffer 0 = .ok (.aload_n 0, 1) := by decide +kernel
theorem dX7_clearBuffer_1 : decode cX7_clearBuffer 1 = .ok (.iconst 0, 1) := by decide +kernel
theorem dX7_clearBuffer_2 : decode cX7_clearBuffer 2 = .ok (.putfield 37, 3) := by decide +kernel
theorem dX7_clearBuffer_5 : decode cX7_clearBuffer 5 = .ok (.aload_n 0, 1) := by decide +kernel
theorem dX7_clearBuffer_6 : decode cX7_clearBuffer 6 = .ok (.getfield 149, 3) := by decide +kernel
theorem dX7_clearBuffer_9 : decode cX7_clearBuffer 9 = .ok (.istore_n 1, 1) := by decide +kernel
theorem dX7_clearBuffer_10 : decode cX7_clearBuffer 10 = .ok (.aload_n 0, 1) := by decide +kernel
theorem dX7_clearBuffer_11 : decode cX7_clearBuffer 11 = .ok (.iconst 0, 1) := by decide +kernel
theorem dX7_clearBuffer_12 : decode cX7_clearBuffer 12 = .ok (.putfield 149, 3) := by decide +kernel
theorem dX7_clearBuffer_15 : decode cX7_clearBuffer 15 = .ok (.iload_n 1, 1) := by decide +kernel
theorem dX7_clearBuffer_16 : decode cX7_clearBuffer 16 = .ok (.ireturn, 1) := by decide +kernel
theorem dX7_begins_0 : decode cX7_begins 0 = .ok (.aload_n 0, 1) := by decide +kernel
theorem dX7_begins_1 : decode cX7_begins 1 = .ok (.getfield 152, 3) := by decide +kernel
theorem dX7_begins_4 : decode cX7_begins 4 = .ok (.bipush 24, 2) := by decide +kernel
theorem dX7_begins_6 : decode cX7_begins 6 = .ok (.if_icmp .eq 26, 3) := by decide +kernel
theorem dX7_begins_9 : decode cX7_begins 9 = .ok (.iload_n 1, 1) := by decide +kernel
theorem dX7_begins_10 : decode cX7_begins 10 = .ok (.bipush 45, 2) := by decide +kernel
theorem dX7_begins_12 : decode cX7_begins 12 = .ok (.if_icmp .eq 22, 3) := by decide +kernel
theorem dX7_begins_15 : decode cX7_begins 15 = .ok (.iload_n 1, 1) := by decide +kernel
theorem dX7_begins_16 : decode cX7_begins 16 = .ok (.bipush 40, 2) := by decide +kernel
theorem dX7_begins_18 : decode cX7_begins 18 = .ok (.if_icmp .eq 16, 3) := by decide +kernel
theorem dX7_begins_21 : decode cX7_begins 21 = .ok (.iload_n 1, 1) := by decide +kernel
theorem dX7_begins_22 : decode cX7_begins 22 = .ok (.bipush 97, 2) := by decide +kernel
theorem dX7_begins_24 : decode cX7_begins 24 = .ok (.bipush 108, 2) := by decide +kernel
theorem dX7_begins_26 : decode cX7_begins 26 = .ok (.invokestatic 41, 3) := by decide +kernel
theorem dX7_begins_29 : decode cX7_begins 29 = .ok (.ifCond .ne 5, 3) := by decide +kernel
theorem dX7_begins_32 : decode cX7_begins 32 = .ok (.iconst 0, 1) := by decide +kernel
theorem dX7_begins_33 : decode cX7_begins 33 = .ok (.ireturn, 1) := by decide +kernel
theorem dX7_begins_34 : decode cX7_begins 34 = .ok (.aload_n 0, 1) := by decide +kernel
theorem dX7_begins_35 : decode cX7_begins 35 = .ok (.getfield 25, 3) := by decide +kernel
theorem dX7_begins_38 : decode cX7_begins 38 = .ok (.aload_n 0, 1) := by decide +kernel
theorem dX7_begins_39 : decode cX7_begins 39 = .ok (.getfield 152, 3) := by decide +kernel
theorem dX7_begins_42 : decode cX7_begins 42 = .ok (.iload_n 1, 1) := by decide +kernel
theorem dX7_begins_43 : decode cX7_begins 43 = .ok (.bipush 97, 2) := by decide +kernel
theorem dX7_begins_45 : decode cX7_begins 45 = .ok (.bipush 108, 2) := by decide +kernel
theorem dX7_begins_47 : decode cX7_begins 47 = .ok (.invokestatic 41, 3) := by decide +kernel
theorem dX7_begins_50 : decode cX7_begins 50 = .ok (.ifCond .eq 12, 3) := by decide +kernel
theorem dX7_begins_53 : decode cX7_begins 53 = .ok (.iconst 1, 1) := by decide +kernel
theorem dX7_begins_54 : decode cX7_begins 54 = .ok (.iload_n 1, 1) := by decide +kernel
theorem dX7_begins_55 : decode cX7_begins 55 = .ok (.bipush 97, 2) := by decide +kernel
theorem dX7_begins_57 : decode cX7_begins 57 = .ok (.isub, 1) := by decide +kernel
theorem dX7_begins_58 : decode cX7_begins 58 = .ok (.ishl, 1) := by decide +kernel
theorem dX7_begins_59 : decode cX7_begins 59 = .ok (.goto 4, 3) := by decide +kernel
theorem dX7_begins_62 : decode cX7_begins 62 = .ok (.iconst 0, 1) := by decide +kernel
theorem dX7_begins_63 : decode cX7_begins 63 = .ok (.iastore, 1) := by decide +kernel
theorem dX7_begins_64 : decode cX7_begins 64 = .ok (.aload_n 0, 1) := by decide +kernel
theorem dX7_begins_65 : decode cX7_begins 65 = .ok (.iload_n 1, 1) := by decide +kernel
theorem dX7_begins_66 : decode cX7_begins 66 = .ok (.bipush 40, 2) := by decide +kernel
theorem dX7_begins_68 : decode cX7_begins 68 = .ok (.if_icmp .ne 7, 3) := by decide +kernel
theorem dX7_begins_71 : decode cX7_begins 71 = .ok (.iconst 1, 1) := by decide +kernel
theorem dX7_begins_72 : decode cX7_begins 72 = .ok (.goto 4, 3) := by decide +kernel
theorem dX7_begins_75 : decode cX7_begins 75 = .ok (.iconst 0, 1) := by decide +kernel
theorem dX7_begins_76 : decode cX7_begins 76 = .ok (.putfield 155, 3) := by decide +kernel
theorem dX7_begins_79 : decode cX7_begins 79 = .ok (.aload_n 0, 1) := by decide +kernel
theorem dX7_begins_80 : decode cX7_begins 80 = .ok (.iconst (-1), 1) := by decide +kernel
theorem dX7_begins_81 : decode cX7_begins 81 = .ok (.putfield 159, 3) := by decide +kernel
theorem dX7_begins_84 : decode cX7_begins 84 = .ok (.aload_n 0, 1) := by decide +kernel
theorem dX7_begins_85 : decode cX7_begins 85 = .ok (.iconst 0, 1) := by decide +kernel
theorem dX7_begins_86 : decode cX7_begins 86 = .ok (.putfield 162, 3) := by decide +kernel
theorem dX7_begins_89 : decode cX7_begins 89 = .ok (.aload_n 0, 1) := by decide +kernel
theorem dX7_begins_90 : decode cX7_begins 90 = .ok (.dup, 1) := by decide +kernel
theorem dX7_begins_91 : decode cX7_begins 91 = .ok (.getfield 152, 3) := by decide +kernel
theorem dX7_begins_94 : decode cX7_begins 94 = .ok (.aload_n 0, 1) := by decide +kernel
theorem dX7_begins_95 : decode cX7_begins 95 = .ok (.getfield 155, 3) := by decide +kernel
theorem dX7_begins_98 : decode cX7_begins 98 = .ok (.ifCond .eq 7, 3) := by decide +kernel
theorem dX7_begins_101 : decode cX7_begins 101 = .ok (.iconst 0, 1) := by decide +kernel
theorem dX7_begins_102 : decode cX7_begins 102 = .ok (.goto 4, 3) := by decide +kernel
theorem dX7_begins_105 : decode cX7_begins 105 = .ok (.iconst 1, 1) := by decide +kernel
theorem dX7_begins_106 : decode cX7_begins 106 = .ok (.iadd, 1) := by decide +kernel
theorem dX7_begins_107 : decode cX7_begins 107 = .ok (.putfield 152, 3) := by decide +kernel
theorem dX7_begins_110 : decode cX7_begins 110 = .ok (.iconst 1, 1) := by decide +kernel
theorem dX7_begins_111 : decode cX7_begins 111 = .ok (.ireturn, 1) := by decide +kernel
theorem dX7_goesOn_0 : decode cX7_goesOn 0 = .ok (.iload_n 1, 1) := by decide +kernel
theorem dX7_goesOn_1 : decode cX7_goesOn 1 = .ok (.bipush 41, 2) := by decide +kernel
theorem dX7_goesOn_3 : decode cX7_goesOn 3 = .ok (.if_icmp .ne 54, 3) := by decide +kernel
theorem dX7_goesOn_6 : decode cX7_goesOn 6 = .ok (.aload_n 0, 1) := by decide +kernel
theorem dX7_goesOn_7 : decode cX7_goesOn 7 = .ok (.aload_n 0, 1) := by decide +kernel
theorem dX7_goesOn_8 : decode cX7_goesOn 8 = .ok (.getfield 162, 3) := by decide +kernel
theorem dX7_goesOn_11 : decode cX7_goesOn 11 = .ok (.iconst 2, 1) := by decide +kernel
theorem dX7_goesOn_12 : decode cX7_goesOn 12 = .ok (.if_icmp .ge 7, 3) := by decide +kernel
theorem dX7_goesOn_15 : decode cX7_goesOn 15 = .ok (.iconst 1, 1) := by decide +kernel
theorem dX7_goesOn_16 : decode cX7_goesOn 16 = .ok (.goto 4, 3) := by decide +kernel
theorem dX7_goesOn_19 : decode cX7_goesOn 19 = .ok (.iconst 0, 1) := by decide +kernel
theorem dX7_goesOn_20 : decode cX7_goesOn 20 = .ok (.putfield 155, 3) := by decide +kernel
theorem dX7_goesOn_23 : decode cX7_goesOn 23 = .ok (.aload_n 0, 1) := by decide +kernel
theorem dX7_goesOn_24 : decode cX7_goesOn 24 = .ok (.dup, 1) := by decide +kernel
theorem dX7_goesOn_25 : decode cX7_goesOn 25 = .ok (.getfield 152, 3) := by decide +kernel
theorem dX7_goesOn_28 : decode cX7_goesOn 28 = .ok (.aload_n 0, 1) := by decide +kernel
theorem dX7_goesOn_29 : decode cX7_goesOn 29 = .ok (.getfield 155, 3) := by decide +kernel
theorem dX7_goesOn_32 : decode cX7_goesOn 32 = .ok (.ifCond .eq 7, 3) := by decide +kernel
theorem dX7_goesOn_35 : decode cX7_goesOn 35 = .ok (.iconst 0, 1) := by decide +kernel
theorem dX7_goesOn_36 : decode cX7_goesOn 36 = .ok (.goto 4, 3) := by decide +kernel
theorem dX7_goesOn_39 : decode cX7_goesOn 39 = .ok (.iconst 1, 1) := by decide +kernel
theorem dX7_goesOn_40 : decode cX7_goesOn 40 = .ok (.iadd, 1) := by decide +kernel
theorem dX7_goesOn_41 : decode cX7_goesOn 41 = .ok (.putfield 152, 3) := by decide +kernel
theorem dX7_goesOn_44 : decode cX7_goesOn 44 = .ok (.aload_n 0, 1) := by decide +kernel
theorem dX7_goesOn_45 : decode cX7_goesOn 45 = .ok (.getfield 155, 3) := by decide +kernel
theorem dX7_goesOn_48 : decode cX7_goesOn 48 = .ok (.ifCond .ne 7, 3) := by decide +kernel
theorem dX7_goesOn_51 : decode cX7_goesOn 51 = .ok (.iconst 1, 1) := by decide +kernel
theorem dX7_goesOn_52 : decode cX7_goesOn 52 = .ok (.goto 4, 3) := by decide +kernel
theorem dX7_goesOn_55 : decode cX7_goesOn 55 = .ok (.iconst 0, 1) := by decide +kernel
theorem dX7_goesOn_56 : decode cX7_goesOn 56 = .ok (.ireturn, 1) := by decide +kernel
theorem dX7_goesOn_57 : decode cX7_goesOn 57 = .ok (.iload_n 1, 1) := by decide +kernel
theorem dX7_goesOn_58 : decode cX7_goesOn 58 = .ok (.bipush 97, 2) := by decide +kernel
theorem dX7_goesOn_60 : decode cX7_goesOn 60 = .ok (.aload_n 0, 1) := by decide +kernel
theorem dX7_goesOn_61 : decode cX7_goesOn 61 = .ok (.getfield 162, 3) := by decide +kernel
theorem dX7_goesOn_64 : decode cX7_goesOn 64 = .ok (.ifCond .ne 8, 3) := by decide +kernel
theorem dX7_goesOn_67 : decode cX7_goesOn 67 = .ok (.bipush 107, 2) := by decide +kernel
theorem dX7_goesOn_69 : decode cX7_goesOn 69 = .ok (.goto 5, 3) := by decide +kernel
theorem dX7_goesOn_72 : decode cX7_goesOn 72 = .ok (.bipush 108, 2) := by decide +kernel
theorem dX7_goesOn_74 : decode cX7_goesOn 74 = .ok (.invokestatic 41, 3) := by decide +kernel
theorem dX7_goesOn_77 : decode cX7_goesOn 77 = .ok (.ifCond .eq 14, 3) := by decide +kernel
theorem dX7_goesOn_80 : decode cX7_goesOn 80 = .ok (.iload_n 1, 1) := by decide +kernel
theorem dX7_goesOn_81 : decode cX7_goesOn 81 = .ok (.bipush 97, 2) := by decide +kernel
theorem dX7_goesOn_83 : decode cX7_goesOn 83 = .ok (.isub, 1) := by decide +kernel
theorem dX7_goesOn_84 : decode cX7_goesOn 84 = .ok (.aload_n 0, 1) := by decide +kernel
theorem dX7_goesOn_85 : decode cX7_goesOn 85 = .ok (.getfield 159, 3) := by decide +kernel
theorem dX7_goesOn_88 : decode cX7_goesOn 88 = .ok (.if_icmp .gt 5, 3) := by decide +kernel
theorem dX7_goesOn_91 : decode cX7_goesOn 91 = .ok (.iconst 0, 1) := by decide +kernel
theorem dX7_goesOn_92 : decode cX7_goesOn 92 = .ok (.ireturn, 1) := by decide +kernel
theorem dX7_goesOn_93 : decode cX7_goesOn 93 = .ok (.aload_n 0, 1) := by decide +kernel
theorem dX7_goesOn_94 : decode cX7_goesOn 94 = .ok (.iload_n 1, 1) := by decide +kernel
theorem dX7_goesOn_95 : decode cX7_goesOn 95 = .ok (.bipush 97, 2) := by decide +kernel
theorem dX7_goesOn_97 : decode cX7_goesOn 97 = .ok (.isub, 1) := by decide +kernel
theorem dX7_goesOn_98 : decode cX7_goesOn 98 = .ok (.putfield 159, 3) := by decide +kernel
theorem dX7_goesOn_101 : decode cX7_goesOn 101 = .ok (.aload_n 0, 1) := by decide +kernel
theorem dX7_goesOn_102 : decode cX7_goesOn 102 = .ok (.dup, 1) := by decide +kernel
theorem dX7_goesOn_103 : decode cX7_goesOn 103 = .ok (.getfield 162, 3) := by decide +kernel
theorem dX7_goesOn_106 : decode cX7_goesOn 106 = .ok (.iconst 1, 1) := by decide +kernel
theorem dX7_goesOn_107 : decode cX7_goesOn 107 = .ok (.iadd, 1) := by decide +kernel
theorem dX7_goesOn_108 : decode cX7_goesOn 108 = .ok (.putfield 162, 3) := by decide +kernel
theorem dX7_goesOn_111 : decode cX7_goesOn 111 = .ok (.aload_n 0, 1) := by decide +kernel
theorem dX7_goesOn_112 : decode cX7_goesOn 112 = .ok (.getfield 25, 3) := by decide +kernel
theorem dX7_goesOn_115 : decode cX7_goesOn 115 = .ok (.aload_n 0, 1) := by decide +kernel
theorem dX7_goesOn_116 : decode cX7_goesOn 116 = .ok (.getfield 152, 3) := by decide +kernel
theorem dX7_goesOn_119 : decode cX7_goesOn 119 = .ok (.dup2, 1) := by decide +kernel
theorem dX7_goesOn_120 : decode cX7_goesOn 120 = .ok (.iaload, 1) := by decide +kernel
theorem dX7_goesOn_121 : decode cX7_goesOn 121 = .ok (.iconst 1, 1) := by decide +kernel
theorem dX7_goesOn_122 : decode cX7_goesOn 122 = .ok (.aload_n 0, 1) := by decide +kernel
theorem dX7_goesOn_123 : decode cX7_goesOn 123 = .ok (.getfield 159, 3) := by decide +kernel
theorem dX7_goesOn_126 : decode cX7_goesOn 126 = .ok (.ishl, 1) := by decide +kernel
theorem dX7_goesOn_127 : decode cX7_goesOn 127 = .ok (.ior, 1) := by decide +kernel
theorem dX7_goesOn_128 : decode cX7_goesOn 128 = .ok (.iastore, 1) := by decide +kernel
theorem dX7_goesOn_129 : decode cX7_goesOn 129 = .ok (.iconst 1, 1) := by decide +kernel
theorem dX7_goesOn_130 : decode cX7_goesOn 130 = .ok (.ireturn, 1) := by decide +kernel
theorem dX7_errorAt_0 : decode cX7_errorAt 0 = .ok (.aload_n 0, 1) := by decide +kernel
theorem dX7_errorAt_1 : decode cX7_errorAt 1 = .ok (.iconst 0, 1) := by decide +kernel
theorem dX7_errorAt_2 : decode cX7_errorAt 2 = .ok (.putfield 152, 3) := by decide +kernel
theorem dX7_errorAt_5 : decode cX7_errorAt 5 = .ok (.aload_n 0, 1) := by decide +kernel
theorem dX7_errorAt_6 : decode cX7_errorAt 6 = .ok (.iconst 0, 1) := by decide +kernel
theorem dX7_errorAt_7 : decode cX7_errorAt 7 = .ok (.putfield 155, 3) := by decide +kernel
theorem dX7_errorAt_10 : decode cX7_errorAt 10 = .ok (.iconst 0, 1) := by decide +kernel
theorem dX7_errorAt_11 : decode cX7_errorAt 11 = .ok (.istore_n 1, 1) := by decide +kernel
theorem dX7_errorAt_12 : decode cX7_errorAt 12 = .ok (.iload_n 1, 1) := by decide +kernel
theorem dX7_errorAt_13 : decode cX7_errorAt 13 = .ok (.aload_n 0, 1) := by decide +kernel
theorem dX7_errorAt_14 : decode cX7_errorAt 14 = .ok (.getfield 149, 3) := by decide +kernel
theorem dX7_errorAt_17 : decode cX7_errorAt 17 = .ok (.if_icmp .ge 46, 3) := by decide +kernel
theorem dX7_errorAt_20 : decode cX7_errorAt 20 = .ok (.aload_n 0, 1) := by decide +kernel
theorem dX7_errorAt_21 : decode cX7_errorAt 21 = .ok (.getfield 155, 3) := by decide +kernel
theorem dX7_errorAt_24 : decode cX7_errorAt 24 = .ok (.ifCond .eq 16, 3) := by decide +kernel
theorem dX7_errorAt_27 : decode cX7_errorAt 27 = .ok (.aload_n 0, 1) := by decide +kernel
theorem dX7_errorAt_28 : decode cX7_errorAt 28 = .ok (.aload_n 0, 1) := by decide +kernel
theorem dX7_errorAt_29 : decode cX7_errorAt 29 = .ok (.getfield 13, 3) := by decide +kernel
theorem dX7_errorAt_32 : decode cX7_errorAt 32 = .ok (.iload_n 1, 1) := by decide +kernel
theorem dX7_errorAt_33 : decode cX7_errorAt 33 = .ok (.iaload, 1) := by decide +kernel
theorem dX7_errorAt_34 : decode cX7_errorAt 34 = .ok (.invokevirtual 165, 3) := by decide +kernel
theorem dX7_errorAt_37 : decode cX7_errorAt 37 = .ok (.goto 13, 3) := by decide +kernel
theorem dX7_errorAt_40 : decode cX7_errorAt 40 = .ok (.aload_n 0, 1) := by decide +kernel
theorem dX7_errorAt_41 : decode cX7_errorAt 41 = .ok (.aload_n 0, 1) := by decide +kernel
theorem dX7_errorAt_42 : decode cX7_errorAt 42 = .ok (.getfield 13, 3) := by decide +kernel
theorem dX7_errorAt_45 : decode cX7_errorAt 45 = .ok (.iload_n 1, 1) := by decide +kernel
theorem dX7_errorAt_46 : decode cX7_errorAt 46 = .ok (.iaload, 1) := by decide +kernel
theorem dX7_errorAt_47 : decode cX7_errorAt 47 = .ok (.invokevirtual 168, 3) := by decide +kernel
theorem dX7_errorAt_50 : decode cX7_errorAt 50 = .ok (.istore_n 2, 1) := by decide +kernel
theorem dX7_errorAt_51 : decode cX7_errorAt 51 = .ok (.iload_n 2, 1) := by decide +kernel
theorem dX7_errorAt_52 : decode cX7_errorAt 52 = .ok (.ifCond .ne 5, 3) := by decide +kernel
theorem dX7_errorAt_55 : decode cX7_errorAt 55 = .ok (.iload_n 1, 1) := by decide +kernel
theorem dX7_errorAt_56 : decode cX7_errorAt 56 = .ok (.ireturn, 1) := by decide +kernel
theorem dX7_errorAt_57 : decode cX7_errorAt 57 = .ok (.iinc 1 1, 3) := by decide +kernel
theorem dX7_errorAt_60 : decode cX7_errorAt 60 = .ok (.goto (-48), 3) := by decide +kernel
theorem dX7_errorAt_63 : decode cX7_errorAt 63 = .ok (.aload_n 0, 1) := by decide +kernel
theorem dX7_errorAt_64 : decode cX7_errorAt 64 = .ok (.getfield 149, 3) := by decide +kernel
theorem dX7_errorAt_67 : decode cX7_errorAt 67 = .ok (.ireturn, 1) := by decide +kernel
theorem dX7_firstError_0 : decode cX7_firstError 0 = .ok (.aload_n 0, 1) := by decide +kernel
theorem dX7_firstError_1 : decode cX7_firstError 1 = .ok (.iconst 0, 1) := by decide +kernel
theorem dX7_firstError_2 : decode cX7_firstError 2 = .ok (.putfield 37, 3) := by decide +kernel
theorem dX7_firstError_5 : decode cX7_firstError 5 = .ok (.aload_n 0, 1) := by decide +kernel
theorem dX7_firstError_6 : decode cX7_firstError 6 = .ok (.invokevirtual 171, 3) := by decide +kernel
theorem dX7_firstError_9 : decode cX7_firstError 9 = .ok (.ireturn, 1) := by decide +kernel
theorem dX7_isTune_0 : decode cX7_isTune 0 = .ok (.aload_n 0, 1) := by decide +kernel
theorem dX7_isTune_1 : decode cX7_isTune 1 = .ok (.invokevirtual 171, 3) := by decide +kernel
theorem dX7_isTune_4 : decode cX7_isTune 4 = .ok (.aload_n 0, 1) := by decide +kernel
theorem dX7_isTune_5 : decode cX7_isTune 5 = .ok (.getfield 149, 3) := by decide +kernel
theorem dX7_isTune_8 : decode cX7_isTune 8 = .ok (.if_icmp .ne 21, 3) := by decide +kernel
theorem dX7_isTune_11 : decode cX7_isTune 11 = .ok (.aload_n 0, 1) := by decide +kernel
theorem dX7_isTune_12 : decode cX7_isTune 12 = .ok (.getfield 155, 3) := by decide +kernel
theorem dX7_isTune_15 : decode cX7_isTune 15 = .ok (.ifCond .ne 14, 3) := by decide +kernel
theorem dX7_isTune_18 : decode cX7_isTune 18 = .ok (.aload_n 0, 1) := by decide +kernel
theorem dX7_isTune_19 : decode cX7_isTune 19 = .ok (.getfield 152, 3) := by decide +kernel
theorem dX7_isTune_22 : decode cX7_isTune 22 = .ok (.ifCond .le 7, 3) := by decide +kernel
theorem dX7_isTune_25 : decode cX7_isTune 25 = .ok (.iconst 1, 1) := by decide +kernel
theorem dX7_isTune_26 : decode cX7_isTune 26 = .ok (.goto 4, 3) := by decide +kernel
theorem dX7_isTune_29 : decode cX7_isTune 29 = .ok (.iconst 0, 1) := by decide +kernel
theorem dX7_isTune_30 : decode cX7_isTune 30 = .ok (.ireturn, 1) := by decide +kernel
theorem dX7_learn_0 : decode cX7_learn 0 = .ok (.aload_n 0, 1) := by decide +kernel
theorem dX7_learn_1 : decode cX7_learn 1 = .ok (.aload_n 0, 1) := by decide +kernel
theorem dX7_learn_2 : decode cX7_learn 2 = .ok (.iload_n 1, 1) := by decide +kernel
theorem dX7_learn_3 : decode cX7_learn 3 = .ok (.invokevirtual 45, 3) := by decide +kernel
theorem dX7_learn_6 : decode cX7_learn 6 = .ok (.ifCond .ne 7, 3) := by decide +kernel
theorem dX7_learn_9 : decode cX7_learn 9 = .ok (.iconst 1, 1) := by decide +kernel
theorem dX7_learn_10 : decode cX7_learn 10 = .ok (.goto 15, 3) := by decide +kernel
theorem dX7_learn_13 : decode cX7_learn 13 = .ok (.aload_n 0, 1) := by decide +kernel
theorem dX7_learn_14 : decode cX7_learn 14 = .ok (.invokevirtual 174, 3) := by decide +kernel
theorem dX7_learn_17 : decode cX7_learn 17 = .ok (.ifCond .ne 7, 3) := by decide +kernel
theorem dX7_learn_20 : decode cX7_learn 20 = .ok (.iconst 2, 1) := by decide +kernel
theorem dX7_learn_21 : decode cX7_learn 21 = .ok (.goto 4, 3) := by decide +kernel
theorem dX7_learn_24 : decode cX7_learn 24 = .ok (.iconst 0, 1) := by decide +kernel
theorem dX7_learn_25 : decode cX7_learn 25 = .ok (.putfield 37, 3) := by decide +kernel
theorem dX7_learn_28 : decode cX7_learn 28 = .ok (.aload_n 0, 1) := by decide +kernel
theorem dX7_learn_29 : decode cX7_learn 29 = .ok (.getfield 37, 3) := by decide +kernel
theorem dX7_learn_32 : decode cX7_learn 32 = .ok (.ifCond .eq 5, 3) := by decide +kernel
theorem dX7_learn_35 : decode cX7_learn 35 = .ok (.iconst 0, 1) := by decide +kernel
theorem dX7_learn_36 : decode cX7_learn 36 = .ok (.ireturn, 1) := by decide +kernel
theorem dX7_learn_37 : decode cX7_learn 37 = .ok (.aload_n 0, 1) := by decide +kernel
theorem dX7_learn_38 : decode cX7_learn 38 = .ok (.invokevirtual 64, 3) := by decide +kernel
theorem dX7_learn_41 : decode cX7_learn 41 = .ok (.iconst 0, 1) := by decide +kernel
theorem dX7_learn_42 : decode cX7_learn 42 = .ok (.istore_n 2, 1) := by decide +kernel
theorem dX7_learn_43 : decode cX7_learn 43 = .ok (.iload_n 2, 1) := by decide +kernel
theorem dX7_learn_44 : decode cX7_learn 44 = .ok (.bipush 24, 2) := by decide +kernel
theorem dX7_learn_46 : decode cX7_learn 46 = .ok (.if_icmp .ge 40, 3) := by decide +kernel
theorem dX7_learn_49 : decode cX7_learn 49 = .ok (.aload_n 0, 1) := by decide +kernel
theorem dX7_learn_50 : decode cX7_learn 50 = .ok (.getfield 7, 3) := by decide +kernel
theorem dX7_learn_53 : decode cX7_learn 53 = .ok (.sipush 150, 3) := by decide +kernel
theorem dX7_learn_56 : decode cX7_learn 56 = .ok (.iload_n 1, 1) := by decide +kernel
theorem dX7_learn_57 : decode cX7_learn 57 = .ok (.iload_n 2, 1) := by decide +kernel
theorem dX7_learn_58 : decode cX7_learn 58 = .ok (.invokestatic 56, 3) := by decide +kernel
theorem dX7_learn_61 : decode cX7_learn 61 = .ok (.iload_n 2, 1) := by decide +kernel
theorem dX7_learn_62 : decode cX7_learn 62 = .ok (.aload_n 0, 1) := by decide +kernel
theorem dX7_learn_63 : decode cX7_learn 63 = .ok (.getfield 152, 3) := by decide +kernel
theorem dX7_learn_66 : decode cX7_learn 66 = .ok (.if_icmp .ge 12, 3) := by decide +kernel
theorem dX7_learn_69 : decode cX7_learn 69 = .ok (.aload_n 0, 1) := by decide +kernel
theorem dX7_learn_70 : decode cX7_learn 70 = .ok (.getfield 25, 3) := by decide +kernel
theorem dX7_learn_73 : decode cX7_learn 73 = .ok (.iload_n 2, 1) := by decide +kernel
theorem dX7_learn_74 : decode cX7_learn 74 = .ok (.iaload, 1) := by decide +kernel
theorem dX7_learn_75 : decode cX7_learn 75 = .ok (.goto 4, 3) := by decide +kernel
theorem dX7_learn_78 : decode cX7_learn 78 = .ok (.iconst 0, 1) := by decide +kernel
theorem dX7_learn_79 : decode cX7_learn 79 = .ok (.iastore, 1) := by decide +kernel
theorem dX7_learn_80 : decode cX7_learn 80 = .ok (.iinc 2 1, 3) := by decide +kernel
theorem dX7_learn_83 : decode cX7_learn 83 = .ok (.goto (-40), 3) := by decide +kernel
theorem dX7_learn_86 : decode cX7_learn 86 = .ok (.aload_n 0, 1) := by decide +kernel
theorem dX7_learn_87 : decode cX7_learn 87 = .ok (.iconst 0, 1) := by decide +kernel
theorem dX7_learn_88 : decode cX7_learn 88 = .ok (.putfield 149, 3) := by decide +kernel
theorem dX7_learn_91 : decode cX7_learn 91 = .ok (.aload_n 0, 1) := by decide +kernel
theorem dX7_learn_92 : decode cX7_learn 92 = .ok (.sipush 150, 3) := by decide +kernel
theorem dX7_learn_95 : decode cX7_learn 95 = .ok (.iload_n 1, 1) := by decide +kernel
theorem dX7_learn_96 : decode cX7_learn 96 = .ok (.invokevirtual 74, 3) := by decide +kernel
theorem dX7_learn_99 : decode cX7_learn 99 = .ok (.ireturn, 1) := by decide +kernel
theorem dX7_owedIn_0 : decode cX7_owedIn 0 = .ok (.iconst 0, 1) := by decide +kernel
theorem dX7_owedIn_1 : decode cX7_owedIn 1 = .ok (.istore_n 3, 1) := by decide +kernel
theorem dX7_owedIn_2 : decode cX7_owedIn 2 = .ok (.iconst 0, 1) := by decide +kernel
theorem dX7_owedIn_3 : decode cX7_owedIn 3 = .ok (.istore 4, 2) := by decide +kernel
theorem dX7_owedIn_5 : decode cX7_owedIn 5 = .ok (.iload 4, 2) := by decide +kernel
theorem dX7_owedIn_7 : decode cX7_owedIn 7 = .ok (.bipush 6, 2) := by decide +kernel
theorem dX7_owedIn_9 : decode cX7_owedIn 9 = .ok (.if_icmp .ge 41, 3) := by decide +kernel
theorem dX7_owedIn_12 : decode cX7_owedIn 12 = .ok (.iload_n 3, 1) := by decide +kernel
theorem dX7_owedIn_13 : decode cX7_owedIn 13 = .ok (.iload_n 2, 1) := by decide +kernel
theorem dX7_owedIn_14 : decode cX7_owedIn 14 = .ok (.ifCond .eq 17, 3) := by decide +kernel
theorem dX7_owedIn_17 : decode cX7_owedIn 17 = .ok (.aload_n 0, 1) := by decide +kernel
theorem dX7_owedIn_18 : decode cX7_owedIn 18 = .ok (.getfield 7, 3) := by decide +kernel
theorem dX7_owedIn_21 : decode cX7_owedIn 21 = .ok (.iload 4, 2) := by decide +kernel
theorem dX7_owedIn_23 : decode cX7_owedIn 23 = .ok (.iload_n 1, 1) := by decide +kernel
theorem dX7_owedIn_24 : decode cX7_owedIn 24 = .ok (.invokestatic 123, 3) := by decide +kernel
theorem dX7_owedIn_27 : decode cX7_owedIn 27 = .ok (.iaload, 1) := by decide +kernel
theorem dX7_owedIn_28 : decode cX7_owedIn 28 = .ok (.goto 14, 3) := by decide +kernel
theorem dX7_owedIn_31 : decode cX7_owedIn 31 = .ok (.aload_n 0, 1) := by decide +kernel
theorem dX7_owedIn_32 : decode cX7_owedIn 32 = .ok (.getfield 7, 3) := by decide +kernel
theorem dX7_owedIn_35 : decode cX7_owedIn 35 = .ok (.iload_n 1, 1) := by decide +kernel
theorem dX7_owedIn_36 : decode cX7_owedIn 36 = .ok (.iload 4, 2) := by decide +kernel
theorem dX7_owedIn_38 : decode cX7_owedIn 38 = .ok (.invokestatic 123, 3) := by decide +kernel
theorem dX7_owedIn_41 : decode cX7_owedIn 41 = .ok (.iaload, 1) := by decide +kernel
theorem dX7_owedIn_42 : decode cX7_owedIn 42 = .ok (.iadd, 1) := by decide +kernel
theorem dX7_owedIn_43 : decode cX7_owedIn 43 = .ok (.istore_n 3, 1) := by decide +kernel
theorem dX7_owedIn_44 : decode cX7_owedIn 44 = .ok (.iinc 4 1, 3) := by decide +kernel
theorem dX7_owedIn_47 : decode cX7_owedIn 47 = .ok (.goto (-42), 3) := by decide +kernel
theorem dX7_owedIn_50 : decode cX7_owedIn 50 = .ok (.iload_n 3, 1) := by decide +kernel
theorem dX7_owedIn_51 : decode cX7_owedIn 51 = .ok (.ireturn, 1) := by decide +kernel
theorem dX7_townOf_0 : decode cX7_townOf 0 = .ok (.iload_n 2, 1) := by decide +kernel
theorem dX7_townOf_1 : decode cX7_townOf 1 = .ok (.tableswitch 176 0 10 #[59, 68, 76, 85, 93, 109, 126, 126, 143, 154, 165], 59) := by decide +kernel
theorem dX7_townOf_60 : decode cX7_townOf 60 = .ok (.aload_n 0, 1) := by decide +kernel
theorem dX7_townOf_61 : decode cX7_townOf 61 = .ok (.getfield 7, 3) := by decide +kernel
theorem dX7_townOf_64 : decode cX7_townOf 64 = .ok (.iconst 0, 1) := by decide +kernel
theorem dX7_townOf_65 : decode cX7_townOf 65 = .ok (.iload_n 1, 1) := by decide +kernel
theorem dX7_townOf_66 : decode cX7_townOf 66 = .ok (.iadd, 1) := by decide +kernel
theorem dX7_townOf_67 : decode cX7_townOf 67 = .ok (.iaload, 1) := by decide +kernel
theorem dX7_townOf_68 : decode cX7_townOf 68 = .ok (.ireturn, 1) := by decide +kernel
theorem dX7_townOf_69 : decode cX7_townOf 69 = .ok (.aload_n 0, 1) := by decide +kernel
theorem dX7_townOf_70 : decode cX7_townOf 70 = .ok (.bipush 6, 2) := by decide +kernel
theorem dX7_townOf_72 : decode cX7_townOf 72 = .ok (.iload_n 1, 1) := by decide +kernel
theorem dX7_townOf_73 : decode cX7_townOf 73 = .ok (.invokevirtual 74, 3) := by decide +kernel
theorem dX7_townOf_76 : decode cX7_townOf 76 = .ok (.ireturn, 1) := by decide +kernel
theorem dX7_townOf_77 : decode cX7_townOf 77 = .ok (.aload_n 0, 1) := by decide +kernel
theorem dX7_townOf_78 : decode cX7_townOf 78 = .ok (.sipush 150, 3) := by decide +kernel
theorem dX7_townOf_81 : decode cX7_townOf 81 = .ok (.iload_n 1, 1) := by decide +kernel
theorem dX7_townOf_82 : decode cX7_townOf 82 = .ok (.invokevirtual 74, 3) := by decide +kernel
theorem dX7_townOf_85 : decode cX7_townOf 85 = .ok (.ireturn, 1) := by decide +kernel
theorem dX7_townOf_86 : decode cX7_townOf 86 = .ok (.aload_n 0, 1) := by decide +kernel
theorem dX7_townOf_87 : decode cX7_townOf 87 = .ok (.iload_n 1, 1) := by decide +kernel
theorem dX7_townOf_88 : decode cX7_townOf 88 = .ok (.iload_n 1, 1) := by decide +kernel
theorem dX7_townOf_89 : decode cX7_townOf 89 = .ok (.iconst 0, 1) := by decide +kernel
theorem dX7_townOf_90 : decode cX7_townOf 90 = .ok (.invokevirtual 78, 3) := by decide +kernel
theorem dX7_townOf_93 : decode cX7_townOf 93 = .ok (.ireturn, 1) := by decide +kernel
theorem dX7_townOf_94 : decode cX7_townOf 94 = .ok (.aload_n 0, 1) := by decide +kernel
theorem dX7_townOf_95 : decode cX7_townOf 95 = .ok (.bipush 6, 2) := by decide +kernel
theorem dX7_townOf_97 : decode cX7_townOf 97 = .ok (.iload_n 1, 1) := by decide +kernel
theorem dX7_townOf_98 : decode cX7_townOf 98 = .ok (.invokevirtual 74, 3) := by decide +kernel
theorem dX7_townOf_101 : decode cX7_townOf 101 = .ok (.aload_n 0, 1) := by decide +kernel
theorem dX7_townOf_102 : decode cX7_townOf 102 = .ok (.iload_n 1, 1) := by decide +kernel
theorem dX7_townOf_103 : decode cX7_townOf 103 = .ok (.iload_n 1, 1) := by decide +kernel
theorem dX7_townOf_104 : decode cX7_townOf 104 = .ok (.iconst 0, 1) := by decide +kernel
theorem dX7_townOf_105 : decode cX7_townOf 105 = .ok (.invokevirtual 78, 3) := by decide +kernel
theorem dX7_townOf_108 : decode cX7_townOf 108 = .ok (.isub, 1) := by decide +kernel
theorem dX7_townOf_109 : decode cX7_townOf 109 = .ok (.ireturn, 1) := by decide +kernel
theorem dX7_townOf_110 : decode cX7_townOf 110 = .ok (.aload_n 0, 1) := by decide +kernel
theorem dX7_townOf_111 : decode cX7_townOf 111 = .ok (.sipush 150, 3) := by decide +kernel
theorem dX7_townOf_114 : decode cX7_townOf 114 = .ok (.iload_n 1, 1) := by decide +kernel
theorem dX7_townOf_115 : decode cX7_townOf 115 = .ok (.invokevirtual 74, 3) := by decide +kernel
theorem dX7_townOf_118 : decode cX7_townOf 118 = .ok (.aload_n 0, 1) := by decide +kernel
theorem dX7_townOf_119 : decode cX7_townOf 119 = .ok (.iload_n 1, 1) := by decide +kernel
theorem dX7_townOf_120 : decode cX7_townOf 120 = .ok (.iload_n 1, 1) := by decide +kernel
theorem dX7_townOf_121 : decode cX7_townOf 121 = .ok (.iconst 0, 1) := by decide +kernel
theorem dX7_townOf_122 : decode cX7_townOf 122 = .ok (.invokevirtual 78, 3) := by decide +kernel
theorem dX7_townOf_125 : decode cX7_townOf 125 = .ok (.isub, 1) := by decide +kernel
theorem dX7_townOf_126 : decode cX7_townOf 126 = .ok (.ireturn, 1) := by decide +kernel
theorem dX7_townOf_127 : decode cX7_townOf 127 = .ok (.aload_n 0, 1) := by decide +kernel
theorem dX7_townOf_128 : decode cX7_townOf 128 = .ok (.iload_n 1, 1) := by decide +kernel
theorem dX7_townOf_129 : decode cX7_townOf 129 = .ok (.iload_n 2, 1) := by decide +kernel
theorem dX7_townOf_130 : decode cX7_townOf 130 = .ok (.bipush 7, 2) := by decide +kernel
theorem dX7_townOf_132 : decode cX7_townOf 132 = .ok (.if_icmp .ne 7, 3) := by decide +kernel
theorem dX7_townOf_135 : decode cX7_townOf 135 = .ok (.iconst 1, 1) := by decide +kernel
theorem dX7_townOf_136 : decode cX7_townOf 136 = .ok (.goto 4, 3) := by decide +kernel
theorem dX7_townOf_139 : decode cX7_townOf 139 = .ok (.iconst 0, 1) := by decide +kernel
theorem dX7_townOf_140 : decode cX7_townOf 140 = .ok (.invokevirtual 177, 3) := by decide +kernel
theorem dX7_townOf_143 : decode cX7_townOf 143 = .ok (.ireturn, 1) := by decide +kernel
theorem dX7_townOf_144 : decode cX7_townOf 144 = .ok (.aload_n 0, 1) := by decide +kernel
theorem dX7_townOf_145 : decode cX7_townOf 145 = .ok (.getfield 7, 3) := by decide +kernel
theorem dX7_townOf_148 : decode cX7_townOf 148 = .ok (.sipush 402, 3) := by decide +kernel
theorem dX7_townOf_151 : decode cX7_townOf 151 = .ok (.iload_n 1, 1) := by decide +kernel
theorem dX7_townOf_152 : decode cX7_townOf 152 = .ok (.iadd, 1) := by decide +kernel
theorem dX7_townOf_153 : decode cX7_townOf 153 = .ok (.iaload, 1) := by decide +kernel
theorem dX7_townOf_154 : decode cX7_townOf 154 = .ok (.ireturn, 1) := by decide +kernel
theorem dX7_townOf_155 : decode cX7_townOf 155 = .ok (.aload_n 0, 1) := by decide +kernel
theorem dX7_townOf_156 : decode cX7_townOf 156 = .ok (.getfield 7, 3) := by decide +kernel
theorem dX7_townOf_159 : decode cX7_townOf 159 = .ok (.sipush 408, 3) := by decide +kernel
theorem dX7_townOf_162 : decode cX7_townOf 162 = .ok (.iload_n 1, 1) := by decide +kernel
theorem dX7_townOf_163 : decode cX7_townOf 163 = .ok (.iadd, 1) := by decide +kernel
theorem dX7_townOf_164 : decode cX7_townOf 164 = .ok (.iaload, 1) := by decide +kernel
theorem dX7_townOf_165 : decode cX7_townOf 165 = .ok (.ireturn, 1) := by decide +kernel
theorem dX7_townOf_166 : decode cX7_townOf 166 = .ok (.aload_n 0, 1) := by decide +kernel
theorem dX7_townOf_167 : decode cX7_townOf 167 = .ok (.getfield 7, 3) := by decide +kernel
theorem dX7_townOf_170 : decode cX7_townOf 170 = .ok (.sipush 414, 3) := by decide +kernel
theorem dX7_townOf_173 : decode cX7_townOf 173 = .ok (.iload_n 1, 1) := by decide +kernel
theorem dX7_townOf_174 : decode cX7_townOf 174 = .ok (.iadd, 1) := by decide +kernel
theorem dX7_townOf_175 : decode cX7_townOf 175 = .ok (.iaload, 1) := by decide +kernel
theorem dX7_townOf_176 : decode cX7_townOf 176 = .ok (.ireturn, 1) := by decide +kernel
theorem dX7_townOf_177 : decode cX7_townOf 177 = .ok (.aload_n 0, 1) := by decide +kernel
theorem dX7_townOf_178 : decode cX7_townOf 178 = .ok (.iconst 0, 1) := by decide +kernel
theorem dX7_townOf_179 : decode cX7_townOf 179 = .ok (.iload_n 1, 1) := by decide +kernel
theorem dX7_townOf_180 : decode cX7_townOf 180 = .ok (.invokevirtual 107, 3) := by decide +kernel
theorem dX7_townOf_183 : decode cX7_townOf 183 = .ok (.ireturn, 1) := by decide +kernel
theorem dX7_town_0 : decode cX7_town 0 = .ok (.aload_n 0, 1) := by decide +kernel
theorem dX7_town_1 : decode cX7_town 1 = .ok (.aload_n 0, 1) := by decide +kernel
theorem dX7_town_2 : decode cX7_town 2 = .ok (.iload_n 1, 1) := by decide +kernel
theorem dX7_town_3 : decode cX7_town 3 = .ok (.invokevirtual 45, 3) := by decide +kernel
theorem dX7_town_6 : decode cX7_town 6 = .ok (.ifCond .ne 7, 3) := by decide +kernel
theorem dX7_town_9 : decode cX7_town 9 = .ok (.iconst 1, 1) := by decide +kernel
theorem dX7_town_10 : decode cX7_town 10 = .ok (.goto 18, 3) := by decide +kernel
theorem dX7_town_13 : decode cX7_town 13 = .ok (.iload_n 2, 1) := by decide +kernel
theorem dX7_town_14 : decode cX7_town 14 = .ok (.iconst 0, 1) := by decide +kernel
theorem dX7_town_15 : decode cX7_town 15 = .ok (.bipush 11, 2) := by decide +kernel
theorem dX7_town_17 : decode cX7_town 17 = .ok (.invokestatic 41, 3) := by decide +kernel
theorem dX7_town_20 : decode cX7_town 20 = .ok (.ifCond .ne 7, 3) := by decide +kernel
theorem dX7_town_23 : decode cX7_town 23 = .ok (.iconst 2, 1) := by decide +kernel
theorem dX7_town_24 : decode cX7_town 24 = .ok (.goto 4, 3) := by decide +kernel
theorem dX7_town_27 : decode cX7_town 27 = .ok (.iconst 0, 1) := by decide +kernel
theorem dX7_town_28 : decode cX7_town 28 = .ok (.putfield 37, 3) := by decide +kernel
theorem dX7_town_31 : decode cX7_town 31 = .ok (.aload_n 0, 1) := by decide +kernel
theorem dX7_town_32 : decode cX7_town 32 = .ok (.getfield 37, 3) := by decide +kernel
theorem dX7_town_35 : decode cX7_town 35 = .ok (.ifCond .ne 12, 3) := by decide +kernel
theorem dX7_town_38 : decode cX7_town 38 = .ok (.aload_n 0, 1) := by decide +kernel
theorem dX7_town_39 : decode cX7_town 39 = .ok (.iload_n 1, 1) := by decide +kernel
theorem dX7_town_40 : decode cX7_town 40 = .ok (.iload_n 2, 1) := by decide +kernel
theorem dX7_town_41 : decode cX7_town 41 = .ok (.invokevirtual 181, 3) := by decide +kernel
theorem dX7_town_44 : decode cX7_town 44 = .ok (.goto 4, 3) := by decide +kernel
theorem dX7_town_47 : decode cX7_town 47 = .ok (.iconst 0, 1) := by decide +kernel
theorem dX7_town_48 : decode cX7_town 48 = .ok (.ireturn, 1) := by decide +kernel
theorem dX7_stepOf_0 : decode cX7_stepOf 0 = .ok (.iload_n 3, 1) := by decide +kernel
theorem dX7_stepOf_1 : decode cX7_stepOf 1 = .ok (.iconst 2, 1) := by decide +kernel
theorem dX7_stepOf_2 : decode cX7_stepOf 2 = .ok (.if_icmp .ge 26, 3) := by decide +kernel
theorem dX7_stepOf_5 : decode cX7_stepOf 5 = .ok (.aload_n 0, 1) := by decide +kernel
theorem dX7_stepOf_6 : decode cX7_stepOf 6 = .ok (.getfield 7, 3) := by decide +kernel
theorem dX7_stepOf_9 : decode cX7_stepOf 9 = .ok (.iload_n 3, 1) := by decide +kernel
theorem dX7_stepOf_10 : decode cX7_stepOf 10 = .ok (.ifCond .ne 8, 3) := by decide +kernel
theorem dX7_stepOf_13 : decode cX7_stepOf 13 = .ok (.bipush 6, 2) := by decide +kernel
theorem dX7_stepOf_15 : decode cX7_stepOf 15 = .ok (.goto 6, 3) := by decide +kernel
theorem dX7_stepOf_18 : decode cX7_stepOf 18 = .ok (.sipush 150, 3) := by decide +kernel
theorem dX7_stepOf_21 : decode cX7_stepOf 21 = .ok (.iload_n 1, 1) := by decide +kernel
theorem dX7_stepOf_22 : decode cX7_stepOf 22 = .ok (.iload_n 2, 1) := by decide +kernel
theorem dX7_stepOf_23 : decode cX7_stepOf 23 = .ok (.invokestatic 56, 3) := by decide +kernel
theorem dX7_stepOf_26 : decode cX7_stepOf 26 = .ok (.iaload, 1) := by decide +kernel
theorem dX7_stepOf_27 : decode cX7_stepOf 27 = .ok (.ireturn, 1) := by decide +kernel
theorem dX7_stepOf_28 : decode cX7_stepOf 28 = .ok (.aload_n 0, 1) := by decide +kernel
theorem dX7_stepOf_29 : decode cX7_stepOf 29 = .ok (.iload_n 1, 1) := by decide +kernel
theorem dX7_stepOf_30 : decode cX7_stepOf 30 = .ok (.invokevirtual 103, 3) := by decide +kernel
theorem dX7_stepOf_33 : decode cX7_stepOf 33 = .ok (.aload_n 0, 1) := by decide +kernel
theorem dX7_stepOf_34 : decode cX7_stepOf 34 = .ok (.getfield 19, 3) := by decide +kernel
theorem dX7_stepOf_37 : decode cX7_stepOf 37 = .ok (.iload_n 2, 1) := by decide +kernel
theorem dX7_stepOf_38 : decode cX7_stepOf 38 = .ok (.iaload, 1) := by decide +kernel
theorem dX7_stepOf_39 : decode cX7_stepOf 39 = .ok (.ireturn, 1) := by decide +kernel
theorem dX7_step_0 : decode cX7_step 0 = .ok (.aload_n 0, 1) := by decide +kernel
theorem dX7_step_1 : decode cX7_step 1 = .ok (.aload_n 0, 1) := by decide +kernel
theorem dX7_step_2 : decode cX7_step 2 = .ok (.iload_n 1, 1) := by decide +kernel
theorem dX7_step_3 : decode cX7_step 3 = .ok (.iload_n 2, 1) := by decide +kernel
theorem dX7_step_4 : decode cX7_step 4 = .ok (.iconst 0, 1) := by decide +kernel
theorem dX7_step_5 : decode cX7_step 5 = .ok (.invokevirtual 67, 3) := by decide +kernel
theorem dX7_step_8 : decode cX7_step 8 = .ok (.ifCond .ne 7, 3) := by decide +kernel
theorem dX7_step_11 : decode cX7_step 11 = .ok (.iconst 1, 1) := by decide +kernel
theorem dX7_step_12 : decode cX7_step 12 = .ok (.goto 17, 3) := by decide +kernel
theorem dX7_step_15 : decode cX7_step 15 = .ok (.iload_n 3, 1) := by decide +kernel
theorem dX7_step_16 : decode cX7_step 16 = .ok (.iconst 0, 1) := by decide +kernel
theorem dX7_step_17 : decode cX7_step 17 = .ok (.iconst 2, 1) := by decide +kernel
theorem dX7_step_18 : decode cX7_step 18 = .ok (.invokestatic 41, 3) := by decide +kernel
theorem dX7_step_21 : decode cX7_step 21 = .ok (.ifCond .ne 7, 3) := by decide +kernel
theorem dX7_step_24 : decode cX7_step 24 = .ok (.iconst 2, 1) := by decide +kernel
theorem dX7_step_25 : decode cX7_step 25 = .ok (.goto 4, 3) := by decide +kernel
theorem dX7_step_28 : decode cX7_step 28 = .ok (.iconst 0, 1) := by decide +kernel
theorem dX7_step_29 : decode cX7_step 29 = .ok (.putfield 37, 3) := by decide +kernel
theorem dX7_step_32 : decode cX7_step 32 = .ok (.aload_n 0, 1) := by decide +kernel
theorem dX7_step_33 : decode cX7_step 33 = .ok (.getfield 37, 3) := by decide +kernel
theorem dX7_step_36 : decode cX7_step 36 = .ok (.ifCond .ne 13, 3) := by decide +kernel
theorem dX7_step_39 : decode cX7_step 39 = .ok (.aload_n 0, 1) := by decide +kernel
theorem dX7_step_40 : decode cX7_step 40 = .ok (.iload_n 1, 1) := by decide +kernel
theorem dX7_step_41 : decode cX7_step 41 = .ok (.iload_n 2, 1) := by decide +kernel
theorem dX7_step_42 : decode cX7_step 42 = .ok (.iload_n 3, 1) := by decide +kernel
theorem dX7_step_43 : decode cX7_step 43 = .ok (.invokevirtual 184, 3) := by decide +kernel
theorem dX7_step_46 : decode cX7_step 46 = .ok (.goto 4, 3) := by decide +kernel
theorem dX7_step_49 : decode cX7_step 49 = .ok (.iconst 0, 1) := by decide +kernel
theorem dX7_step_50 : decode cX7_step 50 = .ok (.ireturn, 1) := by decide +kernel
theorem dX7_sumOf_0 : decode cX7_sumOf 0 = .ok (.iconst 0, 1) := by decide +kernel
theorem dX7_sumOf_1 : decode cX7_sumOf 1 = .ok (.istore_n 2, 1) := by decide +kernel
theorem dX7_sumOf_2 : decode cX7_sumOf 2 = .ok (.iconst 0, 1) := by decide +kernel
theorem dX7_sumOf_3 : decode cX7_sumOf 3 = .ok (.istore_n 3, 1) := by decide +kernel
theorem dX7_sumOf_4 : decode cX7_sumOf 4 = .ok (.iload_n 3, 1) := by decide +kernel
theorem dX7_sumOf_5 : decode cX7_sumOf 5 = .ok (.aload_n 0, 1) := by decide +kernel
theorem dX7_sumOf_6 : decode cX7_sumOf 6 = .ok (.getfield 7, 3) := by decide +kernel
theorem dX7_sumOf_9 : decode cX7_sumOf 9 = .ok (.sipush 423, 3) := by decide +kernel
theorem dX7_sumOf_12 : decode cX7_sumOf 12 = .ok (.iaload, 1) := by decide +kernel
theorem dX7_sumOf_13 : decode cX7_sumOf 13 = .ok (.if_icmp .ge 18, 3) := by decide +kernel
theorem dX7_sumOf_16 : decode cX7_sumOf 16 = .ok (.iload_n 2, 1) := by decide +kernel
theorem dX7_sumOf_17 : decode cX7_sumOf 17 = .ok (.aload_n 0, 1) := by decide +kernel
theorem dX7_sumOf_18 : decode cX7_sumOf 18 = .ok (.iload_n 3, 1) := by decide +kernel
theorem dX7_sumOf_19 : decode cX7_sumOf 19 = .ok (.iload_n 1, 1) := by decide +kernel
theorem dX7_sumOf_20 : decode cX7_sumOf 20 = .ok (.invokevirtual 181, 3) := by decide +kernel
theorem dX7_sumOf_23 : decode cX7_sumOf 23 = .ok (.iadd, 1) := by decide +kernel
theorem dX7_sumOf_24 : decode cX7_sumOf 24 = .ok (.istore_n 2, 1) := by decide +kernel
theorem dX7_sumOf_25 : decode cX7_sumOf 25 = .ok (.iinc 3 1, 3) := by decide +kernel
theorem dX7_sumOf_28 : decode cX7_sumOf 28 = .ok (.goto (-24), 3) := by decide +kernel
theorem dX7_sumOf_31 : decode cX7_sumOf 31 = .ok (.iload_n 2, 1) := by decide +kernel
theorem dX7_sumOf_32 : decode cX7_sumOf 32 = .ok (.ireturn, 1) := by decide +kernel
theorem dX7_owing_0 : decode cX7_owing 0 = .ok (.iconst 0, 1) := by decide +kernel
theorem dX7_owing_1 : decode cX7_owing 1 = .ok (.istore_n 1, 1) := by decide +kernel
theorem dX7_owing_2 : decode cX7_owing 2 = .ok (.iconst 0, 1) := by decide +kernel
theorem dX7_owing_3 : decode cX7_owing 3 = .ok (.istore_n 2, 1) := by decide +kernel
theorem dX7_owing_4 : decode cX7_owing 4 = .ok (.iload_n 2, 1) := by decide +kernel
theorem dX7_owing_5 : decode cX7_owing 5 = .ok (.bipush 36, 2) := by decide +kernel
theorem dX7_owing_7 : decode cX7_owing 7 = .ok (.if_icmp .ge 30, 3) := by decide +kernel
theorem dX7_owing_10 : decode cX7_owing 10 = .ok (.iload_n 1, 1) := by decide +kernel
theorem dX7_owing_11 : decode cX7_owing 11 = .ok (.aload_n 0, 1) := by decide +kernel
theorem dX7_owing_12 : decode cX7_owing 12 = .ok (.getfield 7, 3) := by decide +kernel
theorem dX7_owing_15 : decode cX7_owing 15 = .ok (.sipush 366, 3) := by decide +kernel
theorem dX7_owing_18 : decode cX7_owing 18 = .ok (.iload_n 2, 1) := by decide +kernel
theorem dX7_owing_19 : decode cX7_owing 19 = .ok (.iadd, 1) := by decide +kernel
theorem dX7_owing_20 : decode cX7_owing 20 = .ok (.iaload, 1) := by decide +kernel
theorem dX7_owing_21 : decode cX7_owing 21 = .ok (.ifCond .le 7, 3) := by decide +kernel
theorem dX7_owing_24 : decode cX7_owing 24 = .ok (.iconst 1, 1) := by decide +kernel
theorem dX7_owing_25 : decode cX7_owing 25 = .ok (.goto 4, 3) := by decide +kernel
theorem dX7_owing_28 : decode cX7_owing 28 = .ok (.iconst 0, 1) := by decide +kernel
theorem dX7_owing_29 : decode cX7_owing 29 = .ok (.iadd, 1) := by decide +kernel
theorem dX7_owing_30 : decode cX7_owing 30 = .ok (.istore_n 1, 1) := by decide +kernel
theorem dX7_owing_31 : decode cX7_owing 31 = .ok (.iinc 2 1, 3) := by decide +kernel
theorem dX7_owing_34 : decode cX7_owing 34 = .ok (.goto (-30), 3) := by decide +kernel
theorem dX7_owing_37 : decode cX7_owing 37 = .ok (.iload_n 1, 1) := by decide +kernel
theorem dX7_owing_38 : decode cX7_owing 38 = .ok (.ireturn, 1) := by decide +kernel
theorem dX7_countOf_0 : decode cX7_countOf 0 = .ok (.iload_n 1, 1) := by decide +kernel
theorem dX7_countOf_1 : decode cX7_countOf 1 = .ok (.tableswitch 136 0 9 #[55, 64, 76, 82, 89, 94, 103, 112, 121, 130], 55) := by decide +kernel
theorem dX7_countOf_56 : decode cX7_countOf 56 = .ok (.aload_n 0, 1) := by decide +kernel
theorem dX7_countOf_57 : decode cX7_countOf 57 = .ok (.getfield 7, 3) := by decide +kernel
theorem dX7_countOf_60 : decode cX7_countOf 60 = .ok (.sipush 423, 3) := by decide +kernel
theorem dX7_countOf_63 : decode cX7_countOf 63 = .ok (.iaload, 1) := by decide +kernel
theorem dX7_countOf_64 : decode cX7_countOf 64 = .ok (.ireturn, 1) := by decide +kernel
theorem dX7_countOf_65 : decode cX7_countOf 65 = .ok (.aload_n 0, 1) := by decide +kernel
theorem dX7_countOf_66 : decode cX7_countOf 66 = .ok (.iconst 0, 1) := by decide +kernel
theorem dX7_countOf_67 : decode cX7_countOf 67 = .ok (.invokevirtual 187, 3) := by decide +kernel
theorem dX7_countOf_70 : decode cX7_countOf 70 = .ok (.aload_n 0, 1) := by decide +kernel
theorem dX7_countOf_71 : decode cX7_countOf 71 = .ok (.iconst 1, 1) := by decide +kernel
theorem dX7_countOf_72 : decode cX7_countOf 72 = .ok (.invokevirtual 187, 3) := by decide +kernel
theorem dX7_countOf_75 : decode cX7_countOf 75 = .ok (.iadd, 1) := by decide +kernel
theorem dX7_countOf_76 : decode cX7_countOf 76 = .ok (.ireturn, 1) := by decide +kernel
theorem dX7_countOf_77 : decode cX7_countOf 77 = .ok (.aload_n 0, 1) := by decide +kernel
theorem dX7_countOf_78 : decode cX7_countOf 78 = .ok (.iconst 0, 1) := by decide +kernel
theorem dX7_countOf_79 : decode cX7_countOf 79 = .ok (.invokevirtual 187, 3) := by decide +kernel
theorem dX7_countOf_82 : decode cX7_countOf 82 = .ok (.ireturn, 1) := by decide +kernel
theorem dX7_countOf_83 : decode cX7_countOf 83 = .ok (.aload_n 0, 1) := by decide +kernel
theorem dX7_countOf_84 : decode cX7_countOf 84 = .ok (.bipush 6, 2) := by decide +kernel
theorem dX7_countOf_86 : decode cX7_countOf 86 = .ok (.invokevirtual 187, 3) := by decide +kernel
theorem dX7_countOf_89 : decode cX7_countOf 89 = .ok (.ireturn, 1) := by decide +kernel
theorem dX7_countOf_90 : decode cX7_countOf 90 = .ok (.aload_n 0, 1) := by decide +kernel
theorem dX7_countOf_91 : decode cX7_countOf 91 = .ok (.invokevirtual 190, 3) := by decide +kernel
theorem dX7_countOf_94 : decode cX7_countOf 94 = .ok (.ireturn, 1) := by decide +kernel
theorem dX7_countOf_95 : decode cX7_countOf 95 = .ok (.aload_n 0, 1) := by decide +kernel
theorem dX7_countOf_96 : decode cX7_countOf 96 = .ok (.getfield 7, 3) := by decide +kernel
theorem dX7_countOf_99 : decode cX7_countOf 99 = .ok (.sipush 424, 3) := by decide +kernel
theorem dX7_countOf_102 : decode cX7_countOf 102 = .ok (.iaload, 1) := by decide +kernel
theorem dX7_countOf_103 : decode cX7_countOf 103 = .ok (.ireturn, 1) := by decide +kernel
theorem dX7_countOf_104 : decode cX7_countOf 104 = .ok (.aload_n 0, 1) := by decide +kernel
theorem dX7_countOf_105 : decode cX7_countOf 105 = .ok (.getfield 7, 3) := by decide +kernel
theorem dX7_countOf_108 : decode cX7_countOf 108 = .ok (.sipush 425, 3) := by decide +kernel
theorem dX7_countOf_111 : decode cX7_countOf 111 = .ok (.iaload, 1) := by decide +kernel
theorem dX7_countOf_112 : decode cX7_countOf 112 = .ok (.ireturn, 1) := by decide +kernel
theorem dX7_countOf_113 : decode cX7_countOf 113 = .ok (.aload_n 0, 1) := by decide +kernel
theorem dX7_countOf_114 : decode cX7_countOf 114 = .ok (.getfield 7, 3) := by decide +kernel
theorem dX7_countOf_117 : decode cX7_countOf 117 = .ok (.sipush 426, 3) := by decide +kernel
theorem dX7_countOf_120 : decode cX7_countOf 120 = .ok (.iaload, 1) := by decide +kernel
theorem dX7_countOf_121 : decode cX7_countOf 121 = .ok (.ireturn, 1) := by decide +kernel
theorem dX7_countOf_122 : decode cX7_countOf 122 = .ok (.aload_n 0, 1) := by decide +kernel
theorem dX7_countOf_123 : decode cX7_countOf 123 = .ok (.getfield 7, 3) := by decide +kernel
theorem dX7_countOf_126 : decode cX7_countOf 126 = .ok (.sipush 427, 3) := by decide +kernel
theorem dX7_countOf_129 : decode cX7_countOf 129 = .ok (.iaload, 1) := by decide +kernel
theorem dX7_countOf_130 : decode cX7_countOf 130 = .ok (.ireturn, 1) := by decide +kernel
theorem dX7_countOf_131 : decode cX7_countOf 131 = .ok (.aload_n 0, 1) := by decide +kernel
theorem dX7_countOf_132 : decode cX7_countOf 132 = .ok (.iconst 3, 1) := by decide +kernel
theorem dX7_countOf_133 : decode cX7_countOf 133 = .ok (.invokevirtual 187, 3) := by decide +kernel
theorem dX7_countOf_136 : decode cX7_countOf 136 = .ok (.ireturn, 1) := by decide +kernel
theorem dX7_countOf_137 : decode cX7_countOf 137 = .ok (.aload_n 0, 1) := by decide +kernel
theorem dX7_countOf_138 : decode cX7_countOf 138 = .ok (.getfield 49, 3) := by decide +kernel
theorem dX7_countOf_141 : decode cX7_countOf 141 = .ok (.ireturn, 1) := by decide +kernel
theorem dX7_count_0 : decode cX7_count 0 = .ok (.aload_n 0, 1) := by decide +kernel
theorem dX7_count_1 : decode cX7_count 1 = .ok (.iload_n 1, 1) := by decide +kernel
theorem dX7_count_2 : decode cX7_count 2 = .ok (.iconst 0, 1) := by decide +kernel
theorem dX7_count_3 : decode cX7_count 3 = .ok (.bipush 10, 2) := by decide +kernel
theorem dX7_count_5 : decode cX7_count 5 = .ok (.invokestatic 41, 3) := by decide +kernel
theorem dX7_count_8 : decode cX7_count 8 = .ok (.ifCond .eq 7, 3) := by decide +kernel
theorem dX7_count_11 : decode cX7_count 11 = .ok (.iconst 0, 1) := by decide +kernel
theorem dX7_count_12 : decode cX7_count 12 = .ok (.goto 4, 3) := by decide +kernel
theorem dX7_count_15 : decode cX7_count 15 = .ok (.iconst 1, 1) := by decide +kernel
theorem dX7_count_16 : decode cX7_count 16 = .ok (.putfield 37, 3) := by decide +kernel
theorem dX7_count_19 : decode cX7_count 19 = .ok (.aload_n 0, 1) := by decide +kernel
theorem dX7_count_20 : decode cX7_count 20 = .ok (.getfield 37, 3) := by decide +kernel
theorem dX7_count_23 : decode cX7_count 23 = .ok (.ifCond .ne 11, 3) := by decide +kernel
theorem dX7_count_26 : decode cX7_count 26 = .ok (.aload_n 0, 1) := by decide +kernel
theorem dX7_count_27 : decode cX7_count 27 = .ok (.iload_n 1, 1) := by decide +kernel
theorem dX7_count_28 : decode cX7_count 28 = .ok (.invokevirtual 193, 3) := by decide +kernel
theorem dX7_count_31 : decode cX7_count 31 = .ok (.goto 4, 3) := by decide +kernel
theorem dX7_count_34 : decode cX7_count 34 = .ok (.iconst 0, 1) := by decide +kernel
theorem dX7_count_35 : decode cX7_count 35 = .ok (.ireturn, 1) := by decide +kernel
theorem dX7_bestTurnOf_0 : decode cX7_bestTurnOf 0 = .ok (.iconst 0, 1) := by decide +kernel
theorem dX7_bestTurnOf_1 : decode cX7_bestTurnOf 1 = .ok (.istore_n 3, 1) := by decide +kernel
theorem dX7_bestTurnOf_2 : decode cX7_bestTurnOf 2 = .ok (.iconst 1, 1) := by decide +kernel
theorem dX7_bestTurnOf_3 : decode cX7_bestTurnOf 3 = .ok (.istore 4, 2) := by decide +kernel
theorem dX7_bestTurnOf_5 : decode cX7_bestTurnOf 5 = .ok (.iload 4, 2) := by decide +kernel
theorem dX7_bestTurnOf_7 : decode cX7_bestTurnOf 7 = .ok (.bipush 24, 2) := by decide +kernel
theorem dX7_bestTurnOf_9 : decode cX7_bestTurnOf 9 = .ok (.if_icmp .ge 34, 3) := by decide +kernel
theorem dX7_bestTurnOf_12 : decode cX7_bestTurnOf 12 = .ok (.aload_n 0, 1) := by decide +kernel
theorem dX7_bestTurnOf_13 : decode cX7_bestTurnOf 13 = .ok (.iload_n 1, 1) := by decide +kernel
theorem dX7_bestTurnOf_14 : decode cX7_bestTurnOf 14 = .ok (.iload_n 1, 1) := by decide +kernel
theorem dX7_bestTurnOf_15 : decode cX7_bestTurnOf 15 = .ok (.iload 4, 2) := by decide +kernel
theorem dX7_bestTurnOf_17 : decode cX7_bestTurnOf 17 = .ok (.invokevirtual 78, 3) := by decide +kernel
theorem dX7_bestTurnOf_20 : decode cX7_bestTurnOf 20 = .ok (.aload_n 0, 1) := by decide +kernel
theorem dX7_bestTurnOf_21 : decode cX7_bestTurnOf 21 = .ok (.iload_n 1, 1) := by decide +kernel
theorem dX7_bestTurnOf_22 : decode cX7_bestTurnOf 22 = .ok (.iload_n 1, 1) := by decide +kernel
theorem dX7_bestTurnOf_23 : decode cX7_bestTurnOf 23 = .ok (.iload_n 3, 1) := by decide +kernel
theorem dX7_bestTurnOf_24 : decode cX7_bestTurnOf 24 = .ok (.invokevirtual 78, 3) := by decide +kernel
theorem dX7_bestTurnOf_27 : decode cX7_bestTurnOf 27 = .ok (.if_icmp .le 8, 3) := by decide +kernel
theorem dX7_bestTurnOf_30 : decode cX7_bestTurnOf 30 = .ok (.iload 4, 2) := by decide +kernel
theorem dX7_bestTurnOf_32 : decode cX7_bestTurnOf 32 = .ok (.goto 4, 3) := by decide +kernel
theorem dX7_bestTurnOf_35 : decode cX7_bestTurnOf 35 = .ok (.iload_n 3, 1) := by decide +kernel
theorem dX7_bestTurnOf_36 : decode cX7_bestTurnOf 36 = .ok (.istore_n 3, 1) := by decide +kernel
theorem dX7_bestTurnOf_37 : decode cX7_bestTurnOf 37 = .ok (.iinc 4 1, 3) := by decide +kernel
theorem dX7_bestTurnOf_40 : decode cX7_bestTurnOf 40 = .ok (.goto (-35), 3) := by decide +kernel
theorem dX7_bestTurnOf_43 : decode cX7_bestTurnOf 43 = .ok (.iload_n 2, 1) := by decide +kernel
theorem dX7_bestTurnOf_44 : decode cX7_bestTurnOf 44 = .ok (.ifCond .ne 7, 3) := by decide +kernel
theorem dX7_bestTurnOf_47 : decode cX7_bestTurnOf 47 = .ok (.iload_n 3, 1) := by decide +kernel
theorem dX7_bestTurnOf_48 : decode cX7_bestTurnOf 48 = .ok (.goto 10, 3) := by decide +kernel
theorem dX7_bestTurnOf_51 : decode cX7_bestTurnOf 51 = .ok (.aload_n 0, 1) := by decide +kernel
theorem dX7_bestTurnOf_52 : decode cX7_bestTurnOf 52 = .ok (.iload_n 1, 1) := by decide +kernel
theorem dX7_bestTurnOf_53 : decode cX7_bestTurnOf 53 = .ok (.iload_n 1, 1) := by decide +kernel
theorem dX7_bestTurnOf_54 : decode cX7_bestTurnOf 54 = .ok (.iload_n 3, 1) := by decide +kernel
theorem dX7_bestTurnOf_55 : decode cX7_bestTurnOf 55 = .ok (.invokevirtual 78, 3) := by decide +kernel
theorem dX7_bestTurnOf_58 : decode cX7_bestTurnOf 58 = .ok (.ireturn, 1) := by decide +kernel
theorem dX7_bestTurn_0 : decode cX7_bestTurn 0 = .ok (.aload_n 0, 1) := by decide +kernel
theorem dX7_bestTurn_1 : decode cX7_bestTurn 1 = .ok (.aload_n 0, 1) := by decide +kernel
theorem dX7_bestTurn_2 : decode cX7_bestTurn 2 = .ok (.iload_n 1, 1) := by decide +kernel
theorem dX7_bestTurn_3 : decode cX7_bestTurn 3 = .ok (.invokevirtual 45, 3) := by decide +kernel
theorem dX7_bestTurn_6 : decode cX7_bestTurn 6 = .ok (.ifCond .ne 7, 3) := by decide +kernel
theorem dX7_bestTurn_9 : decode cX7_bestTurn 9 = .ok (.iconst 1, 1) := by decide +kernel
theorem dX7_bestTurn_10 : decode cX7_bestTurn 10 = .ok (.goto 17, 3) := by decide +kernel
theorem dX7_bestTurn_13 : decode cX7_bestTurn 13 = .ok (.iload_n 2, 1) := by decide +kernel
theorem dX7_bestTurn_14 : decode cX7_bestTurn 14 = .ok (.iconst 0, 1) := by decide +kernel
theorem dX7_bestTurn_15 : decode cX7_bestTurn 15 = .ok (.iconst 1, 1) := by decide +kernel
theorem dX7_bestTurn_16 : decode cX7_bestTurn 16 = .ok (.invokestatic 41, 3) := by decide +kernel
theorem dX7_bestTurn_19 : decode cX7_bestTurn 19 = .ok (.ifCond .ne 7, 3) := by decide +kernel
theorem dX7_bestTurn_22 : decode cX7_bestTurn 22 = .ok (.iconst 2, 1) := by decide +kernel
theorem dX7_bestTurn_23 : decode cX7_bestTurn 23 = .ok (.goto 4, 3) := by decide +kernel
theorem dX7_bestTurn_26 : decode cX7_bestTurn 26 = .ok (.iconst 0, 1) := by decide +kernel
theorem dX7_bestTurn_27 : decode cX7_bestTurn 27 = .ok (.putfield 37, 3) := by decide +kernel
theorem dX7_bestTurn_30 : decode cX7_bestTurn 30 = .ok (.aload_n 0, 1) := by decide +kernel
theorem dX7_bestTurn_31 : decode cX7_bestTurn 31 = .ok (.getfield 37, 3) := by decide +kernel
theorem dX7_bestTurn_34 : decode cX7_bestTurn 34 = .ok (.ifCond .ne 12, 3) := by decide +kernel
theorem dX7_bestTurn_37 : decode cX7_bestTurn 37 = .ok (.aload_n 0, 1) := by decide +kernel
theorem dX7_bestTurn_38 : decode cX7_bestTurn 38 = .ok (.iload_n 1, 1) := by decide +kernel
theorem dX7_bestTurn_39 : decode cX7_bestTurn 39 = .ok (.iload_n 2, 1) := by decide +kernel
theorem dX7_bestTurn_40 : decode cX7_bestTurn 40 = .ok (.invokevirtual 196, 3) := by decide +kernel
theorem dX7_bestTurn_43 : decode cX7_bestTurn 43 = .ok (.goto 4, 3) := by decide +kernel
theorem dX7_bestTurn_46 : decode cX7_bestTurn 46 = .ok (.iconst 0, 1) := by decide +kernel
theorem dX7_bestTurn_47 : decode cX7_bestTurn 47 = .ok (.ireturn, 1) := by decide +kernel
theorem dX7_bestDrumOf_0 : decode cX7_bestDrumOf 0 = .ok (.iconst (-1), 1) := by decide +kernel
theorem dX7_bestDrumOf_1 : decode cX7_bestDrumOf 1 = .ok (.istore_n 2, 1) := by decide +kernel
theorem dX7_bestDrumOf_2 : decode cX7_bestDrumOf 2 = .ok (.iconst 0, 1) := by decide +kernel
theorem dX7_bestDrumOf_3 : decode cX7_bestDrumOf 3 = .ok (.istore_n 3, 1) := by decide +kernel
theorem dX7_bestDrumOf_4 : decode cX7_bestDrumOf 4 = .ok (.iload_n 3, 1) := by decide +kernel
theorem dX7_bestDrumOf_5 : decode cX7_bestDrumOf 5 = .ok (.aload_n 0, 1) := by decide +kernel
theorem dX7_bestDrumOf_6 : decode cX7_bestDrumOf 6 = .ok (.getfield 7, 3) := by decide +kernel
theorem dX7_bestDrumOf_9 : decode cX7_bestDrumOf 9 = .ok (.sipush 423, 3) := by decide +kernel
theorem dX7_bestDrumOf_12 : decode cX7_bestDrumOf 12 = .ok (.iaload, 1) := by decide +kernel
theorem dX7_bestDrumOf_13 : decode cX7_bestDrumOf 13 = .ok (.if_icmp .ge 42, 3) := by decide +kernel
theorem dX7_bestDrumOf_16 : decode cX7_bestDrumOf 16 = .ok (.iload_n 3, 1) := by decide +kernel
theorem dX7_bestDrumOf_17 : decode cX7_bestDrumOf 17 = .ok (.iload_n 1, 1) := by decide +kernel
theorem dX7_bestDrumOf_18 : decode cX7_bestDrumOf 18 = .ok (.if_icmp .eq 29, 3) := by decide +kernel
theorem dX7_bestDrumOf_21 : decode cX7_bestDrumOf 21 = .ok (.iload_n 2, 1) := by decide +kernel
theorem dX7_bestDrumOf_22 : decode cX7_bestDrumOf 22 = .ok (.iconst (-1), 1) := by decide +kernel
theorem dX7_bestDrumOf_23 : decode cX7_bestDrumOf 23 = .ok (.if_icmp .eq 20, 3) := by decide +kernel
theorem dX7_bestDrumOf_26 : decode cX7_bestDrumOf 26 = .ok (.aload_n 0, 1) := by decide +kernel
theorem dX7_bestDrumOf_27 : decode cX7_bestDrumOf 27 = .ok (.iload_n 3, 1) := by decide +kernel
theorem dX7_bestDrumOf_28 : decode cX7_bestDrumOf 28 = .ok (.iload_n 1, 1) := by decide +kernel
theorem dX7_bestDrumOf_29 : decode cX7_bestDrumOf 29 = .ok (.iconst 0, 1) := by decide +kernel
theorem dX7_bestDrumOf_30 : decode cX7_bestDrumOf 30 = .ok (.invokevirtual 78, 3) := by decide +kernel
theorem dX7_bestDrumOf_33 : decode cX7_bestDrumOf 33 = .ok (.aload_n 0, 1) := by decide +kernel
theorem dX7_bestDrumOf_34 : decode cX7_bestDrumOf 34 = .ok (.iload_n 2, 1) := by decide +kernel
theorem dX7_bestDrumOf_35 : decode cX7_bestDrumOf 35 = .ok (.iload_n 1, 1) := by decide +kernel
theorem dX7_bestDrumOf_36 : decode cX7_bestDrumOf 36 = .ok (.iconst 0, 1) := by decide +kernel
theorem dX7_bestDrumOf_37 : decode cX7_bestDrumOf 37 = .ok (.invokevirtual 78, 3) := by decide +kernel
theorem dX7_bestDrumOf_40 : decode cX7_bestDrumOf 40 = .ok (.if_icmp .le 7, 3) := by decide +kernel
theorem dX7_bestDrumOf_43 : decode cX7_bestDrumOf 43 = .ok (.iload_n 3, 1) := by decide +kernel
theorem dX7_bestDrumOf_44 : decode cX7_bestDrumOf 44 = .ok (.goto 4, 3) := by decide +kernel
theorem dX7_bestDrumOf_47 : decode cX7_bestDrumOf 47 = .ok (.iload_n 2, 1) := by decide +kernel
theorem dX7_bestDrumOf_48 : decode cX7_bestDrumOf 48 = .ok (.istore_n 2, 1) := by decide +kernel
theorem dX7_bestDrumOf_49 : decode cX7_bestDrumOf 49 = .ok (.iinc 3 1, 3) := by decide +kernel
theorem dX7_bestDrumOf_52 : decode cX7_bestDrumOf 52 = .ok (.goto (-48), 3) := by decide +kernel
theorem dX7_bestDrumOf_55 : decode cX7_bestDrumOf 55 = .ok (.iload_n 2, 1) := by decide +kernel
theorem dX7_bestDrumOf_56 : decode cX7_bestDrumOf 56 = .ok (.ireturn, 1) := by decide +kernel
theorem dX7_bestDrum_0 : decode cX7_bestDrum 0 = .ok (.aload_n 0, 1) := by decide +kernel
theorem dX7_bestDrum_1 : decode cX7_bestDrum 1 = .ok (.aload_n 0, 1) := by decide +kernel
theorem dX7_bestDrum_2 : decode cX7_bestDrum 2 = .ok (.iload_n 1, 1) := by decide +kernel
theorem dX7_bestDrum_3 : decode cX7_bestDrum 3 = .ok (.invokevirtual 45, 3) := by decide +kernel
theorem dX7_bestDrum_6 : decode cX7_bestDrum 6 = .ok (.ifCond .eq 7, 3) := by decide +kernel
theorem dX7_bestDrum_9 : decode cX7_bestDrum 9 = .ok (.iconst 0, 1) := by decide +kernel
theorem dX7_bestDrum_10 : decode cX7_bestDrum 10 = .ok (.goto 4, 3) := by decide +kernel
theorem dX7_bestDrum_13 : decode cX7_bestDrum 13 = .ok (.iconst 1, 1) := by decide +kernel
theorem dX7_bestDrum_14 : decode cX7_bestDrum 14 = .ok (.putfield 37, 3) := by decide +kernel
theorem dX7_bestDrum_17 : decode cX7_bestDrum 17 = .ok (.aload_n 0, 1) := by decide +kernel
theorem dX7_bestDrum_18 : decode cX7_bestDrum 18 = .ok (.getfield 37, 3) := by decide +kernel
theorem dX7_bestDrum_21 : decode cX7_bestDrum 21 = .ok (.ifCond .ne 11, 3) := by decide +kernel
theorem dX7_bestDrum_24 : decode cX7_bestDrum 24 = .ok (.aload_n 0, 1) := by decide +kernel
theorem dX7_bestDrum_25 : decode cX7_bestDrum 25 = .ok (.iload_n 1, 1) := by decide +kernel
theorem dX7_bestDrum_26 : decode cX7_bestDrum 26 = .ok (.invokevirtual 199, 3) := by decide +kernel
theorem dX7_bestDrum_29 : decode cX7_bestDrum 29 = .ok (.goto 4, 3) := by decide +kernel
theorem dX7_bestDrum_32 : decode cX7_bestDrum 32 = .ok (.iconst 0, 1) := by decide +kernel
theorem dX7_bestDrum_33 : decode cX7_bestDrum 33 = .ok (.ireturn, 1) := by decide +kernel
theorem dX7_broughtBy_0 : decode cX7_broughtBy 0 = .ok (.iload_n 1, 1) := by decide +kernel
theorem dX7_broughtBy_1 : decode cX7_broughtBy 1 = .ok (.istore_n 2, 1) := by decide +kernel
theorem dX7_broughtBy_2 : decode cX7_broughtBy 2 = .ok (.iconst 0, 1) := by decide +kernel
theorem dX7_broughtBy_3 : decode cX7_broughtBy 3 = .ok (.istore_n 3, 1) := by decide +kernel
theorem dX7_broughtBy_4 : decode cX7_broughtBy 4 = .ok (.iconst 0, 1) := by decide +kernel
theorem dX7_broughtBy_5 : decode cX7_broughtBy 5 = .ok (.istore 4, 2) := by decide +kernel
theorem dX7_broughtBy_7 : decode cX7_broughtBy 7 = .ok (.aload_n 0, 1) := by decide +kernel
theorem dX7_broughtBy_8 : decode cX7_broughtBy 8 = .ok (.getfield 7, 3) := by decide +kernel
theorem dX7_broughtBy_11 : decode cX7_broughtBy 11 = .ok (.sipush 423, 3) := by decide +kernel
theorem dX7_broughtBy_14 : decode cX7_broughtBy 14 = .ok (.iaload, 1) := by decide +kernel
theorem dX7_broughtBy_15 : decode cX7_broughtBy 15 = .ok (.iconst 1, 1) := by decide +kernel
theorem dX7_broughtBy_16 : decode cX7_broughtBy 16 = .ok (.isub, 1) := by decide +kernel
theorem dX7_broughtBy_17 : decode cX7_broughtBy 17 = .ok (.istore 5, 2) := by decide +kernel
theorem dX7_broughtBy_19 : decode cX7_broughtBy 19 = .ok (.iload 5, 2) := by decide +kernel
theorem dX7_broughtBy_21 : decode cX7_broughtBy 21 = .ok (.ifCond .lt 88, 3) := by decide +kernel
theorem dX7_broughtBy_24 : decode cX7_broughtBy 24 = .ok (.aload_n 0, 1) := by decide +kernel
theorem dX7_broughtBy_25 : decode cX7_broughtBy 25 = .ok (.getfield 31, 3) := by decide +kernel
theorem dX7_broughtBy_28 : decode cX7_broughtBy 28 = .ok (.iload 5, 2) := by decide +kernel
theorem dX7_broughtBy_30 : decode cX7_broughtBy 30 = .ok (.iload_n 2, 1) := by decide +kernel
theorem dX7_broughtBy_31 : decode cX7_broughtBy 31 = .ok (.aload_n 0, 1) := by decide +kernel
theorem dX7_broughtBy_32 : decode cX7_broughtBy 32 = .ok (.getfield 7, 3) := by decide +kernel
theorem dX7_broughtBy_35 : decode cX7_broughtBy 35 = .ok (.sipush 423, 3) := by decide +kernel
theorem dX7_broughtBy_38 : decode cX7_broughtBy 38 = .ok (.iaload, 1) := by decide +kernel
theorem dX7_broughtBy_39 : decode cX7_broughtBy 39 = .ok (.irem, 1) := by decide +kernel
theorem dX7_broughtBy_40 : decode cX7_broughtBy 40 = .ok (.iastore, 1) := by decide +kernel
theorem dX7_broughtBy_41 : decode cX7_broughtBy 41 = .ok (.iload_n 2, 1) := by decide +kernel
theorem dX7_broughtBy_42 : decode cX7_broughtBy 42 = .ok (.aload_n 0, 1) := by decide +kernel
theorem dX7_broughtBy_43 : decode cX7_broughtBy 43 = .ok (.getfield 7, 3) := by decide +kernel
theorem dX7_broughtBy_46 : decode cX7_broughtBy 46 = .ok (.sipush 423, 3) := by decide +kernel
theorem dX7_broughtBy_49 : decode cX7_broughtBy 49 = .ok (.iaload, 1) := by decide +kernel
theorem dX7_broughtBy_50 : decode cX7_broughtBy 50 = .ok (.idiv, 1) := by decide +kernel
theorem dX7_broughtBy_51 : decode cX7_broughtBy 51 = .ok (.istore_n 2, 1) := by decide +kernel
theorem dX7_broughtBy_52 : decode cX7_broughtBy 52 = .ok (.iload_n 3, 1) := by decide +kernel
theorem dX7_broughtBy_53 : decode cX7_broughtBy 53 = .ok (.aload_n 0, 1) := by decide +kernel
theorem dX7_broughtBy_54 : decode cX7_broughtBy 54 = .ok (.getfield 31, 3) := by decide +kernel
theorem dX7_broughtBy_57 : decode cX7_broughtBy 57 = .ok (.iload 5, 2) := by decide +kernel
theorem dX7_broughtBy_59 : decode cX7_broughtBy 59 = .ok (.iaload, 1) := by decide +kernel
theorem dX7_broughtBy_60 : decode cX7_broughtBy 60 = .ok (.invokestatic 70, 3) := by decide +kernel
theorem dX7_broughtBy_63 : decode cX7_broughtBy 63 = .ok (.ifCond .eq 5, 3) := by decide +kernel
theorem dX7_broughtBy_66 : decode cX7_broughtBy 66 = .ok (.iconst (-1), 1) := by decide +kernel
theorem dX7_broughtBy_67 : decode cX7_broughtBy 67 = .ok (.ireturn, 1) := by decide +kernel
theorem dX7_broughtBy_68 : decode cX7_broughtBy 68 = .ok (.iload_n 3, 1) := by decide +kernel
theorem dX7_broughtBy_69 : decode cX7_broughtBy 69 = .ok (.iconst 1, 1) := by decide +kernel
theorem dX7_broughtBy_70 : decode cX7_broughtBy 70 = .ok (.aload_n 0, 1) := by decide +kernel
theorem dX7_broughtBy_71 : decode cX7_broughtBy 71 = .ok (.getfield 31, 3) := by decide +kernel
theorem dX7_broughtBy_74 : decode cX7_broughtBy 74 = .ok (.iload 5, 2) := by decide +kernel
theorem dX7_broughtBy_76 : decode cX7_broughtBy 76 = .ok (.iaload, 1) := by decide +kernel
theorem dX7_broughtBy_77 : decode cX7_broughtBy 77 = .ok (.ishl, 1) := by decide +kernel
theorem dX7_broughtBy_78 : decode cX7_broughtBy 78 = .ok (.ior, 1) := by decide +kernel
theorem dX7_broughtBy_79 : decode cX7_broughtBy 79 = .ok (.istore_n 3, 1) := by decide +kernel
theorem dX7_broughtBy_80 : decode cX7_broughtBy 80 = .ok (.iload 4, 2) := by decide +kernel
theorem dX7_broughtBy_82 : decode cX7_broughtBy 82 = .ok (.aload_n 0, 1) := by decide +kernel
theorem dX7_broughtBy_83 : decode cX7_broughtBy 83 = .ok (.getfield 28, 3) := by decide +kernel
theorem dX7_broughtBy_86 : decode cX7_broughtBy 86 = .ok (.bipush 6, 2) := by decide +kernel
theorem dX7_broughtBy_88 : decode cX7_broughtBy 88 = .ok (.iload 5, 2) := by decide +kernel
theorem dX7_broughtBy_90 : decode cX7_broughtBy 90 = .ok (.imul, 1) := by decide +kernel
theorem dX7_broughtBy_91 : decode cX7_broughtBy 91 = .ok (.aload_n 0, 1) := by decide +kernel
theorem dX7_broughtBy_92 : decode cX7_broughtBy 92 = .ok (.getfield 31, 3) := by decide +kernel
theorem dX7_broughtBy_95 : decode cX7_broughtBy 95 = .ok (.iload 5, 2) := by decide +kernel
theorem dX7_broughtBy_97 : decode cX7_broughtBy 97 = .ok (.iaload, 1) := by decide +kernel
theorem dX7_broughtBy_98 : decode cX7_broughtBy 98 = .ok (.iadd, 1) := by decide +kernel
theorem dX7_broughtBy_99 : decode cX7_broughtBy 99 = .ok (.iaload, 1) := by decide +kernel
theorem dX7_broughtBy_100 : decode cX7_broughtBy 100 = .ok (.iadd, 1) := by decide +kernel
theorem dX7_broughtBy_101 : decode cX7_broughtBy 101 = .ok (.istore 4, 2) := by decide +kernel
theorem dX7_broughtBy_103 : decode cX7_broughtBy 103 = .ok (.iinc 5 (-1), 3) := by decide +kernel
theorem dX7_broughtBy_106 : decode cX7_broughtBy 106 = .ok (.goto (-87), 3) := by decide +kernel
theorem dX7_broughtBy_109 : decode cX7_broughtBy 109 = .ok (.iload 4, 2) := by decide +kernel
theorem dX7_broughtBy_111 : decode cX7_broughtBy 111 = .ok (.ireturn, 1) := by decide +kernel
theorem dX7_bestTradesOf_0 : decode cX7_bestTradesOf 0 = .ok (.iconst 1, 1) := by decide +kernel
theorem dX7_bestTradesOf_1 : decode cX7_bestTradesOf 1 = .ok (.istore_n 2, 1) := by decide +kernel
theorem dX7_bestTradesOf_2 : decode cX7_bestTradesOf 2 = .ok (.iconst 0, 1) := by decide +kernel
theorem dX7_bestTradesOf_3 : decode cX7_bestTradesOf 3 = .ok (.istore_n 3, 1) := by decide +kernel
theorem dX7_bestTradesOf_4 : decode cX7_bestTradesOf 4 = .ok (.iload_n 3, 1) := by decide +kernel
theorem dX7_bestTradesOf_5 : decode cX7_bestTradesOf 5 = .ok (.bipush 36, 2) := by decide +kernel
theorem dX7_bestTradesOf_7 : decode cX7_bestTradesOf 7 = .ok (.if_icmp .ge 62, 3) := by decide +kernel
theorem dX7_bestTradesOf_10 : decode cX7_bestTradesOf 10 = .ok (.aload_n 0, 1) := by decide +kernel
theorem dX7_bestTradesOf_11 : decode cX7_bestTradesOf 11 = .ok (.getfield 28, 3) := by decide +kernel
theorem dX7_bestTradesOf_14 : decode cX7_bestTradesOf 14 = .ok (.iload_n 3, 1) := by decide +kernel
theorem dX7_bestTradesOf_15 : decode cX7_bestTradesOf 15 = .ok (.iload_n 3, 1) := by decide +kernel
theorem dX7_bestTradesOf_16 : decode cX7_bestTradesOf 16 = .ok (.bipush 6, 2) := by decide +kernel
theorem dX7_bestTradesOf_18 : decode cX7_bestTradesOf 18 = .ok (.idiv, 1) := by decide +kernel
theorem dX7_bestTradesOf_19 : decode cX7_bestTradesOf 19 = .ok (.aload_n 0, 1) := by decide +kernel
theorem dX7_bestTradesOf_20 : decode cX7_bestTradesOf 20 = .ok (.getfield 7, 3) := by decide +kernel
theorem dX7_bestTradesOf_23 : decode cX7_bestTradesOf 23 = .ok (.sipush 423, 3) := by decide +kernel
theorem dX7_bestTradesOf_26 : decode cX7_bestTradesOf 26 = .ok (.iaload, 1) := by decide +kernel
theorem dX7_bestTradesOf_27 : decode cX7_bestTradesOf 27 = .ok (.if_icmp .ge 34, 3) := by decide +kernel
theorem dX7_bestTradesOf_30 : decode cX7_bestTradesOf 30 = .ok (.iload_n 3, 1) := by decide +kernel
theorem dX7_bestTradesOf_31 : decode cX7_bestTradesOf 31 = .ok (.bipush 6, 2) := by decide +kernel
theorem dX7_bestTradesOf_33 : decode cX7_bestTradesOf 33 = .ok (.irem, 1) := by decide +kernel
theorem dX7_bestTradesOf_34 : decode cX7_bestTradesOf 34 = .ok (.aload_n 0, 1) := by decide +kernel
theorem dX7_bestTradesOf_35 : decode cX7_bestTradesOf 35 = .ok (.getfield 7, 3) := by decide +kernel
theorem dX7_bestTradesOf_38 : decode cX7_bestTradesOf 38 = .ok (.sipush 423, 3) := by decide +kernel
theorem dX7_bestTradesOf_41 : decode cX7_bestTradesOf 41 = .ok (.iaload, 1) := by decide +kernel
theorem dX7_bestTradesOf_42 : decode cX7_bestTradesOf 42 = .ok (.if_icmp .ge 19, 3) := by decide +kernel
theorem dX7_bestTradesOf_45 : decode cX7_bestTradesOf 45 = .ok (.aload_n 0, 1) := by decide +kernel
theorem dX7_bestTradesOf_46 : decode cX7_bestTradesOf 46 = .ok (.iload_n 3, 1) := by decide +kernel
theorem dX7_bestTradesOf_47 : decode cX7_bestTradesOf 47 = .ok (.bipush 6, 2) := by decide +kernel
theorem dX7_bestTradesOf_49 : decode cX7_bestTradesOf 49 = .ok (.irem, 1) := by decide +kernel
theorem dX7_bestTradesOf_50 : decode cX7_bestTradesOf 50 = .ok (.iload_n 3, 1) := by decide +kernel
theorem dX7_bestTradesOf_51 : decode cX7_bestTradesOf 51 = .ok (.bipush 6, 2) := by decide +kernel
theorem dX7_bestTradesOf_53 : decode cX7_bestTradesOf 53 = .ok (.idiv, 1) := by decide +kernel
theorem dX7_bestTradesOf_54 : decode cX7_bestTradesOf 54 = .ok (.iconst 0, 1) := by decide +kernel
theorem dX7_bestTradesOf_55 : decode cX7_bestTradesOf 55 = .ok (.invokevirtual 78, 3) := by decide +kernel
theorem dX7_bestTradesOf_58 : decode cX7_bestTradesOf 58 = .ok (.goto 4, 3) := by decide +kernel
theorem dX7_bestTradesOf_61 : decode cX7_bestTradesOf 61 = .ok (.iconst 0, 1) := by decide +kernel
theorem dX7_bestTradesOf_62 : decode cX7_bestTradesOf 62 = .ok (.iastore, 1) := by decide +kernel
theorem dX7_bestTradesOf_63 : decode cX7_bestTradesOf 63 = .ok (.iinc 3 1, 3) := by decide +kernel
theorem dX7_bestTradesOf_66 : decode cX7_bestTradesOf 66 = .ok (.goto (-62), 3) := by decide +kernel
theorem dX7_bestTradesOf_69 : decode cX7_bestTradesOf 69 = .ok (.iconst 0, 1) := by decide +kernel
theorem dX7_bestTradesOf_70 : decode cX7_bestTradesOf 70 = .ok (.istore_n 3, 1) := by decide +kernel
theorem dX7_bestTradesOf_71 : decode cX7_bestTradesOf 71 = .ok (.iload_n 3, 1) := by decide +kernel
theorem dX7_bestTradesOf_72 : decode cX7_bestTradesOf 72 = .ok (.aload_n 0, 1) := by decide +kernel
theorem dX7_bestTradesOf_73 : decode cX7_bestTradesOf 73 = .ok (.getfield 7, 3) := by decide +kernel
theorem dX7_bestTradesOf_76 : decode cX7_bestTradesOf 76 = .ok (.sipush 423, 3) := by decide +kernel
theorem dX7_bestTradesOf_79 : decode cX7_bestTradesOf 79 = .ok (.iaload, 1) := by decide +kernel
theorem dX7_bestTradesOf_80 : decode cX7_bestTradesOf 80 = .ok (.if_icmp .ge 20, 3) := by decide +kernel
theorem dX7_bestTradesOf_83 : decode cX7_bestTradesOf 83 = .ok (.iload_n 2, 1) := by decide +kernel
theorem dX7_bestTradesOf_84 : decode cX7_bestTradesOf 84 = .ok (.aload_n 0, 1) := by decide +kernel
theorem dX7_bestTradesOf_85 : decode cX7_bestTradesOf 85 = .ok (.getfield 7, 3) := by decide +kernel
theorem dX7_bestTradesOf_88 : decode cX7_bestTradesOf 88 = .ok (.sipush 423, 3) := by decide +kernel
theorem dX7_bestTradesOf_91 : decode cX7_bestTradesOf 91 = .ok (.iaload, 1) := by decide +kernel
theorem dX7_bestTradesOf_92 : decode cX7_bestTradesOf 92 = .ok (.imul, 1) := by decide +kernel
theorem dX7_bestTradesOf_93 : decode cX7_bestTradesOf 93 = .ok (.istore_n 2, 1) := by decide +kernel
theorem dX7_bestTradesOf_94 : decode cX7_bestTradesOf 94 = .ok (.iinc 3 1, 3) := by decide +kernel
theorem dX7_bestTradesOf_97 : decode cX7_bestTradesOf 97 = .ok (.goto (-26), 3) := by decide +kernel
theorem dX7_bestTradesOf_100 : decode cX7_bestTradesOf 100 = .ok (.iconst (-1), 1) := by decide +kernel
theorem dX7_bestTradesOf_101 : decode cX7_bestTradesOf 101 = .ok (.istore_n 3, 1) := by decide +kernel
theorem dX7_bestTradesOf_102 : decode cX7_bestTradesOf 102 = .ok (.iconst 0, 1) := by decide +kernel
theorem dX7_bestTradesOf_103 : decode cX7_bestTradesOf 103 = .ok (.istore 4, 2) := by decide +kernel
theorem dX7_bestTradesOf_105 : decode cX7_bestTradesOf 105 = .ok (.iload 4, 2) := by decide +kernel
theorem dX7_bestTradesOf_107 : decode cX7_bestTradesOf 107 = .ok (.iload_n 2, 1) := by decide +kernel
theorem dX7_bestTradesOf_108 : decode cX7_bestTradesOf 108 = .ok (.if_icmp .ge 66, 3) := by decide +kernel
theorem dX7_bestTradesOf_111 : decode cX7_bestTradesOf 111 = .ok (.aload_n 0, 1) := by decide +kernel
theorem dX7_bestTradesOf_112 : decode cX7_bestTradesOf 112 = .ok (.iload 4, 2) := by decide +kernel
theorem dX7_bestTradesOf_114 : decode cX7_bestTradesOf 114 = .ok (.invokevirtual 202, 3) := by decide +kernel
theorem dX7_bestTradesOf_117 : decode cX7_bestTradesOf 117 = .ok (.istore 5, 2) := by decide +kernel
theorem dX7_bestTradesOf_119 : decode cX7_bestTradesOf 119 = .ok (.iconst 0, 1) := by decide +kernel
theorem dX7_bestTradesOf_120 : decode cX7_bestTradesOf 120 = .ok (.istore 6, 2) := by decide +kernel
theorem dX7_bestTradesOf_122 : decode cX7_bestTradesOf 122 = .ok (.iload 6, 2) := by decide +kernel
theorem dX7_bestTradesOf_124 : decode cX7_bestTradesOf 124 = .ok (.bipush 6, 2) := by decide +kernel
theorem dX7_bestTradesOf_126 : decode cX7_bestTradesOf 126 = .ok (.if_icmp .ge 29, 3) := by decide +kernel
theorem dX7_bestTradesOf_129 : decode cX7_bestTradesOf 129 = .ok (.iload 5, 2) := by decide +kernel
theorem dX7_bestTradesOf_131 : decode cX7_bestTradesOf 131 = .ok (.iload_n 3, 1) := by decide +kernel
theorem dX7_bestTradesOf_132 : decode cX7_bestTradesOf 132 = .ok (.if_icmp .le 23, 3) := by decide +kernel
theorem dX7_bestTradesOf_135 : decode cX7_bestTradesOf 135 = .ok (.aload_n 0, 1) := by decide +kernel
theorem dX7_bestTradesOf_136 : decode cX7_bestTradesOf 136 = .ok (.getfield 34, 3) := by decide +kernel
theorem dX7_bestTradesOf_139 : decode cX7_bestTradesOf 139 = .ok (.iload 6, 2) := by decide +kernel
theorem dX7_bestTradesOf_141 : decode cX7_bestTradesOf 141 = .ok (.aload_n 0, 1) := by decide +kernel
theorem dX7_bestTradesOf_142 : decode cX7_bestTradesOf 142 = .ok (.getfield 31, 3) := by decide +kernel
theorem dX7_bestTradesOf_145 : decode cX7_bestTradesOf 145 = .ok (.iload 6, 2) := by decide +kernel
theorem dX7_bestTradesOf_147 : decode cX7_bestTradesOf 147 = .ok (.iaload, 1) := by decide +kernel
theorem dX7_bestTradesOf_148 : decode cX7_bestTradesOf 148 = .ok (.iastore, 1) := by decide +kernel
theorem dX7_bestTradesOf_149 : decode cX7_bestTradesOf 149 = .ok (.iinc 6 1, 3) := by decide +kernel
theorem dX7_bestTradesOf_152 : decode cX7_bestTradesOf 152 = .ok (.goto (-30), 3) := by decide +kernel
theorem dX7_bestTradesOf_155 : decode cX7_bestTradesOf 155 = .ok (.iload 5, 2) := by decide +kernel
theorem dX7_bestTradesOf_157 : decode cX7_bestTradesOf 157 = .ok (.iload_n 3, 1) := by decide +kernel
theorem dX7_bestTradesOf_158 : decode cX7_bestTradesOf 158 = .ok (.if_icmp .le 8, 3) := by decide +kernel
theorem dX7_bestTradesOf_161 : decode cX7_bestTradesOf 161 = .ok (.iload 5, 2) := by decide +kernel
theorem dX7_bestTradesOf_163 : decode cX7_bestTradesOf 163 = .ok (.goto 4, 3) := by decide +kernel
theorem dX7_bestTradesOf_166 : decode cX7_bestTradesOf 166 = .ok (.iload_n 3, 1) := by decide +kernel
theorem dX7_bestTradesOf_167 : decode cX7_bestTradesOf 167 = .ok (.istore_n 3, 1) := by decide +kernel
theorem dX7_bestTradesOf_168 : decode cX7_bestTradesOf 168 = .ok (.iinc 4 1, 3) := by decide +kernel
theorem dX7_bestTradesOf_171 : decode cX7_bestTradesOf 171 = .ok (.goto (-66), 3) := by decide +kernel
theorem dX7_bestTradesOf_174 : decode cX7_bestTradesOf 174 = .ok (.iload_n 1, 1) := by decide +kernel
theorem dX7_bestTradesOf_175 : decode cX7_bestTradesOf 175 = .ok (.ifCond .ne 7, 3) := by decide +kernel
theorem dX7_bestTradesOf_178 : decode cX7_bestTradesOf 178 = .ok (.iload_n 3, 1) := by decide +kernel
theorem dX7_bestTradesOf_179 : decode cX7_bestTradesOf 179 = .ok (.goto 31, 3) := by decide +kernel
theorem dX7_bestTradesOf_182 : decode cX7_bestTradesOf 182 = .ok (.iload_n 1, 1) := by decide +kernel
theorem dX7_bestTradesOf_183 : decode cX7_bestTradesOf 183 = .ok (.bipush 10, 2) := by decide +kernel
theorem dX7_bestTradesOf_185 : decode cX7_bestTradesOf 185 = .ok (.isub, 1) := by decide +kernel
theorem dX7_bestTradesOf_186 : decode cX7_bestTradesOf 186 = .ok (.aload_n 0, 1) := by decide +kernel
theorem dX7_bestTradesOf_187 : decode cX7_bestTradesOf 187 = .ok (.getfield 7, 3) := by decide +kernel
theorem dX7_bestTradesOf_190 : decode cX7_bestTradesOf 190 = .ok (.sipush 423, 3) := by decide +kernel
theorem dX7_bestTradesOf_193 : decode cX7_bestTradesOf 193 = .ok (.iaload, 1) := by decide +kernel
theorem dX7_bestTradesOf_194 : decode cX7_bestTradesOf 194 = .ok (.if_icmp .ge 15, 3) := by decide +kernel
theorem dX7_bestTradesOf_197 : decode cX7_bestTradesOf 197 = .ok (.aload_n 0, 1) := by decide +kernel
theorem dX7_bestTradesOf_198 : decode cX7_bestTradesOf 198 = .ok (.getfield 34, 3) := by decide +kernel
theorem dX7_bestTradesOf_201 : decode cX7_bestTradesOf 201 = .ok (.iload_n 1, 1) := by decide +kernel
theorem dX7_bestTradesOf_202 : decode cX7_bestTradesOf 202 = .ok (.bipush 10, 2) := by decide +kernel
theorem dX7_bestTradesOf_204 : decode cX7_bestTradesOf 204 = .ok (.isub, 1) := by decide +kernel
theorem dX7_bestTradesOf_205 : decode cX7_bestTradesOf 205 = .ok (.iaload, 1) := by decide +kernel
theorem dX7_bestTradesOf_206 : decode cX7_bestTradesOf 206 = .ok (.goto 4, 3) := by decide +kernel
theorem dX7_bestTradesOf_209 : decode cX7_bestTradesOf 209 = .ok (.iconst (-1), 1) := by decide +kernel
theorem dX7_bestTradesOf_210 : decode cX7_bestTradesOf 210 = .ok (.ireturn, 1) := by decide +kernel
theorem dX7_bestTrades_0 : decode cX7_bestTrades 0 = .ok (.aload_n 0, 1) := by decide +kernel
theorem dX7_bestTrades_1 : decode cX7_bestTrades 1 = .ok (.iload_n 1, 1) := by decide +kernel
theorem dX7_bestTrades_2 : decode cX7_bestTrades 2 = .ok (.ifCond .eq 14, 3) := by decide +kernel
theorem dX7_bestTrades_5 : decode cX7_bestTrades 5 = .ok (.iload_n 1, 1) := by decide +kernel
theorem dX7_bestTrades_6 : decode cX7_bestTrades 6 = .ok (.bipush 10, 2) := by decide +kernel
theorem dX7_bestTrades_8 : decode cX7_bestTrades 8 = .ok (.bipush 15, 2) := by decide +kernel
theorem dX7_bestTrades_10 : decode cX7_bestTrades 10 = .ok (.invokestatic 41, 3) := by decide +kernel
theorem dX7_bestTrades_13 : decode cX7_bestTrades 13 = .ok (.ifCond .eq 7, 3) := by decide +kernel
theorem dX7_bestTrades_16 : decode cX7_bestTrades 16 = .ok (.iconst 0, 1) := by decide +kernel
theorem dX7_bestTrades_17 : decode cX7_bestTrades 17 = .ok (.goto 4, 3) := by decide +kernel
theorem dX7_bestTrades_20 : decode cX7_bestTrades 20 = .ok (.iconst 1, 1) := by decide +kernel
theorem dX7_bestTrades_21 : decode cX7_bestTrades 21 = .ok (.putfield 37, 3) := by decide +kernel
theorem dX7_bestTrades_24 : decode cX7_bestTrades 24 = .ok (.aload_n 0, 1) := by decide +kernel
theorem dX7_bestTrades_25 : decode cX7_bestTrades 25 = .ok (.getfield 37, 3) := by decide +kernel
theorem dX7_bestTrades_28 : decode cX7_bestTrades 28 = .ok (.ifCond .ne 11, 3) := by decide +kernel
theorem dX7_bestTrades_31 : decode cX7_bestTrades 31 = .ok (.aload_n 0, 1) := by decide +kernel
theorem dX7_bestTrades_32 : decode cX7_bestTrades 32 = .ok (.iload_n 1, 1) := by decide +kernel
theorem dX7_bestTrades_33 : decode cX7_bestTrades 33 = .ok (.invokevirtual 205, 3) := by decide +kernel
theorem dX7_bestTrades_36 : decode cX7_bestTrades 36 = .ok (.goto 4, 3) := by decide +kernel
theorem dX7_bestTrades_39 : decode cX7_bestTrades 39 = .ok (.iconst 0, 1) := by decide +kernel
theorem dX7_bestTrades_40 : decode cX7_bestTrades 40 = .ok (.ireturn, 1) := by decide +kernel
theorem dX7_tuneShare_0 : decode cX7_tuneShare 0 = .ok (.aload_n 0, 1) := by decide +kernel
theorem dX7_tuneShare_1 : decode cX7_tuneShare 1 = .ok (.iconst 0, 1) := by decide +kernel
theorem dX7_tuneShare_2 : decode cX7_tuneShare 2 = .ok (.putfield 37, 3) := by decide +kernel
theorem dX7_tuneShare_5 : decode cX7_tuneShare 5 = .ok (.aload_n 0, 1) := by decide +kernel
theorem dX7_tuneShare_6 : decode cX7_tuneShare 6 = .ok (.iconst 2, 1) := by decide +kernel
theorem dX7_tuneShare_7 : decode cX7_tuneShare 7 = .ok (.invokevirtual 187, 3) := by decide +kernel
theorem dX7_tuneShare_10 : decode cX7_tuneShare 10 = .ok (.istore_n 1, 1) := by decide +kernel
theorem dX7_tuneShare_11 : decode cX7_tuneShare 11 = .ok (.iload_n 1, 1) := by decide +kernel
theorem dX7_tuneShare_12 : decode cX7_tuneShare 12 = .ok (.ifCond .ne 7, 3) := by decide +kernel
theorem dX7_tuneShare_15 : decode cX7_tuneShare 15 = .ok (.dconst 0, 1) := by decide +kernel
theorem dX7_tuneShare_16 : decode cX7_tuneShare 16 = .ok (.goto 12, 3) := by decide +kernel
theorem dX7_tuneShare_19 : decode cX7_tuneShare 19 = .ok (.aload_n 0, 1) := by decide +kernel
theorem dX7_tuneShare_20 : decode cX7_tuneShare 20 = .ok (.iconst 3, 1) := by decide +kernel
theorem dX7_tuneShare_21 : decode cX7_tuneShare 21 = .ok (.invokevirtual 187, 3) := by decide +kernel
theorem dX7_tuneShare_24 : decode cX7_tuneShare 24 = .ok (.i2d, 1) := by decide +kernel
theorem dX7_tuneShare_25 : decode cX7_tuneShare 25 = .ok (.iload_n 1, 1) := by decide +kernel
theorem dX7_tuneShare_26 : decode cX7_tuneShare 26 = .ok (.i2d, 1) := by decide +kernel
theorem dX7_tuneShare_27 : decode cX7_tuneShare 27 = .ok (.ddiv, 1) := by decide +kernel
theorem dX7_tuneShare_28 : decode cX7_tuneShare 28 = .ok (.dreturn, 1) := by decide +kernel
theorem dX7_add_0 : decode cX7_add 0 = .ok (.aload_n 0, 1) := by decide +kernel
theorem dX7_add_1 : decode cX7_add 1 = .ok (.ldc2_w 208, 3) := by decide +kernel
theorem dX7_add_4 : decode cX7_add 4 = .ok (.aload_n 0, 1) := by decide +kernel
theorem dX7_add_5 : decode cX7_add 5 = .ok (.getfield 210, 3) := by decide +kernel
theorem dX7_add_8 : decode cX7_add 8 = .ok (.lmul, 1) := by decide +kernel
theorem dX7_add_9 : decode cX7_add 9 = .ok (.lload_n 1, 1) := by decide +kernel
theorem dX7_add_10 : decode cX7_add 10 = .ok (.ladd, 1) := by decide +kernel
theorem dX7_add_11 : decode cX7_add 11 = .ok (.putfield 210, 3) := by decide +kernel
theorem dX7_add_14 : decode cX7_add 14 = .ok (.return_, 1) := by decide +kernel
theorem dX7_addTownOf_0 : decode cX7_addTownOf 0 = .ok (.iconst 0, 1) := by decide +kernel
theorem dX7_addTownOf_1 : decode cX7_addTownOf 1 = .ok (.istore_n 2, 1) := by decide +kernel
theorem dX7_addTownOf_2 : decode cX7_addTownOf 2 = .ok (.iload_n 2, 1) := by decide +kernel
theorem dX7_addTownOf_3 : decode cX7_addTownOf 3 = .ok (.bipush 12, 2) := by decide +kernel
theorem dX7_addTownOf_5 : decode cX7_addTownOf 5 = .ok (.if_icmp .ge 20, 3) := by decide +kernel
theorem dX7_addTownOf_8 : decode cX7_addTownOf 8 = .ok (.aload_n 0, 1) := by decide +kernel
theorem dX7_addTownOf_9 : decode cX7_addTownOf 9 = .ok (.aload_n 0, 1) := by decide +kernel
theorem dX7_addTownOf_10 : decode cX7_addTownOf 10 = .ok (.iload_n 1, 1) := by decide +kernel
theorem dX7_addTownOf_11 : decode cX7_addTownOf 11 = .ok (.iload_n 2, 1) := by decide +kernel
theorem dX7_addTownOf_12 : decode cX7_addTownOf 12 = .ok (.invokevirtual 181, 3) := by decide +kernel
theorem dX7_addTownOf_15 : decode cX7_addTownOf 15 = .ok (.i2l, 1) := by decide +kernel
theorem dX7_addTownOf_16 : decode cX7_addTownOf 16 = .ok (.invokevirtual 214, 3) := by decide +kernel
theorem dX7_addTownOf_19 : decode cX7_addTownOf 19 = .ok (.iinc 2 1, 3) := by decide +kernel
theorem dX7_addTownOf_22 : decode cX7_addTownOf 22 = .ok (.goto (-20), 3) := by decide +kernel
theorem dX7_addTownOf_25 : decode cX7_addTownOf 25 = .ok (.iconst 0, 1) := by decide +kernel
theorem dX7_addTownOf_26 : decode cX7_addTownOf 26 = .ok (.istore_n 2, 1) := by decide +kernel
theorem dX7_addTownOf_27 : decode cX7_addTownOf 27 = .ok (.iload_n 2, 1) := by decide +kernel
theorem dX7_addTownOf_28 : decode cX7_addTownOf 28 = .ok (.iconst 5, 1) := by decide +kernel
theorem dX7_addTownOf_29 : decode cX7_addTownOf 29 = .ok (.if_icmp .ge 20, 3) := by decide +kernel
theorem dX7_addTownOf_32 : decode cX7_addTownOf 32 = .ok (.aload_n 0, 1) := by decide +kernel
theorem dX7_addTownOf_33 : decode cX7_addTownOf 33 = .ok (.aload_n 0, 1) := by decide +kernel
theorem dX7_addTownOf_34 : decode cX7_addTownOf 34 = .ok (.iload_n 1, 1) := by decide +kernel
theorem dX7_addTownOf_35 : decode cX7_addTownOf 35 = .ok (.iload_n 2, 1) := by decide +kernel
theorem dX7_addTownOf_36 : decode cX7_addTownOf 36 = .ok (.invokevirtual 110, 3) := by decide +kernel
theorem dX7_addTownOf_39 : decode cX7_addTownOf 39 = .ok (.i2l, 1) := by decide +kernel
theorem dX7_addTownOf_40 : decode cX7_addTownOf 40 = .ok (.invokevirtual 214, 3) := by decide +kernel
theorem dX7_addTownOf_43 : decode cX7_addTownOf 43 = .ok (.iinc 2 1, 3) := by decide +kernel
theorem dX7_addTownOf_46 : decode cX7_addTownOf 46 = .ok (.goto (-19), 3) := by decide +kernel
theorem dX7_addTownOf_49 : decode cX7_addTownOf 49 = .ok (.aload_n 0, 1) := by decide +kernel
theorem dX7_addTownOf_50 : decode cX7_addTownOf 50 = .ok (.aload_n 0, 1) := by decide +kernel
theorem dX7_addTownOf_51 : decode cX7_addTownOf 51 = .ok (.iload_n 1, 1) := by decide +kernel
theorem dX7_addTownOf_52 : decode cX7_addTownOf 52 = .ok (.invokevirtual 113, 3) := by decide +kernel
theorem dX7_addTownOf_55 : decode cX7_addTownOf 55 = .ok (.i2l, 1) := by decide +kernel
theorem dX7_addTownOf_56 : decode cX7_addTownOf 56 = .ok (.invokevirtual 214, 3) := by decide +kernel
theorem dX7_addTownOf_59 : decode cX7_addTownOf 59 = .ok (.aload_n 0, 1) := by decide +kernel
theorem dX7_addTownOf_60 : decode cX7_addTownOf 60 = .ok (.aload_n 0, 1) := by decide +kernel
theorem dX7_addTownOf_61 : decode cX7_addTownOf 61 = .ok (.iload_n 1, 1) := by decide +kernel
theorem dX7_addTownOf_62 : decode cX7_addTownOf 62 = .ok (.iconst 0, 1) := by decide +kernel
theorem dX7_addTownOf_63 : decode cX7_addTownOf 63 = .ok (.invokevirtual 196, 3) := by decide +kernel
theorem dX7_addTownOf_66 : decode cX7_addTownOf 66 = .ok (.i2l, 1) := by decide +kernel
theorem dX7_addTownOf_67 : decode cX7_addTownOf 67 = .ok (.invokevirtual 214, 3) := by decide +kernel
theorem dX7_addTownOf_70 : decode cX7_addTownOf 70 = .ok (.aload_n 0, 1) := by decide +kernel
theorem dX7_addTownOf_71 : decode cX7_addTownOf 71 = .ok (.aload_n 0, 1) := by decide +kernel
theorem dX7_addTownOf_72 : decode cX7_addTownOf 72 = .ok (.iload_n 1, 1) := by decide +kernel
theorem dX7_addTownOf_73 : decode cX7_addTownOf 73 = .ok (.iconst 1, 1) := by decide +kernel
theorem dX7_addTownOf_74 : decode cX7_addTownOf 74 = .ok (.invokevirtual 196, 3) := by decide +kernel
theorem dX7_addTownOf_77 : decode cX7_addTownOf 77 = .ok (.i2l, 1) := by decide +kernel
theorem dX7_addTownOf_78 : decode cX7_addTownOf 78 = .ok (.invokevirtual 214, 3) := by decide +kernel
theorem dX7_addTownOf_81 : decode cX7_addTownOf 81 = .ok (.aload_n 0, 1) := by decide +kernel
theorem dX7_addTownOf_82 : decode cX7_addTownOf 82 = .ok (.aload_n 0, 1) := by decide +kernel
theorem dX7_addTownOf_83 : decode cX7_addTownOf 83 = .ok (.iload_n 1, 1) := by decide +kernel
theorem dX7_addTownOf_84 : decode cX7_addTownOf 84 = .ok (.invokevirtual 199, 3) := by decide +kernel
theorem dX7_addTownOf_87 : decode cX7_addTownOf 87 = .ok (.i2l, 1) := by decide +kernel
theorem dX7_addTownOf_88 : decode cX7_addTownOf 88 = .ok (.invokevirtual 214, 3) := by decide +kernel
theorem dX7_addTownOf_91 : decode cX7_addTownOf 91 = .ok (.iconst 0, 1) := by decide +kernel
theorem dX7_addTownOf_92 : decode cX7_addTownOf 92 = .ok (.istore_n 2, 1) := by decide +kernel
theorem dX7_addTownOf_93 : decode cX7_addTownOf 93 = .ok (.iload_n 2, 1) := by decide +kernel
theorem dX7_addTownOf_94 : decode cX7_addTownOf 94 = .ok (.bipush 12, 2) := by decide +kernel
theorem dX7_addTownOf_96 : decode cX7_addTownOf 96 = .ok (.if_icmp .ge 29, 3) := by decide +kernel
theorem dX7_addTownOf_99 : decode cX7_addTownOf 99 = .ok (.aload_n 0, 1) := by decide +kernel
theorem dX7_addTownOf_100 : decode cX7_addTownOf 100 = .ok (.aload_n 0, 1) := by decide +kernel
theorem dX7_addTownOf_101 : decode cX7_addTownOf 101 = .ok (.getfield 7, 3) := by decide +kernel
theorem dX7_addTownOf_104 : decode cX7_addTownOf 104 = .ok (.sipush 294, 3) := by decide +kernel
theorem dX7_addTownOf_107 : decode cX7_addTownOf 107 = .ok (.bipush 12, 2) := by decide +kernel
theorem dX7_addTownOf_109 : decode cX7_addTownOf 109 = .ok (.iload_n 1, 1) := by decide +kernel
theorem dX7_addTownOf_110 : decode cX7_addTownOf 110 = .ok (.imul, 1) := by decide +kernel
theorem dX7_addTownOf_111 : decode cX7_addTownOf 111 = .ok (.iadd, 1) := by decide +kernel
theorem dX7_addTownOf_112 : decode cX7_addTownOf 112 = .ok (.iload_n 2, 1) := by decide +kernel
theorem dX7_addTownOf_113 : decode cX7_addTownOf 113 = .ok (.iadd, 1) := by decide +kernel
theorem dX7_addTownOf_114 : decode cX7_addTownOf 114 = .ok (.iaload, 1) := by decide +kernel
theorem dX7_addTownOf_115 : decode cX7_addTownOf 115 = .ok (.i2l, 1) := by decide +kernel
theorem dX7_addTownOf_116 : decode cX7_addTownOf 116 = .ok (.invokevirtual 214, 3) := by decide +kernel
theorem dX7_addTownOf_119 : decode cX7_addTownOf 119 = .ok (.iinc 2 1, 3) := by decide +kernel
theorem dX7_addTownOf_122 : decode cX7_addTownOf 122 = .ok (.goto (-29), 3) := by decide +kernel
theorem dX7_addTownOf_125 : decode cX7_addTownOf 125 = .ok (.iconst 0, 1) := by decide +kernel
theorem dX7_addTownOf_126 : decode cX7_addTownOf 126 = .ok (.istore_n 2, 1) := by decide +kernel
theorem dX7_addTownOf_127 : decode cX7_addTownOf 127 = .ok (.iload_n 2, 1) := by decide +kernel
theorem dX7_addTownOf_128 : decode cX7_addTownOf 128 = .ok (.aload_n 0, 1) := by decide +kernel
theorem dX7_addTownOf_129 : decode cX7_addTownOf 129 = .ok (.getfield 7, 3) := by decide +kernel
theorem dX7_addTownOf_132 : decode cX7_addTownOf 132 = .ok (.sipush 423, 3) := by decide +kernel
theorem dX7_addTownOf_135 : decode cX7_addTownOf 135 = .ok (.iaload, 1) := by decide +kernel
theorem dX7_addTownOf_136 : decode cX7_addTownOf 136 = .ok (.if_icmp .ge 24, 3) := by decide +kernel
theorem dX7_addTownOf_139 : decode cX7_addTownOf 139 = .ok (.aload_n 0, 1) := by decide +kernel
theorem dX7_addTownOf_140 : decode cX7_addTownOf 140 = .ok (.aload_n 0, 1) := by decide +kernel
theorem dX7_addTownOf_141 : decode cX7_addTownOf 141 = .ok (.getfield 7, 3) := by decide +kernel
theorem dX7_addTownOf_144 : decode cX7_addTownOf 144 = .ok (.iload_n 1, 1) := by decide +kernel
theorem dX7_addTownOf_145 : decode cX7_addTownOf 145 = .ok (.iload_n 2, 1) := by decide +kernel
theorem dX7_addTownOf_146 : decode cX7_addTownOf 146 = .ok (.invokestatic 123, 3) := by decide +kernel
theorem dX7_addTownOf_149 : decode cX7_addTownOf 149 = .ok (.iaload, 1) := by decide +kernel
theorem dX7_addTownOf_150 : decode cX7_addTownOf 150 = .ok (.i2l, 1) := by decide +kernel
theorem dX7_addTownOf_151 : decode cX7_addTownOf 151 = .ok (.invokevirtual 214, 3) := by decide +kernel
theorem dX7_addTownOf_154 : decode cX7_addTownOf 154 = .ok (.iinc 2 1, 3) := by decide +kernel
theorem dX7_addTownOf_157 : decode cX7_addTownOf 157 = .ok (.goto (-30), 3) := by decide +kernel
theorem dX7_addTownOf_160 : decode cX7_addTownOf 160 = .ok (.aload_n 0, 1) := by decide +kernel
theorem dX7_addTownOf_161 : decode cX7_addTownOf 161 = .ok (.iload_n 1, 1) := by decide +kernel
theorem dX7_addTownOf_162 : decode cX7_addTownOf 162 = .ok (.invokevirtual 103, 3) := by decide +kernel
theorem dX7_addTownOf_165 : decode cX7_addTownOf 165 = .ok (.iconst 0, 1) := by decide +kernel
theorem dX7_addTownOf_166 : decode cX7_addTownOf 166 = .ok (.istore_n 2, 1) := by decide +kernel
theorem dX7_addTownOf_167 : decode cX7_addTownOf 167 = .ok (.iload_n 2, 1) := by decide +kernel
theorem dX7_addTownOf_168 : decode cX7_addTownOf 168 = .ok (.bipush 24, 2) := by decide +kernel
theorem dX7_addTownOf_170 : decode cX7_addTownOf 170 = .ok (.if_icmp .ge 55, 3) := by decide +kernel
theorem dX7_addTownOf_173 : decode cX7_addTownOf 173 = .ok (.aload_n 0, 1) := by decide +kernel
theorem dX7_addTownOf_174 : decode cX7_addTownOf 174 = .ok (.aload_n 0, 1) := by decide +kernel
theorem dX7_addTownOf_175 : decode cX7_addTownOf 175 = .ok (.getfield 7, 3) := by decide +kernel
theorem dX7_addTownOf_178 : decode cX7_addTownOf 178 = .ok (.bipush 6, 2) := by decide +kernel
theorem dX7_addTownOf_180 : decode cX7_addTownOf 180 = .ok (.iload_n 1, 1) := by decide +kernel
theorem dX7_addTownOf_181 : decode cX7_addTownOf 181 = .ok (.iload_n 2, 1) := by decide +kernel
theorem dX7_addTownOf_182 : decode cX7_addTownOf 182 = .ok (.invokestatic 56, 3) := by decide +kernel
theorem dX7_addTownOf_185 : decode cX7_addTownOf 185 = .ok (.iaload, 1) := by decide +kernel
theorem dX7_addTownOf_186 : decode cX7_addTownOf 186 = .ok (.i2l, 1) := by decide +kernel
theorem dX7_addTownOf_187 : decode cX7_addTownOf 187 = .ok (.invokevirtual 214, 3) := by decide +kernel
theorem dX7_addTownOf_190 : decode cX7_addTownOf 190 = .ok (.aload_n 0, 1) := by decide +kernel
theorem dX7_addTownOf_191 : decode cX7_addTownOf 191 = .ok (.aload_n 0, 1) := by decide +kernel
theorem dX7_addTownOf_192 : decode cX7_addTownOf 192 = .ok (.getfield 7, 3) := by decide +kernel
theorem dX7_addTownOf_195 : decode cX7_addTownOf 195 = .ok (.sipush 150, 3) := by decide +kernel
theorem dX7_addTownOf_198 : decode cX7_addTownOf 198 = .ok (.iload_n 1, 1) := by decide +kernel
theorem dX7_addTownOf_199 : decode cX7_addTownOf 199 = .ok (.iload_n 2, 1) := by decide +kernel
theorem dX7_addTownOf_200 : decode cX7_addTownOf 200 = .ok (.invokestatic 56, 3) := by decide +kernel
theorem dX7_addTownOf_203 : decode cX7_addTownOf 203 = .ok (.iaload, 1) := by decide +kernel
theorem dX7_addTownOf_204 : decode cX7_addTownOf 204 = .ok (.i2l, 1) := by decide +kernel
theorem dX7_addTownOf_205 : decode cX7_addTownOf 205 = .ok (.invokevirtual 214, 3) := by decide +kernel
theorem dX7_addTownOf_208 : decode cX7_addTownOf 208 = .ok (.aload_n 0, 1) := by decide +kernel
theorem dX7_addTownOf_209 : decode cX7_addTownOf 209 = .ok (.aload_n 0, 1) := by decide +kernel
theorem dX7_addTownOf_210 : decode cX7_addTownOf 210 = .ok (.getfield 19, 3) := by decide +kernel
theorem dX7_addTownOf_213 : decode cX7_addTownOf 213 = .ok (.iload_n 2, 1) := by decide +kernel
theorem dX7_addTownOf_214 : decode cX7_addTownOf 214 = .ok (.iaload, 1) := by decide +kernel
theorem dX7_addTownOf_215 : decode cX7_addTownOf 215 = .ok (.i2l, 1) := by decide +kernel
theorem dX7_addTownOf_216 : decode cX7_addTownOf 216 = .ok (.invokevirtual 214, 3) := by decide +kernel
theorem dX7_addTownOf_219 : decode cX7_addTownOf 219 = .ok (.iinc 2 1, 3) := by decide +kernel
theorem dX7_addTownOf_222 : decode cX7_addTownOf 222 = .ok (.goto (-55), 3) := by decide +kernel
theorem dX7_addTownOf_225 : decode cX7_addTownOf 225 = .ok (.return_, 1) := by decide +kernel
theorem dX7_digest_0 : decode cX7_digest 0 = .ok (.aload_n 0, 1) := by decide +kernel
theorem dX7_digest_1 : decode cX7_digest 1 = .ok (.ldc2_w 218, 3) := by decide +kernel
theorem dX7_digest_4 : decode cX7_digest 4 = .ok (.putfield 210, 3) := by decide +kernel
theorem dX7_digest_7 : decode cX7_digest 7 = .ok (.iconst 0, 1) := by decide +kernel
theorem dX7_digest_8 : decode cX7_digest 8 = .ok (.istore_n 1, 1) := by decide +kernel
theorem dX7_digest_9 : decode cX7_digest 9 = .ok (.iload_n 1, 1) := by decide +kernel
theorem dX7_digest_10 : decode cX7_digest 10 = .ok (.bipush 11, 2) := by decide +kernel
theorem dX7_digest_12 : decode cX7_digest 12 = .ok (.if_icmp .ge 19, 3) := by decide +kernel
theorem dX7_digest_15 : decode cX7_digest 15 = .ok (.aload_n 0, 1) := by decide +kernel
theorem dX7_digest_16 : decode cX7_digest 16 = .ok (.aload_n 0, 1) := by decide +kernel
theorem dX7_digest_17 : decode cX7_digest 17 = .ok (.iload_n 1, 1) := by decide +kernel
theorem dX7_digest_18 : decode cX7_digest 18 = .ok (.invokevirtual 193, 3) := by decide +kernel
theorem dX7_digest_21 : decode cX7_digest 21 = .ok (.i2l, 1) := by decide +kernel
theorem dX7_digest_22 : decode cX7_digest 22 = .ok (.invokevirtual 214, 3) := by decide +kernel
theorem dX7_digest_25 : decode cX7_digest 25 = .ok (.iinc 1 1, 3) := by decide +kernel
theorem dX7_digest_28 : decode cX7_digest 28 = .ok (.goto (-19), 3) := by decide +kernel
theorem dX7_digest_31 : decode cX7_digest 31 = .ok (.iconst 0, 1) := by decide +kernel
theorem dX7_digest_32 : decode cX7_digest 32 = .ok (.istore_n 1, 1) := by decide +kernel
theorem dX7_digest_33 : decode cX7_digest 33 = .ok (.iload_n 1, 1) := by decide +kernel
theorem dX7_digest_34 : decode cX7_digest 34 = .ok (.iconst 3, 1) := by decide +kernel
theorem dX7_digest_35 : decode cX7_digest 35 = .ok (.if_icmp .ge 24, 3) := by decide +kernel
theorem dX7_digest_38 : decode cX7_digest 38 = .ok (.aload_n 0, 1) := by decide +kernel
theorem dX7_digest_39 : decode cX7_digest 39 = .ok (.aload_n 0, 1) := by decide +kernel
theorem dX7_digest_40 : decode cX7_digest 40 = .ok (.getfield 7, 3) := by decide +kernel
theorem dX7_digest_43 : decode cX7_digest 43 = .ok (.sipush 420, 3) := by decide +kernel
theorem dX7_digest_46 : decode cX7_digest 46 = .ok (.iload_n 1, 1) := by decide +kernel
theorem dX7_digest_47 : decode cX7_digest 47 = .ok (.iadd, 1) := by decide +kernel
theorem dX7_digest_48 : decode cX7_digest 48 = .ok (.iaload, 1) := by decide +kernel
theorem dX7_digest_49 : decode cX7_digest 49 = .ok (.i2l, 1) := by decide +kernel
theorem dX7_digest_50 : decode cX7_digest 50 = .ok (.invokevirtual 214, 3) := by decide +kernel
theorem dX7_digest_53 : decode cX7_digest 53 = .ok (.iinc 1 1, 3) := by decide +kernel
theorem dX7_digest_56 : decode cX7_digest 56 = .ok (.goto (-23), 3) := by decide +kernel
theorem dX7_digest_59 : decode cX7_digest 59 = .ok (.iconst 0, 1) := by decide +kernel
theorem dX7_digest_60 : decode cX7_digest 60 = .ok (.istore_n 1, 1) := by decide +kernel
theorem dX7_digest_61 : decode cX7_digest 61 = .ok (.iload_n 1, 1) := by decide +kernel
theorem dX7_digest_62 : decode cX7_digest 62 = .ok (.aload_n 0, 1) := by decide +kernel
theorem dX7_digest_63 : decode cX7_digest 63 = .ok (.getfield 7, 3) := by decide +kernel
theorem dX7_digest_66 : decode cX7_digest 66 = .ok (.sipush 423, 3) := by decide +kernel
theorem dX7_digest_69 : decode cX7_digest 69 = .ok (.iaload, 1) := by decide +kernel
theorem dX7_digest_70 : decode cX7_digest 70 = .ok (.if_icmp .ge 14, 3) := by decide +kernel
theorem dX7_digest_73 : decode cX7_digest 73 = .ok (.aload_n 0, 1) := by decide +kernel
theorem dX7_digest_74 : decode cX7_digest 74 = .ok (.iload_n 1, 1) := by decide +kernel
theorem dX7_digest_75 : decode cX7_digest 75 = .ok (.invokevirtual 220, 3) := by decide +kernel
theorem dX7_digest_78 : decode cX7_digest 78 = .ok (.iinc 1 1, 3) := by decide +kernel
theorem dX7_digest_81 : decode cX7_digest 81 = .ok (.goto (-20), 3) := by decide +kernel
theorem dX7_digest_84 : decode cX7_digest 84 = .ok (.aload_n 0, 1) := by decide +kernel
theorem dX7_digest_85 : decode cX7_digest 85 = .ok (.aload_n 0, 1) := by decide +kernel
theorem dX7_digest_86 : decode cX7_digest 86 = .ok (.iconst 0, 1) := by decide +kernel
