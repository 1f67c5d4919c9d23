theorem dX6_init_92 : decode cX6_init 92 = .ok (.aload_n 0, 1) := by decide +kernel
theorem dX6_init_93 : decode cX6_init 93 = .ok (.bipush 56, 2) := by decide +kernel
theorem dX6_init_95 : decode cX6_init 95 = .ok (.newarray .long, 2) := by decide +kernel
theorem dX6_init_97 : decode cX6_init 97 = .ok (.putfield 40, 3) := by decide +kernel
theorem dX6_init_100 : decode cX6_init 100 = .ok (.aload_n 0, 1) := by decide +kernel
theorem dX6_init_101 : decode cX6_init 101 = .ok (.sipush 224, 3) := by decide +kernel
theorem dX6_init_104 : decode cX6_init 104 = .ok (.newarray .long, 2) := by decide +kernel
theorem dX6_init_106 : decode cX6_init 106 = .ok (.putfield 44, 3) := by decide +kernel
theorem dX6_init_109 : decode cX6_init 109 = .ok (.aload_n 0, 1) := by decide +kernel
theorem dX6_init_110 : decode cX6_init 110 = .ok (.iconst 4, 1) := by decide +kernel
theorem dX6_init_111 : decode cX6_init 111 = .ok (.newarray .long, 2) := by decide +kernel
theorem dX6_init_113 : decode cX6_init 113 = .ok (.putfield 47, 3) := by decide +kernel
theorem dX6_init_116 : decode cX6_init 116 = .ok (.aload_n 0, 1) := by decide +kernel
theorem dX6_init_117 : decode cX6_init 117 = .ok (.iconst 4, 1) := by decide +kernel
theorem dX6_init_118 : decode cX6_init 118 = .ok (.newarray .long, 2) := by decide +kernel
theorem dX6_init_120 : decode cX6_init 120 = .ok (.putfield 50, 3) := by decide +kernel
theorem dX6_init_123 : decode cX6_init 123 = .ok (.aload_n 0, 1) := by decide +kernel
theorem dX6_init_124 : decode cX6_init 124 = .ok (.iconst 4, 1) := by decide +kernel
theorem dX6_init_125 : decode cX6_init 125 = .ok (.newarray .boolean, 2) := by decide +kernel
theorem dX6_init_127 : decode cX6_init 127 = .ok (.putfield 53, 3) := by decide +kernel
theorem dX6_init_130 : decode cX6_init 130 = .ok (.aload_n 0, 1) := by decide +kernel
theorem dX6_init_131 : decode cX6_init 131 = .ok (.bipush 32, 2) := by decide +kernel
theorem dX6_init_133 : decode cX6_init 133 = .ok (.newarray .int, 2) := by decide +kernel
theorem dX6_init_135 : decode cX6_init 135 = .ok (.putfield 57, 3) := by decide +kernel
theorem dX6_init_138 : decode cX6_init 138 = .ok (.aload_n 0, 1) := by decide +kernel
theorem dX6_init_139 : decode cX6_init 139 = .ok (.sipush 300, 3) := by decide +kernel
theorem dX6_init_142 : decode cX6_init 142 = .ok (.newarray .long, 2) := by decide +kernel
theorem dX6_init_144 : decode cX6_init 144 = .ok (.putfield 60, 3) := by decide +kernel
theorem dX6_init_147 : decode cX6_init 147 = .ok (.aload_n 0, 1) := by decide +kernel
theorem dX6_init_148 : decode cX6_init 148 = .ok (.sipush 300, 3) := by decide +kernel
theorem dX6_init_151 : decode cX6_init 151 = .ok (.newarray .int, 2) := by decide +kernel
theorem dX6_init_153 : decode cX6_init 153 = .ok (.putfield 63, 3) := by decide +kernel
theorem dX6_init_156 : decode cX6_init 156 = .ok (.aload_n 0, 1) := by decide +kernel
theorem dX6_init_157 : decode cX6_init 157 = .ok (.sipush 300, 3) := by decide +kernel
theorem dX6_init_160 : decode cX6_init 160 = .ok (.newarray .int, 2) := by decide +kernel
theorem dX6_init_162 : decode cX6_init 162 = .ok (.putfield 66, 3) := by decide +kernel
theorem dX6_init_165 : decode cX6_init 165 = .ok (.aload_n 0, 1) := by decide +kernel
theorem dX6_init_166 : decode cX6_init 166 = .ok (.bipush 20, 2) := by decide +kernel
theorem dX6_init_168 : decode cX6_init 168 = .ok (.newarray .long, 2) := by decide +kernel
theorem dX6_init_170 : decode cX6_init 170 = .ok (.putfield 69, 3) := by decide +kernel
theorem dX6_init_173 : decode cX6_init 173 = .ok (.aload_n 0, 1) := by decide +kernel
theorem dX6_init_174 : decode cX6_init 174 = .ok (.bipush 20, 2) := by decide +kernel
theorem dX6_init_176 : decode cX6_init 176 = .ok (.newarray .int, 2) := by decide +kernel
theorem dX6_init_178 : decode cX6_init 178 = .ok (.putfield 72, 3) := by decide +kernel
theorem dX6_init_181 : decode cX6_init 181 = .ok (.aload_n 0, 1) := by decide +kernel
theorem dX6_init_182 : decode cX6_init 182 = .ok (.bipush 20, 2) := by decide +kernel
theorem dX6_init_184 : decode cX6_init 184 = .ok (.newarray .boolean, 2) := by decide +kernel
theorem dX6_init_186 : decode cX6_init 186 = .ok (.putfield 75, 3) := by decide +kernel
theorem dX6_init_189 : decode cX6_init 189 = .ok (.aload_n 0, 1) := by decide +kernel
theorem dX6_init_190 : decode cX6_init 190 = .ok (.getfield 40, 3) := by decide +kernel
theorem dX6_init_193 : decode cX6_init 193 = .ok (.iconst 0, 1) := by decide +kernel
theorem dX6_init_194 : decode cX6_init 194 = .ok (.ldc2_w 78, 3) := by decide +kernel
theorem dX6_init_197 : decode cX6_init 197 = .ok (.lastore, 1) := by decide +kernel
theorem dX6_init_198 : decode cX6_init 198 = .ok (.aload_n 0, 1) := by decide +kernel
theorem dX6_init_199 : decode cX6_init 199 = .ok (.getfield 40, 3) := by decide +kernel
theorem dX6_init_202 : decode cX6_init 202 = .ok (.iconst 4, 1) := by decide +kernel
theorem dX6_init_203 : decode cX6_init 203 = .ok (.ldc2_w 78, 3) := by decide +kernel
theorem dX6_init_206 : decode cX6_init 206 = .ok (.lastore, 1) := by decide +kernel
theorem dX6_init_207 : decode cX6_init 207 = .ok (.aload_n 0, 1) := by decide +kernel
theorem dX6_init_208 : decode cX6_init 208 = .ok (.getfield 40, 3) := by decide +kernel
theorem dX6_init_211 : decode cX6_init 211 = .ok (.iconst 5, 1) := by decide +kernel
theorem dX6_init_212 : decode cX6_init 212 = .ok (.ldc2_w 78, 3) := by decide +kernel
theorem dX6_init_215 : decode cX6_init 215 = .ok (.lastore, 1) := by decide +kernel
theorem dX6_init_216 : decode cX6_init 216 = .ok (.return_, 1) := by decide +kernel
theorem dX6_thrown_0 : decode cX6_thrown 0 = .ok (.aload_n 0, 1) := by decide +kernel
theorem dX6_thrown_1 : decode cX6_thrown 1 = .ok (.getfield 80, 3) := by decide +kernel
theorem dX6_thrown_4 : decode cX6_thrown 4 = .ok (.ireturn, 1) := by decide +kernel
theorem dX6_right_0 : decode cX6_right 0 = .ok (.aload_n 0, 1) := by decide +kernel
theorem dX6_right_1 : decode cX6_right 1 = .ok (.getfield 80, 3) := by decide +kernel
theorem dX6_right_4 : decode cX6_right 4 = .ok (.ifCond .ne 12, 3) := by decide +kernel
theorem dX6_right_7 : decode cX6_right 7 = .ok (.iload_n 1, 1) := by decide +kernel
theorem dX6_right_8 : decode cX6_right 8 = .ok (.ifCond .ne 8, 3) := by decide +kernel
theorem dX6_right_11 : decode cX6_right 11 = .ok (.aload_n 0, 1) := by decide +kernel
theorem dX6_right_12 : decode cX6_right 12 = .ok (.iload_n 2, 1) := by decide +kernel
theorem dX6_right_13 : decode cX6_right 13 = .ok (.putfield 80, 3) := by decide +kernel
theorem dX6_right_16 : decode cX6_right 16 = .ok (.aload_n 0, 1) := by decide +kernel
theorem dX6_right_17 : decode cX6_right 17 = .ok (.getfield 80, 3) := by decide +kernel
theorem dX6_right_20 : decode cX6_right 20 = .ok (.ifCond .ne 7, 3) := by decide +kernel
theorem dX6_right_23 : decode cX6_right 23 = .ok (.iconst 1, 1) := by decide +kernel
theorem dX6_right_24 : decode cX6_right 24 = .ok (.goto 4, 3) := by decide +kernel
theorem dX6_right_27 : decode cX6_right 27 = .ok (.iconst 0, 1) := by decide +kernel
theorem dX6_right_28 : decode cX6_right 28 = .ok (.ireturn, 1) := by decide +kernel
theorem dX6_isPiece_0 : decode cX6_isPiece 0 = .ok (.aload_n 0, 1) := by decide +kernel
theorem dX6_isPiece_1 : decode cX6_isPiece 1 = .ok (.iload_n 1, 1) := by decide +kernel
theorem dX6_isPiece_2 : decode cX6_isPiece 2 = .ok (.ifCond .lt 15, 3) := by decide +kernel
theorem dX6_isPiece_5 : decode cX6_isPiece 5 = .ok (.iload_n 1, 1) := by decide +kernel
theorem dX6_isPiece_6 : decode cX6_isPiece 6 = .ok (.aload_n 0, 1) := by decide +kernel
theorem dX6_isPiece_7 : decode cX6_isPiece 7 = .ok (.getfield 84, 3) := by decide +kernel
theorem dX6_isPiece_10 : decode cX6_isPiece 10 = .ok (.if_icmp .ge 7, 3) := by decide +kernel
theorem dX6_isPiece_13 : decode cX6_isPiece 13 = .ok (.iconst 1, 1) := by decide +kernel
theorem dX6_isPiece_14 : decode cX6_isPiece 14 = .ok (.goto 4, 3) := by decide +kernel
theorem dX6_isPiece_17 : decode cX6_isPiece 17 = .ok (.iconst 0, 1) := by decide +kernel
theorem dX6_isPiece_18 : decode cX6_isPiece 18 = .ok (.iconst 1, 1) := by decide +kernel
theorem dX6_isPiece_19 : decode cX6_isPiece 19 = .ok (.invokevirtual 87, 3) := by decide +kernel
theorem dX6_isPiece_22 : decode cX6_isPiece 22 = .ok (.ireturn, 1) := by decide +kernel
theorem dX6_get_0 : decode cX6_get 0 = .ok (.aload_n 0, 1) := by decide +kernel
theorem dX6_get_1 : decode cX6_get 1 = .ok (.getfield 40, 3) := by decide +kernel
theorem dX6_get_4 : decode cX6_get 4 = .ok (.iload_n 1, 1) := by decide +kernel
theorem dX6_get_5 : decode cX6_get 5 = .ok (.laload, 1) := by decide +kernel
theorem dX6_get_6 : decode cX6_get 6 = .ok (.l2i, 1) := by decide +kernel
theorem dX6_get_7 : decode cX6_get 7 = .ok (.ireturn, 1) := by decide +kernel
theorem dX6_isMain_0 : decode cX6_isMain 0 = .ok (.aload_n 0, 1) := by decide +kernel
theorem dX6_isMain_1 : decode cX6_isMain 1 = .ok (.getfield 7, 3) := by decide +kernel
theorem dX6_isMain_4 : decode cX6_isMain 4 = .ok (.iload_n 1, 1) := by decide +kernel
theorem dX6_isMain_5 : decode cX6_isMain 5 = .ok (.iaload, 1) := by decide +kernel
theorem dX6_isMain_6 : decode cX6_isMain 6 = .ok (.ifCond .eq 13, 3) := by decide +kernel
theorem dX6_isMain_9 : decode cX6_isMain 9 = .ok (.aload_n 0, 1) := by decide +kernel
theorem dX6_isMain_10 : decode cX6_isMain 10 = .ok (.getfield 7, 3) := by decide +kernel
theorem dX6_isMain_13 : decode cX6_isMain 13 = .ok (.iload_n 1, 1) := by decide +kernel
theorem dX6_isMain_14 : decode cX6_isMain 14 = .ok (.iaload, 1) := by decide +kernel
theorem dX6_isMain_15 : decode cX6_isMain 15 = .ok (.iconst 1, 1) := by decide +kernel
theorem dX6_isMain_16 : decode cX6_isMain 16 = .ok (.if_icmp .ne 7, 3) := by decide +kernel
theorem dX6_isMain_19 : decode cX6_isMain 19 = .ok (.iconst 1, 1) := by decide +kernel
theorem dX6_isMain_20 : decode cX6_isMain 20 = .ok (.goto 4, 3) := by decide +kernel
theorem dX6_isMain_23 : decode cX6_isMain 23 = .ok (.iconst 0, 1) := by decide +kernel
theorem dX6_isMain_24 : decode cX6_isMain 24 = .ok (.ireturn, 1) := by decide +kernel
theorem dX6_has_0 : decode cX6_has 0 = .ok (.aload_n 0, 1) := by decide +kernel
theorem dX6_has_1 : decode cX6_has 1 = .ok (.getfield 19, 3) := by decide +kernel
theorem dX6_has_4 : decode cX6_has 4 = .ok (.iload_n 1, 1) := by decide +kernel
theorem dX6_has_5 : decode cX6_has 5 = .ok (.iaload, 1) := by decide +kernel
theorem dX6_has_6 : decode cX6_has 6 = .ok (.iload_n 2, 1) := by decide +kernel
theorem dX6_has_7 : decode cX6_has 7 = .ok (.ishr, 1) := by decide +kernel
theorem dX6_has_8 : decode cX6_has 8 = .ok (.iconst 1, 1) := by decide +kernel
theorem dX6_has_9 : decode cX6_has 9 = .ok (.iand, 1) := by decide +kernel
theorem dX6_has_10 : decode cX6_has 10 = .ok (.iconst 1, 1) := by decide +kernel
theorem dX6_has_11 : decode cX6_has 11 = .ok (.if_icmp .ne 7, 3) := by decide +kernel
theorem dX6_has_14 : decode cX6_has 14 = .ok (.iconst 1, 1) := by decide +kernel
theorem dX6_has_15 : decode cX6_has 15 = .ok (.goto 4, 3) := by decide +kernel
theorem dX6_has_18 : decode cX6_has 18 = .ok (.iconst 0, 1) := by decide +kernel
theorem dX6_has_19 : decode cX6_has 19 = .ok (.ireturn, 1) := by decide +kernel
theorem dX6_piece_0 : decode cX6_piece 0 = .ok (.aload_n 0, 1) := by decide +kernel
theorem dX6_piece_1 : decode cX6_piece 1 = .ok (.iconst 0, 1) := by decide +kernel
theorem dX6_piece_2 : decode cX6_piece 2 = .ok (.putfield 80, 3) := by decide +kernel
theorem dX6_piece_5 : decode cX6_piece 5 = .ok (.aload_n 0, 1) := by decide +kernel
theorem dX6_piece_6 : decode cX6_piece 6 = .ok (.getfield 84, 3) := by decide +kernel
theorem dX6_piece_9 : decode cX6_piece 9 = .ok (.bipush 20, 2) := by decide +kernel
theorem dX6_piece_11 : decode cX6_piece 11 = .ok (.if_icmp .eq 62, 3) := by decide +kernel
theorem dX6_piece_14 : decode cX6_piece 14 = .ok (.iload_n 1, 1) := by decide +kernel
theorem dX6_piece_15 : decode cX6_piece 15 = .ok (.ifCond .lt 58, 3) := by decide +kernel
theorem dX6_piece_18 : decode cX6_piece 18 = .ok (.iload_n 1, 1) := by decide +kernel
theorem dX6_piece_19 : decode cX6_piece 19 = .ok (.iconst 3, 1) := by decide +kernel
theorem dX6_piece_20 : decode cX6_piece 20 = .ok (.if_icmp .gt 53, 3) := by decide +kernel
theorem dX6_piece_23 : decode cX6_piece 23 = .ok (.iload_n 2, 1) := by decide +kernel
theorem dX6_piece_24 : decode cX6_piece 24 = .ok (.iconst 1, 1) := by decide +kernel
theorem dX6_piece_25 : decode cX6_piece 25 = .ok (.if_icmp .lt 48, 3) := by decide +kernel
theorem dX6_piece_28 : decode cX6_piece 28 = .ok (.iload_n 2, 1) := by decide +kernel
theorem dX6_piece_29 : decode cX6_piece 29 = .ok (.bipush 64, 2) := by decide +kernel
theorem dX6_piece_31 : decode cX6_piece 31 = .ok (.if_icmp .gt 42, 3) := by decide +kernel
theorem dX6_piece_34 : decode cX6_piece 34 = .ok (.iload_n 3, 1) := by decide +kernel
theorem dX6_piece_35 : decode cX6_piece 35 = .ok (.bipush 24, 2) := by decide +kernel
theorem dX6_piece_37 : decode cX6_piece 37 = .ok (.if_icmp .lt 36, 3) := by decide +kernel
theorem dX6_piece_40 : decode cX6_piece 40 = .ok (.iload_n 3, 1) := by decide +kernel
theorem dX6_piece_41 : decode cX6_piece 41 = .ok (.sipush 2400, 3) := by decide +kernel
theorem dX6_piece_44 : decode cX6_piece 44 = .ok (.if_icmp .gt 29, 3) := by decide +kernel
theorem dX6_piece_47 : decode cX6_piece 47 = .ok (.iload 4, 2) := by decide +kernel
theorem dX6_piece_49 : decode cX6_piece 49 = .ok (.ifCond .lt 24, 3) := by decide +kernel
theorem dX6_piece_52 : decode cX6_piece 52 = .ok (.iload 4, 2) := by decide +kernel
theorem dX6_piece_54 : decode cX6_piece 54 = .ok (.sipush 255, 3) := by decide +kernel
theorem dX6_piece_57 : decode cX6_piece 57 = .ok (.if_icmp .gt 16, 3) := by decide +kernel
theorem dX6_piece_60 : decode cX6_piece 60 = .ok (.iload 5, 2) := by decide +kernel
theorem dX6_piece_62 : decode cX6_piece 62 = .ok (.iconst 1, 1) := by decide +kernel
theorem dX6_piece_63 : decode cX6_piece 63 = .ok (.if_icmp .lt 10, 3) := by decide +kernel
theorem dX6_piece_66 : decode cX6_piece 66 = .ok (.iload 5, 2) := by decide +kernel
theorem dX6_piece_68 : decode cX6_piece 68 = .ok (.bipush 9, 2) := by decide +kernel
theorem dX6_piece_70 : decode cX6_piece 70 = .ok (.if_icmp .le 5, 3) := by decide +kernel
theorem dX6_piece_73 : decode cX6_piece 73 = .ok (.iconst (-1), 1) := by decide +kernel
theorem dX6_piece_74 : decode cX6_piece 74 = .ok (.ireturn, 1) := by decide +kernel
theorem dX6_piece_75 : decode cX6_piece 75 = .ok (.iload_n 1, 1) := by decide +kernel
theorem dX6_piece_76 : decode cX6_piece 76 = .ok (.iconst 2, 1) := by decide +kernel
theorem dX6_piece_77 : decode cX6_piece 77 = .ok (.if_icmp .lt 10, 3) := by decide +kernel
theorem dX6_piece_80 : decode cX6_piece 80 = .ok (.iload 4, 2) := by decide +kernel
theorem dX6_piece_82 : decode cX6_piece 82 = .ok (.ifCond .eq 5, 3) := by decide +kernel
theorem dX6_piece_85 : decode cX6_piece 85 = .ok (.iconst (-1), 1) := by decide +kernel
theorem dX6_piece_86 : decode cX6_piece 86 = .ok (.ireturn, 1) := by decide +kernel
theorem dX6_piece_87 : decode cX6_piece 87 = .ok (.aload_n 0, 1) := by decide +kernel
theorem dX6_piece_88 : decode cX6_piece 88 = .ok (.getfield 7, 3) := by decide +kernel
theorem dX6_piece_91 : decode cX6_piece 91 = .ok (.aload_n 0, 1) := by decide +kernel
theorem dX6_piece_92 : decode cX6_piece 92 = .ok (.getfield 84, 3) := by decide +kernel
theorem dX6_piece_95 : decode cX6_piece 95 = .ok (.iload_n 1, 1) := by decide +kernel
theorem dX6_piece_96 : decode cX6_piece 96 = .ok (.iastore, 1) := by decide +kernel
theorem dX6_piece_97 : decode cX6_piece 97 = .ok (.aload_n 0, 1) := by decide +kernel
theorem dX6_piece_98 : decode cX6_piece 98 = .ok (.getfield 13, 3) := by decide +kernel
theorem dX6_piece_101 : decode cX6_piece 101 = .ok (.aload_n 0, 1) := by decide +kernel
theorem dX6_piece_102 : decode cX6_piece 102 = .ok (.getfield 84, 3) := by decide +kernel
theorem dX6_piece_105 : decode cX6_piece 105 = .ok (.iload_n 2, 1) := by decide +kernel
theorem dX6_piece_106 : decode cX6_piece 106 = .ok (.iastore, 1) := by decide +kernel
theorem dX6_piece_107 : decode cX6_piece 107 = .ok (.aload_n 0, 1) := by decide +kernel
theorem dX6_piece_108 : decode cX6_piece 108 = .ok (.getfield 16, 3) := by decide +kernel
theorem dX6_piece_111 : decode cX6_piece 111 = .ok (.aload_n 0, 1) := by decide +kernel
theorem dX6_piece_112 : decode cX6_piece 112 = .ok (.getfield 84, 3) := by decide +kernel
theorem dX6_piece_115 : decode cX6_piece 115 = .ok (.iload_n 3, 1) := by decide +kernel
theorem dX6_piece_116 : decode cX6_piece 116 = .ok (.iastore, 1) := by decide +kernel
theorem dX6_piece_117 : decode cX6_piece 117 = .ok (.aload_n 0, 1) := by decide +kernel
theorem dX6_piece_118 : decode cX6_piece 118 = .ok (.getfield 19, 3) := by decide +kernel
theorem dX6_piece_121 : decode cX6_piece 121 = .ok (.aload_n 0, 1) := by decide +kernel
theorem dX6_piece_122 : decode cX6_piece 122 = .ok (.getfield 84, 3) := by decide +kernel
theorem dX6_piece_125 : decode cX6_piece 125 = .ok (.iload 4, 2) := by decide +kernel
theorem dX6_piece_127 : decode cX6_piece 127 = .ok (.iastore, 1) := by decide +kernel
theorem dX6_piece_128 : decode cX6_piece 128 = .ok (.aload_n 0, 1) := by decide +kernel
theorem dX6_piece_129 : decode cX6_piece 129 = .ok (.getfield 22, 3) := by decide +kernel
theorem dX6_piece_132 : decode cX6_piece 132 = .ok (.aload_n 0, 1) := by decide +kernel
theorem dX6_piece_133 : decode cX6_piece 133 = .ok (.getfield 84, 3) := by decide +kernel
theorem dX6_piece_136 : decode cX6_piece 136 = .ok (.iload 5, 2) := by decide +kernel
theorem dX6_piece_138 : decode cX6_piece 138 = .ok (.iastore, 1) := by decide +kernel
theorem dX6_piece_139 : decode cX6_piece 139 = .ok (.aload_n 0, 1) := by decide +kernel
theorem dX6_piece_140 : decode cX6_piece 140 = .ok (.dup, 1) := by decide +kernel
theorem dX6_piece_141 : decode cX6_piece 141 = .ok (.getfield 84, 3) := by decide +kernel
theorem dX6_piece_144 : decode cX6_piece 144 = .ok (.iconst 1, 1) := by decide +kernel
theorem dX6_piece_145 : decode cX6_piece 145 = .ok (.iadd, 1) := by decide +kernel
theorem dX6_piece_146 : decode cX6_piece 146 = .ok (.putfield 84, 3) := by decide +kernel
theorem dX6_piece_149 : decode cX6_piece 149 = .ok (.aload_n 0, 1) := by decide +kernel
theorem dX6_piece_150 : decode cX6_piece 150 = .ok (.invokevirtual 91, 3) := by decide +kernel
theorem dX6_piece_153 : decode cX6_piece 153 = .ok (.aload_n 0, 1) := by decide +kernel
theorem dX6_piece_154 : decode cX6_piece 154 = .ok (.getfield 84, 3) := by decide +kernel
theorem dX6_piece_157 : decode cX6_piece 157 = .ok (.iconst 1, 1) := by decide +kernel
theorem dX6_piece_158 : decode cX6_piece 158 = .ok (.isub, 1) := by decide +kernel
theorem dX6_piece_159 : decode cX6_piece 159 = .ok (.ireturn, 1) := by decide +kernel
theorem dX6_joint_0 : decode cX6_joint 0 = .ok (.aload_n 0, 1) := by decide +kernel
theorem dX6_joint_1 : decode cX6_joint 1 = .ok (.iconst 0, 1) := by decide +kernel
theorem dX6_joint_2 : decode cX6_joint 2 = .ok (.putfield 80, 3) := by decide +kernel
theorem dX6_joint_5 : decode cX6_joint 5 = .ok (.aload_n 0, 1) := by decide +kernel
theorem dX6_joint_6 : decode cX6_joint 6 = .ok (.iload_n 1, 1) := by decide +kernel
theorem dX6_joint_7 : decode cX6_joint 7 = .ok (.invokevirtual 94, 3) := by decide +kernel
theorem dX6_joint_10 : decode cX6_joint 10 = .ok (.ifCond .eq 11, 3) := by decide +kernel
theorem dX6_joint_13 : decode cX6_joint 13 = .ok (.aload_n 0, 1) := by decide +kernel
theorem dX6_joint_14 : decode cX6_joint 14 = .ok (.iload_n 3, 1) := by decide +kernel
theorem dX6_joint_15 : decode cX6_joint 15 = .ok (.invokevirtual 94, 3) := by decide +kernel
theorem dX6_joint_18 : decode cX6_joint 18 = .ok (.ifCond .ne 5, 3) := by decide +kernel
theorem dX6_joint_21 : decode cX6_joint 21 = .ok (.iconst 0, 1) := by decide +kernel
theorem dX6_joint_22 : decode cX6_joint 22 = .ok (.ireturn, 1) := by decide +kernel
theorem dX6_joint_23 : decode cX6_joint 23 = .ok (.aload_n 0, 1) := by decide +kernel
theorem dX6_joint_24 : decode cX6_joint 24 = .ok (.getfield 98, 3) := by decide +kernel
theorem dX6_joint_27 : decode cX6_joint 27 = .ok (.bipush 100, 2) := by decide +kernel
theorem dX6_joint_29 : decode cX6_joint 29 = .ok (.if_icmp .eq 46, 3) := by decide +kernel
theorem dX6_joint_32 : decode cX6_joint 32 = .ok (.aload_n 0, 1) := by decide +kernel
theorem dX6_joint_33 : decode cX6_joint 33 = .ok (.iload_n 1, 1) := by decide +kernel
theorem dX6_joint_34 : decode cX6_joint 34 = .ok (.invokevirtual 101, 3) := by decide +kernel
theorem dX6_joint_37 : decode cX6_joint 37 = .ok (.ifCond .eq 38, 3) := by decide +kernel
theorem dX6_joint_40 : decode cX6_joint 40 = .ok (.aload_n 0, 1) := by decide +kernel
theorem dX6_joint_41 : decode cX6_joint 41 = .ok (.iload_n 3, 1) := by decide +kernel
theorem dX6_joint_42 : decode cX6_joint 42 = .ok (.invokevirtual 101, 3) := by decide +kernel
theorem dX6_joint_45 : decode cX6_joint 45 = .ok (.ifCond .eq 30, 3) := by decide +kernel
theorem dX6_joint_48 : decode cX6_joint 48 = .ok (.iload_n 2, 1) := by decide +kernel
theorem dX6_joint_49 : decode cX6_joint 49 = .ok (.iconst 1, 1) := by decide +kernel
theorem dX6_joint_50 : decode cX6_joint 50 = .ok (.if_icmp .lt 25, 3) := by decide +kernel
theorem dX6_joint_53 : decode cX6_joint 53 = .ok (.iload_n 2, 1) := by decide +kernel
theorem dX6_joint_54 : decode cX6_joint 54 = .ok (.aload_n 0, 1) := by decide +kernel
theorem dX6_joint_55 : decode cX6_joint 55 = .ok (.getfield 13, 3) := by decide +kernel
theorem dX6_joint_58 : decode cX6_joint 58 = .ok (.iload_n 1, 1) := by decide +kernel
theorem dX6_joint_59 : decode cX6_joint 59 = .ok (.iaload, 1) := by decide +kernel
theorem dX6_joint_60 : decode cX6_joint 60 = .ok (.if_icmp .gt 15, 3) := by decide +kernel
theorem dX6_joint_63 : decode cX6_joint 63 = .ok (.iload 4, 2) := by decide +kernel
theorem dX6_joint_65 : decode cX6_joint 65 = .ok (.ifCond .lt 10, 3) := by decide +kernel
theorem dX6_joint_68 : decode cX6_joint 68 = .ok (.iload 4, 2) := by decide +kernel
theorem dX6_joint_70 : decode cX6_joint 70 = .ok (.bipush 99, 2) := by decide +kernel
theorem dX6_joint_72 : decode cX6_joint 72 = .ok (.if_icmp .le 5, 3) := by decide +kernel
theorem dX6_joint_75 : decode cX6_joint 75 = .ok (.iconst (-1), 1) := by decide +kernel
theorem dX6_joint_76 : decode cX6_joint 76 = .ok (.ireturn, 1) := by decide +kernel
theorem dX6_joint_77 : decode cX6_joint 77 = .ok (.iconst 0, 1) := by decide +kernel
theorem dX6_joint_78 : decode cX6_joint 78 = .ok (.istore 5, 2) := by decide +kernel
theorem dX6_joint_80 : decode cX6_joint 80 = .ok (.iload 5, 2) := by decide +kernel
theorem dX6_joint_82 : decode cX6_joint 82 = .ok (.aload_n 0, 1) := by decide +kernel
theorem dX6_joint_83 : decode cX6_joint 83 = .ok (.getfield 98, 3) := by decide +kernel
theorem dX6_joint_86 : decode cX6_joint 86 = .ok (.if_icmp .ge 44, 3) := by decide +kernel
theorem dX6_joint_89 : decode cX6_joint 89 = .ok (.aload_n 0, 1) := by decide +kernel
theorem dX6_joint_90 : decode cX6_joint 90 = .ok (.getfield 25, 3) := by decide +kernel
theorem dX6_joint_93 : decode cX6_joint 93 = .ok (.iload 5, 2) := by decide +kernel
theorem dX6_joint_95 : decode cX6_joint 95 = .ok (.iaload, 1) := by decide +kernel
theorem dX6_joint_96 : decode cX6_joint 96 = .ok (.iload_n 1, 1) := by decide +kernel
theorem dX6_joint_97 : decode cX6_joint 97 = .ok (.if_icmp .ne 27, 3) := by decide +kernel
theorem dX6_joint_100 : decode cX6_joint 100 = .ok (.aload_n 0, 1) := by decide +kernel
theorem dX6_joint_101 : decode cX6_joint 101 = .ok (.getfield 28, 3) := by decide +kernel
theorem dX6_joint_104 : decode cX6_joint 104 = .ok (.iload 5, 2) := by decide +kernel
theorem dX6_joint_106 : decode cX6_joint 106 = .ok (.iaload, 1) := by decide +kernel
theorem dX6_joint_107 : decode cX6_joint 107 = .ok (.iload_n 2, 1) := by decide +kernel
theorem dX6_joint_108 : decode cX6_joint 108 = .ok (.if_icmp .ne 16, 3) := by decide +kernel
theorem dX6_joint_111 : decode cX6_joint 111 = .ok (.aload_n 0, 1) := by decide +kernel
theorem dX6_joint_112 : decode cX6_joint 112 = .ok (.getfield 31, 3) := by decide +kernel
theorem dX6_joint_115 : decode cX6_joint 115 = .ok (.iload 5, 2) := by decide +kernel
theorem dX6_joint_117 : decode cX6_joint 117 = .ok (.iaload, 1) := by decide +kernel
theorem dX6_joint_118 : decode cX6_joint 118 = .ok (.iload_n 3, 1) := by decide +kernel
theorem dX6_joint_119 : decode cX6_joint 119 = .ok (.if_icmp .ne 5, 3) := by decide +kernel
theorem dX6_joint_122 : decode cX6_joint 122 = .ok (.iconst (-1), 1) := by decide +kernel
theorem dX6_joint_123 : decode cX6_joint 123 = .ok (.ireturn, 1) := by decide +kernel
theorem dX6_joint_124 : decode cX6_joint 124 = .ok (.iinc 5 1, 3) := by decide +kernel
theorem dX6_joint_127 : decode cX6_joint 127 = .ok (.goto (-47), 3) := by decide +kernel
theorem dX6_joint_130 : decode cX6_joint 130 = .ok (.aload_n 0, 1) := by decide +kernel
theorem dX6_joint_131 : decode cX6_joint 131 = .ok (.getfield 25, 3) := by decide +kernel
theorem dX6_joint_134 : decode cX6_joint 134 = .ok (.aload_n 0, 1) := by decide +kernel
theorem dX6_joint_135 : decode cX6_joint 135 = .ok (.getfield 98, 3) := by decide +kernel
theorem dX6_joint_138 : decode cX6_joint 138 = .ok (.iload_n 1, 1) := by decide +kernel
theorem dX6_joint_139 : decode cX6_joint 139 = .ok (.iastore, 1) := by decide +kernel
theorem dX6_joint_140 : decode cX6_joint 140 = .ok (.aload_n 0, 1) := by decide +kernel
theorem dX6_joint_141 : decode cX6_joint 141 = .ok (.getfield 28, 3) := by decide +kernel
theorem dX6_joint_144 : decode cX6_joint 144 = .ok (.aload_n 0, 1) := by decide +kernel
theorem dX6_joint_145 : decode cX6_joint 145 = .ok (.getfield 98, 3) := by decide +kernel
theorem dX6_joint_148 : decode cX6_joint 148 = .ok (.iload_n 2, 1) := by decide +kernel
theorem dX6_joint_149 : decode cX6_joint 149 = .ok (.iastore, 1) := by decide +kernel
theorem dX6_joint_150 : decode cX6_joint 150 = .ok (.aload_n 0, 1) := by decide +kernel
theorem dX6_joint_151 : decode cX6_joint 151 = .ok (.getfield 31, 3) := by decide +kernel
theorem dX6_joint_154 : decode cX6_joint 154 = .ok (.aload_n 0, 1) := by decide +kernel
theorem dX6_joint_155 : decode cX6_joint 155 = .ok (.getfield 98, 3) := by decide +kernel
theorem dX6_joint_158 : decode cX6_joint 158 = .ok (.iload_n 3, 1) := by decide +kernel
theorem dX6_joint_159 : decode cX6_joint 159 = .ok (.iastore, 1) := by decide +kernel
theorem dX6_joint_160 : decode cX6_joint 160 = .ok (.aload_n 0, 1) := by decide +kernel
theorem dX6_joint_161 : decode cX6_joint 161 = .ok (.getfield 34, 3) := by decide +kernel
theorem dX6_joint_164 : decode cX6_joint 164 = .ok (.aload_n 0, 1) := by decide +kernel
theorem dX6_joint_165 : decode cX6_joint 165 = .ok (.getfield 98, 3) := by decide +kernel
theorem dX6_joint_168 : decode cX6_joint 168 = .ok (.iload 4, 2) := by decide +kernel
theorem dX6_joint_170 : decode cX6_joint 170 = .ok (.iastore, 1) := by decide +kernel
theorem dX6_joint_171 : decode cX6_joint 171 = .ok (.aload_n 0, 1) := by decide +kernel
theorem dX6_joint_172 : decode cX6_joint 172 = .ok (.dup, 1) := by decide +kernel
theorem dX6_joint_173 : decode cX6_joint 173 = .ok (.getfield 98, 3) := by decide +kernel
theorem dX6_joint_176 : decode cX6_joint 176 = .ok (.iconst 1, 1) := by decide +kernel
theorem dX6_joint_177 : decode cX6_joint 177 = .ok (.iadd, 1) := by decide +kernel
theorem dX6_joint_178 : decode cX6_joint 178 = .ok (.putfield 98, 3) := by decide +kernel
theorem dX6_joint_181 : decode cX6_joint 181 = .ok (.aload_n 0, 1) := by decide +kernel
theorem dX6_joint_182 : decode cX6_joint 182 = .ok (.invokevirtual 91, 3) := by decide +kernel
theorem dX6_joint_185 : decode cX6_joint 185 = .ok (.aload_n 0, 1) := by decide +kernel
theorem dX6_joint_186 : decode cX6_joint 186 = .ok (.getfield 98, 3) := by decide +kernel
theorem dX6_joint_189 : decode cX6_joint 189 = .ok (.iconst 1, 1) := by decide +kernel
theorem dX6_joint_190 : decode cX6_joint 190 = .ok (.isub, 1) := by decide +kernel
theorem dX6_joint_191 : decode cX6_joint 191 = .ok (.ireturn, 1) := by decide +kernel
theorem dX6_price_0 : decode cX6_price 0 = .ok (.aload_n 0, 1) := by decide +kernel
theorem dX6_price_1 : decode cX6_price 1 = .ok (.iconst 0, 1) := by decide +kernel
theorem dX6_price_2 : decode cX6_price 2 = .ok (.putfield 80, 3) := by decide +kernel
theorem dX6_price_5 : decode cX6_price 5 = .ok (.aload_n 0, 1) := by decide +kernel
theorem dX6_price_6 : decode cX6_price 6 = .ok (.iload_n 1, 1) := by decide +kernel
theorem dX6_price_7 : decode cX6_price 7 = .ok (.ifCond .eq 8, 3) := by decide +kernel
theorem dX6_price_10 : decode cX6_price 10 = .ok (.iload_n 1, 1) := by decide +kernel
theorem dX6_price_11 : decode cX6_price 11 = .ok (.iconst 1, 1) := by decide +kernel
theorem dX6_price_12 : decode cX6_price 12 = .ok (.if_icmp .ne 17, 3) := by decide +kernel
theorem dX6_price_15 : decode cX6_price 15 = .ok (.iload_n 2, 1) := by decide +kernel
theorem dX6_price_16 : decode cX6_price 16 = .ok (.ifCond .lt 13, 3) := by decide +kernel
theorem dX6_price_19 : decode cX6_price 19 = .ok (.iload_n 2, 1) := by decide +kernel
theorem dX6_price_20 : decode cX6_price 20 = .ok (.bipush 99, 2) := by decide +kernel
theorem dX6_price_22 : decode cX6_price 22 = .ok (.if_icmp .gt 7, 3) := by decide +kernel
theorem dX6_price_25 : decode cX6_price 25 = .ok (.iconst 1, 1) := by decide +kernel
theorem dX6_price_26 : decode cX6_price 26 = .ok (.goto 4, 3) := by decide +kernel
theorem dX6_price_29 : decode cX6_price 29 = .ok (.iconst 0, 1) := by decide +kernel
theorem dX6_price_30 : decode cX6_price 30 = .ok (.iconst 1, 1) := by decide +kernel
theorem dX6_price_31 : decode cX6_price 31 = .ok (.invokevirtual 87, 3) := by decide +kernel
theorem dX6_price_34 : decode cX6_price 34 = .ok (.ifCond .ne 5, 3) := by decide +kernel
theorem dX6_price_37 : decode cX6_price 37 = .ok (.iconst 0, 1) := by decide +kernel
theorem dX6_price_38 : decode cX6_price 38 = .ok (.ireturn, 1) := by decide +kernel
theorem dX6_price_39 : decode cX6_price 39 = .ok (.aload_n 0, 1) := by decide +kernel
theorem dX6_price_40 : decode cX6_price 40 = .ok (.getfield 37, 3) := by decide +kernel
theorem dX6_price_43 : decode cX6_price 43 = .ok (.iload_n 1, 1) := by decide +kernel
theorem dX6_price_44 : decode cX6_price 44 = .ok (.iaload, 1) := by decide +kernel
theorem dX6_price_45 : decode cX6_price 45 = .ok (.istore_n 3, 1) := by decide +kernel
theorem dX6_price_46 : decode cX6_price 46 = .ok (.aload_n 0, 1) := by decide +kernel
theorem dX6_price_47 : decode cX6_price 47 = .ok (.getfield 37, 3) := by decide +kernel
theorem dX6_price_50 : decode cX6_price 50 = .ok (.iload_n 1, 1) := by decide +kernel
theorem dX6_price_51 : decode cX6_price 51 = .ok (.iload_n 2, 1) := by decide +kernel
theorem dX6_price_52 : decode cX6_price 52 = .ok (.iastore, 1) := by decide +kernel
theorem dX6_price_53 : decode cX6_price 53 = .ok (.aload_n 0, 1) := by decide +kernel
theorem dX6_price_54 : decode cX6_price 54 = .ok (.invokevirtual 91, 3) := by decide +kernel
theorem dX6_price_57 : decode cX6_price 57 = .ok (.iload_n 3, 1) := by decide +kernel
theorem dX6_price_58 : decode cX6_price 58 = .ok (.ireturn, 1) := by decide +kernel
theorem dX6_reckons_0 : decode cX6_reckons 0 = .ok (.iconst 0, 1) := by decide +kernel
theorem dX6_reckons_1 : decode cX6_reckons 1 = .ok (.istore_n 3, 1) := by decide +kernel
theorem dX6_reckons_2 : decode cX6_reckons 2 = .ok (.iload_n 3, 1) := by decide +kernel
theorem dX6_reckons_3 : decode cX6_reckons 3 = .ok (.aload_n 0, 1) := by decide +kernel
theorem dX6_reckons_4 : decode cX6_reckons 4 = .ok (.getfield 84, 3) := by decide +kernel
theorem dX6_reckons_7 : decode cX6_reckons 7 = .ok (.if_icmp .ge 38, 3) := by decide +kernel
theorem dX6_reckons_10 : decode cX6_reckons 10 = .ok (.aload_n 0, 1) := by decide +kernel
theorem dX6_reckons_11 : decode cX6_reckons 11 = .ok (.getfield 69, 3) := by decide +kernel
theorem dX6_reckons_14 : decode cX6_reckons 14 = .ok (.iload_n 3, 1) := by decide +kernel
theorem dX6_reckons_15 : decode cX6_reckons 15 = .ok (.aload_n 0, 1) := by decide +kernel
theorem dX6_reckons_16 : decode cX6_reckons 16 = .ok (.iload_n 3, 1) := by decide +kernel
theorem dX6_reckons_17 : decode cX6_reckons 17 = .ok (.iload_n 1, 1) := by decide +kernel
theorem dX6_reckons_18 : decode cX6_reckons 18 = .ok (.invokevirtual 104, 3) := by decide +kernel
theorem dX6_reckons_21 : decode cX6_reckons 21 = .ok (.ifCond .eq 7, 3) := by decide +kernel
theorem dX6_reckons_24 : decode cX6_reckons 24 = .ok (.lconst 0, 1) := by decide +kernel
theorem dX6_reckons_25 : decode cX6_reckons 25 = .ok (.goto 6, 3) := by decide +kernel
theorem dX6_reckons_28 : decode cX6_reckons 28 = .ok (.ldc2_w 108, 3) := by decide +kernel
theorem dX6_reckons_31 : decode cX6_reckons 31 = .ok (.lastore, 1) := by decide +kernel
theorem dX6_reckons_32 : decode cX6_reckons 32 = .ok (.aload_n 0, 1) := by decide +kernel
theorem dX6_reckons_33 : decode cX6_reckons 33 = .ok (.getfield 72, 3) := by decide +kernel
theorem dX6_reckons_36 : decode cX6_reckons 36 = .ok (.iload_n 3, 1) := by decide +kernel
theorem dX6_reckons_37 : decode cX6_reckons 37 = .ok (.iconst 0, 1) := by decide +kernel
theorem dX6_reckons_38 : decode cX6_reckons 38 = .ok (.iastore, 1) := by decide +kernel
theorem dX6_reckons_39 : decode cX6_reckons 39 = .ok (.iinc 3 1, 3) := by decide +kernel
theorem dX6_reckons_42 : decode cX6_reckons 42 = .ok (.goto (-40), 3) := by decide +kernel
theorem dX6_reckons_45 : decode cX6_reckons 45 = .ok (.iconst 1, 1) := by decide +kernel
theorem dX6_reckons_46 : decode cX6_reckons 46 = .ok (.istore_n 3, 1) := by decide +kernel
theorem dX6_reckons_47 : decode cX6_reckons 47 = .ok (.iload_n 3, 1) := by decide +kernel
theorem dX6_reckons_48 : decode cX6_reckons 48 = .ok (.ifCond .eq 200, 3) := by decide +kernel
theorem dX6_reckons_51 : decode cX6_reckons 51 = .ok (.iconst 0, 1) := by decide +kernel
theorem dX6_reckons_52 : decode cX6_reckons 52 = .ok (.istore_n 3, 1) := by decide +kernel
theorem dX6_reckons_53 : decode cX6_reckons 53 = .ok (.iconst 0, 1) := by decide +kernel
theorem dX6_reckons_54 : decode cX6_reckons 54 = .ok (.istore 4, 2) := by decide +kernel
theorem dX6_reckons_56 : decode cX6_reckons 56 = .ok (.iload 4, 2) := by decide +kernel
theorem dX6_reckons_58 : decode cX6_reckons 58 = .ok (.aload_n 0, 1) := by decide +kernel
theorem dX6_reckons_59 : decode cX6_reckons 59 = .ok (.getfield 98, 3) := by decide +kernel
theorem dX6_reckons_62 : decode cX6_reckons 62 = .ok (.if_icmp .ge 183, 3) := by decide +kernel
theorem dX6_reckons_65 : decode cX6_reckons 65 = .ok (.aload_n 0, 1) := by decide +kernel
theorem dX6_reckons_66 : decode cX6_reckons 66 = .ok (.getfield 25, 3) := by decide +kernel
theorem dX6_reckons_69 : decode cX6_reckons 69 = .ok (.iload 4, 2) := by decide +kernel
theorem dX6_reckons_71 : decode cX6_reckons 71 = .ok (.iaload, 1) := by decide +kernel
theorem dX6_reckons_72 : decode cX6_reckons 72 = .ok (.istore 5, 2) := by decide +kernel
theorem dX6_reckons_74 : decode cX6_reckons 74 = .ok (.aload_n 0, 1) := by decide +kernel
theorem dX6_reckons_75 : decode cX6_reckons 75 = .ok (.getfield 69, 3) := by decide +kernel
theorem dX6_reckons_78 : decode cX6_reckons 78 = .ok (.aload_n 0, 1) := by decide +kernel
theorem dX6_reckons_79 : decode cX6_reckons 79 = .ok (.getfield 31, 3) := by decide +kernel
theorem dX6_reckons_82 : decode cX6_reckons 82 = .ok (.iload 4, 2) := by decide +kernel
theorem dX6_reckons_84 : decode cX6_reckons 84 = .ok (.iaload, 1) := by decide +kernel
theorem dX6_reckons_85 : decode cX6_reckons 85 = .ok (.laload, 1) := by decide +kernel
theorem dX6_reckons_86 : decode cX6_reckons 86 = .ok (.ldc2_w 108, 3) := by decide +kernel
theorem dX6_reckons_89 : decode cX6_reckons 89 = .ok (.lcmp, 1) := by decide +kernel
theorem dX6_reckons_90 : decode cX6_reckons 90 = .ok (.ifCond .lt 6, 3) := by decide +kernel
theorem dX6_reckons_93 : decode cX6_reckons 93 = .ok (.goto 146, 3) := by decide +kernel
theorem dX6_reckons_96 : decode cX6_reckons 96 = .ok (.aload_n 0, 1) := by decide +kernel
theorem dX6_reckons_97 : decode cX6_reckons 97 = .ok (.getfield 28, 3) := by decide +kernel
theorem dX6_reckons_100 : decode cX6_reckons 100 = .ok (.iload 4, 2) := by decide +kernel
theorem dX6_reckons_102 : decode cX6_reckons 102 = .ok (.iaload, 1) := by decide +kernel
theorem dX6_reckons_103 : decode cX6_reckons 103 = .ok (.i2l, 1) := by decide +kernel
theorem dX6_reckons_104 : decode cX6_reckons 104 = .ok (.aload_n 0, 1) := by decide +kernel
theorem dX6_reckons_105 : decode cX6_reckons 105 = .ok (.getfield 16, 3) := by decide +kernel
theorem dX6_reckons_108 : decode cX6_reckons 108 = .ok (.iload 5, 2) := by decide +kernel
theorem dX6_reckons_110 : decode cX6_reckons 110 = .ok (.iaload, 1) := by decide +kernel
theorem dX6_reckons_111 : decode cX6_reckons 111 = .ok (.i2l, 1) := by decide +kernel
theorem dX6_reckons_112 : decode cX6_reckons 112 = .ok (.lmul, 1) := by decide +kernel
theorem dX6_reckons_113 : decode cX6_reckons 113 = .ok (.lstore 6, 2) := by decide +kernel
theorem dX6_reckons_115 : decode cX6_reckons 115 = .ok (.aload_n 0, 1) := by decide +kernel
theorem dX6_reckons_116 : decode cX6_reckons 116 = .ok (.getfield 69, 3) := by decide +kernel
theorem dX6_reckons_119 : decode cX6_reckons 119 = .ok (.aload_n 0, 1) := by decide +kernel
theorem dX6_reckons_120 : decode cX6_reckons 120 = .ok (.getfield 31, 3) := by decide +kernel
theorem dX6_reckons_123 : decode cX6_reckons 123 = .ok (.iload 4, 2) := by decide +kernel
theorem dX6_reckons_125 : decode cX6_reckons 125 = .ok (.iaload, 1) := by decide +kernel
theorem dX6_reckons_126 : decode cX6_reckons 126 = .ok (.laload, 1) := by decide +kernel
theorem dX6_reckons_127 : decode cX6_reckons 127 = .ok (.iload_n 2, 1) := by decide +kernel
theorem dX6_reckons_128 : decode cX6_reckons 128 = .ok (.ifCond .eq 8, 3) := by decide +kernel
theorem dX6_reckons_131 : decode cX6_reckons 131 = .ok (.lload 6, 2) := by decide +kernel
theorem dX6_reckons_133 : decode cX6_reckons 133 = .ok (.goto 26, 3) := by decide +kernel
theorem dX6_reckons_136 : decode cX6_reckons 136 = .ok (.ldc2_w 110, 3) := by decide +kernel
theorem dX6_reckons_139 : decode cX6_reckons 139 = .ok (.aload_n 0, 1) := by decide +kernel
theorem dX6_reckons_140 : decode cX6_reckons 140 = .ok (.getfield 34, 3) := by decide +kernel
theorem dX6_reckons_143 : decode cX6_reckons 143 = .ok (.iload 4, 2) := by decide +kernel
theorem dX6_reckons_145 : decode cX6_reckons 145 = .ok (.iaload, 1) := by decide +kernel
theorem dX6_reckons_146 : decode cX6_reckons 146 = .ok (.i2l, 1) := by decide +kernel
theorem dX6_reckons_147 : decode cX6_reckons 147 = .ok (.lmul, 1) := by decide +kernel
theorem dX6_reckons_148 : decode cX6_reckons 148 = .ok (.aload_n 0, 1) := by decide +kernel
theorem dX6_reckons_149 : decode cX6_reckons 149 = .ok (.getfield 37, 3) := by decide +kernel
theorem dX6_reckons_152 : decode cX6_reckons 152 = .ok (.iconst 1, 1) := by decide +kernel
theorem dX6_reckons_153 : decode cX6_reckons 153 = .ok (.iaload, 1) := by decide +kernel
theorem dX6_reckons_154 : decode cX6_reckons 154 = .ok (.i2l, 1) := by decide +kernel
theorem dX6_reckons_155 : decode cX6_reckons 155 = .ok (.lload 6, 2) := by decide +kernel
theorem dX6_reckons_157 : decode cX6_reckons 157 = .ok (.lmul, 1) := by decide +kernel
theorem dX6_reckons_158 : decode cX6_reckons 158 = .ok (.ladd, 1) := by decide +kernel
theorem dX6_reckons_159 : decode cX6_reckons 159 = .ok (.ladd, 1) := by decide +kernel
theorem dX6_reckons_160 : decode cX6_reckons 160 = .ok (.lstore 8, 2) := by decide +kernel
theorem dX6_reckons_162 : decode cX6_reckons 162 = .ok (.aload_n 0, 1) := by decide +kernel
theorem dX6_reckons_163 : decode cX6_reckons 163 = .ok (.getfield 72, 3) := by decide +kernel
theorem dX6_reckons_166 : decode cX6_reckons 166 = .ok (.aload_n 0, 1) := by decide +kernel
theorem dX6_reckons_167 : decode cX6_reckons 167 = .ok (.getfield 31, 3) := by decide +kernel
theorem dX6_reckons_170 : decode cX6_reckons 170 = .ok (.iload 4, 2) := by decide +kernel
theorem dX6_reckons_172 : decode cX6_reckons 172 = .ok (.iaload, 1) := by decide +kernel
theorem dX6_reckons_173 : decode cX6_reckons 173 = .ok (.iaload, 1) := by decide +kernel
theorem dX6_reckons_174 : decode cX6_reckons 174 = .ok (.iconst 1, 1) := by decide +kernel
theorem dX6_reckons_175 : decode cX6_reckons 175 = .ok (.iadd, 1) := by decide +kernel
theorem dX6_reckons_176 : decode cX6_reckons 176 = .ok (.istore 10, 2) := by decide +kernel
theorem dX6_reckons_178 : decode cX6_reckons 178 = .ok (.lload 8, 2) := by decide +kernel
theorem dX6_reckons_180 : decode cX6_reckons 180 = .ok (.aload_n 0, 1) := by decide +kernel
theorem dX6_reckons_181 : decode cX6_reckons 181 = .ok (.getfield 69, 3) := by decide +kernel
theorem dX6_reckons_184 : decode cX6_reckons 184 = .ok (.iload 5, 2) := by decide +kernel
theorem dX6_reckons_186 : decode cX6_reckons 186 = .ok (.laload, 1) := by decide +kernel
theorem dX6_reckons_187 : decode cX6_reckons 187 = .ok (.lcmp, 1) := by decide +kernel
theorem dX6_reckons_188 : decode cX6_reckons 188 = .ok (.ifCond .gt 51, 3) := by decide +kernel
theorem dX6_reckons_191 : decode cX6_reckons 191 = .ok (.lload 8, 2) := by decide +kernel
theorem dX6_reckons_193 : decode cX6_reckons 193 = .ok (.aload_n 0, 1) := by decide +kernel
theorem dX6_reckons_194 : decode cX6_reckons 194 = .ok (.getfield 69, 3) := by decide +kernel
theorem dX6_reckons_197 : decode cX6_reckons 197 = .ok (.iload 5, 2) := by decide +kernel
theorem dX6_reckons_199 : decode cX6_reckons 199 = .ok (.laload, 1) := by decide +kernel
theorem dX6_reckons_200 : decode cX6_reckons 200 = .ok (.lcmp, 1) := by decide +kernel
theorem dX6_reckons_201 : decode cX6_reckons 201 = .ok (.ifCond .ne 18, 3) := by decide +kernel
theorem dX6_reckons_204 : decode cX6_reckons 204 = .ok (.iload 10, 2) := by decide +kernel
theorem dX6_reckons_206 : decode cX6_reckons 206 = .ok (.aload_n 0, 1) := by decide +kernel
theorem dX6_reckons_207 : decode cX6_reckons 207 = .ok (.getfield 72, 3) := by decide +kernel
theorem dX6_reckons_210 : decode cX6_reckons 210 = .ok (.iload 5, 2) := by decide +kernel
theorem dX6_reckons_212 : decode cX6_reckons 212 = .ok (.iaload, 1) := by decide +kernel
theorem dX6_reckons_213 : decode cX6_reckons 213 = .ok (.if_icmp .lt 6, 3) := by decide +kernel
theorem dX6_reckons_216 : decode cX6_reckons 216 = .ok (.goto 23, 3) := by decide +kernel
theorem dX6_reckons_219 : decode cX6_reckons 219 = .ok (.aload_n 0, 1) := by decide +kernel
theorem dX6_reckons_220 : decode cX6_reckons 220 = .ok (.getfield 69, 3) := by decide +kernel
theorem dX6_reckons_223 : decode cX6_reckons 223 = .ok (.iload 5, 2) := by decide +kernel
theorem dX6_reckons_225 : decode cX6_reckons 225 = .ok (.lload 8, 2) := by decide +kernel
theorem dX6_reckons_227 : decode cX6_reckons 227 = .ok (.lastore, 1) := by decide +kernel
theorem dX6_reckons_228 : decode cX6_reckons 228 = .ok (.aload_n 0, 1) := by decide +kernel
theorem dX6_reckons_229 : decode cX6_reckons 229 = .ok (.getfield 72, 3) := by decide +kernel
theorem dX6_reckons_232 : decode cX6_reckons 232 = .ok (.iload 5, 2) := by decide +kernel
theorem dX6_reckons_234 : decode cX6_reckons 234 = .ok (.iload 10, 2) := by decide +kernel
theorem dX6_reckons_236 : decode cX6_reckons 236 = .ok (.iastore, 1) := by decide +kernel
theorem dX6_reckons_237 : decode cX6_reckons 237 = .ok (.iconst 1, 1) := by decide +kernel
theorem dX6_reckons_238 : decode cX6_reckons 238 = .ok (.istore_n 3, 1) := by decide +kernel
theorem dX6_reckons_239 : decode cX6_reckons 239 = .ok (.iinc 4 1, 3) := by decide +kernel
theorem dX6_reckons_242 : decode cX6_reckons 242 = .ok (.goto (-186), 3) := by decide +kernel
theorem dX6_reckons_245 : decode cX6_reckons 245 = .ok (.goto (-198), 3) := by decide +kernel
theorem dX6_reckons_248 : decode cX6_reckons 248 = .ok (.return_, 1) := by decide +kernel
theorem dX6_until_0 : decode cX6_until 0 = .ok (.iload 4, 2) := by decide +kernel
theorem dX6_until_2 : decode cX6_until 2 = .ok (.iload_n 2, 1) := by decide +kernel
theorem dX6_until_3 : decode cX6_until 3 = .ok (.isub, 1) := by decide +kernel
theorem dX6_until_4 : decode cX6_until 4 = .ok (.i2l, 1) := by decide +kernel
theorem dX6_until_5 : decode cX6_until 5 = .ok (.aload_n 0, 1) := by decide +kernel
theorem dX6_until_6 : decode cX6_until 6 = .ok (.getfield 16, 3) := by decide +kernel
theorem dX6_until_9 : decode cX6_until 9 = .ok (.iload_n 1, 1) := by decide +kernel
theorem dX6_until_10 : decode cX6_until 10 = .ok (.iaload, 1) := by decide +kernel
theorem dX6_until_11 : decode cX6_until 11 = .ok (.i2l, 1) := by decide +kernel
theorem dX6_until_12 : decode cX6_until 12 = .ok (.lmul, 1) := by decide +kernel
theorem dX6_until_13 : decode cX6_until 13 = .ok (.iload_n 3, 1) := by decide +kernel
theorem dX6_until_14 : decode cX6_until 14 = .ok (.i2l, 1) := by decide +kernel
theorem dX6_until_15 : decode cX6_until 15 = .ok (.lsub, 1) := by decide +kernel
theorem dX6_until_16 : decode cX6_until 16 = .ok (.lreturn, 1) := by decide +kernel
theorem dX6_stepCost_0 : decode cX6_stepCost 0 = .ok (.iload_n 1, 1) := by decide +kernel
theorem dX6_stepCost_1 : decode cX6_stepCost 1 = .ok (.bipush 100, 2) := by decide +kernel
theorem dX6_stepCost_3 : decode cX6_stepCost 3 = .ok (.if_icmp .ne 38, 3) := by decide +kernel
theorem dX6_stepCost_6 : decode cX6_stepCost 6 = .ok (.ldc2_w 110, 3) := by decide +kernel
theorem dX6_stepCost_9 : decode cX6_stepCost 9 = .ok (.aload_n 0, 1) := by decide +kernel
theorem dX6_stepCost_10 : decode cX6_stepCost 10 = .ok (.getfield 37, 3) := by decide +kernel
theorem dX6_stepCost_13 : decode cX6_stepCost 13 = .ok (.iconst 0, 1) := by decide +kernel
theorem dX6_stepCost_14 : decode cX6_stepCost 14 = .ok (.iaload, 1) := by decide +kernel
theorem dX6_stepCost_15 : decode cX6_stepCost 15 = .ok (.i2l, 1) := by decide +kernel
theorem dX6_stepCost_16 : decode cX6_stepCost 16 = .ok (.lmul, 1) := by decide +kernel
theorem dX6_stepCost_17 : decode cX6_stepCost 17 = .ok (.aload_n 0, 1) := by decide +kernel
theorem dX6_stepCost_18 : decode cX6_stepCost 18 = .ok (.getfield 37, 3) := by decide +kernel
theorem dX6_stepCost_21 : decode cX6_stepCost 21 = .ok (.iconst 1, 1) := by decide +kernel
theorem dX6_stepCost_22 : decode cX6_stepCost 22 = .ok (.iaload, 1) := by decide +kernel
theorem dX6_stepCost_23 : decode cX6_stepCost 23 = .ok (.i2l, 1) := by decide +kernel
theorem dX6_stepCost_24 : decode cX6_stepCost 24 = .ok (.aload_n 0, 1) := by decide +kernel
theorem dX6_stepCost_25 : decode cX6_stepCost 25 = .ok (.iload_n 2, 1) := by decide +kernel
theorem dX6_stepCost_26 : decode cX6_stepCost 26 = .ok (.iload_n 3, 1) := by decide +kernel
theorem dX6_stepCost_27 : decode cX6_stepCost 27 = .ok (.iload 4, 2) := by decide +kernel
theorem dX6_stepCost_29 : decode cX6_stepCost 29 = .ok (.aload_n 0, 1) := by decide +kernel
theorem dX6_stepCost_30 : decode cX6_stepCost 30 = .ok (.getfield 13, 3) := by decide +kernel
theorem dX6_stepCost_33 : decode cX6_stepCost 33 = .ok (.iload_n 2, 1) := by decide +kernel
theorem dX6_stepCost_34 : decode cX6_stepCost 34 = .ok (.iaload, 1) := by decide +kernel
theorem dX6_stepCost_35 : decode cX6_stepCost 35 = .ok (.invokevirtual 112, 3) := by decide +kernel
theorem dX6_stepCost_38 : decode cX6_stepCost 38 = .ok (.lmul, 1) := by decide +kernel
theorem dX6_stepCost_39 : decode cX6_stepCost 39 = .ok (.ladd, 1) := by decide +kernel
theorem dX6_stepCost_40 : decode cX6_stepCost 40 = .ok (.lreturn, 1) := by decide +kernel
theorem dX6_stepCost_41 : decode cX6_stepCost 41 = .ok (.ldc2_w 110, 3) := by decide +kernel
theorem dX6_stepCost_44 : decode cX6_stepCost 44 = .ok (.aload_n 0, 1) := by decide +kernel
theorem dX6_stepCost_45 : decode cX6_stepCost 45 = .ok (.getfield 34, 3) := by decide +kernel
theorem dX6_stepCost_48 : decode cX6_stepCost 48 = .ok (.iload_n 1, 1) := by decide +kernel
theorem dX6_stepCost_49 : decode cX6_stepCost 49 = .ok (.iaload, 1) := by decide +kernel
theorem dX6_stepCost_50 : decode cX6_stepCost 50 = .ok (.i2l, 1) := by decide +kernel
theorem dX6_stepCost_51 : decode cX6_stepCost 51 = .ok (.lmul, 1) := by decide +kernel
theorem dX6_stepCost_52 : decode cX6_stepCost 52 = .ok (.aload_n 0, 1) := by decide +kernel
theorem dX6_stepCost_53 : decode cX6_stepCost 53 = .ok (.getfield 37, 3) := by decide +kernel
theorem dX6_stepCost_56 : decode cX6_stepCost 56 = .ok (.iconst 1, 1) := by decide +kernel
theorem dX6_stepCost_57 : decode cX6_stepCost 57 = .ok (.iaload, 1) := by decide +kernel
theorem dX6_stepCost_58 : decode cX6_stepCost 58 = .ok (.i2l, 1) := by decide +kernel
theorem dX6_stepCost_59 : decode cX6_stepCost 59 = .ok (.aload_n 0, 1) := by decide +kernel
theorem dX6_stepCost_60 : decode cX6_stepCost 60 = .ok (.iload_n 2, 1) := by decide +kernel
theorem dX6_stepCost_61 : decode cX6_stepCost 61 = .ok (.iload_n 3, 1) := by decide +kernel
theorem dX6_stepCost_62 : decode cX6_stepCost 62 = .ok (.iload 4, 2) := by decide +kernel
theorem dX6_stepCost_64 : decode cX6_stepCost 64 = .ok (.aload_n 0, 1) := by decide +kernel
theorem dX6_stepCost_65 : decode cX6_stepCost 65 = .ok (.getfield 28, 3) := by decide +kernel
theorem dX6_stepCost_68 : decode cX6_stepCost 68 = .ok (.iload_n 1, 1) := by decide +kernel
theorem dX6_stepCost_69 : decode cX6_stepCost 69 = .ok (.iaload, 1) := by decide +kernel
theorem dX6_stepCost_70 : decode cX6_stepCost 70 = .ok (.invokevirtual 112, 3) := by decide +kernel
theorem dX6_stepCost_73 : decode cX6_stepCost 73 = .ok (.lmul, 1) := by decide +kernel
theorem dX6_stepCost_74 : decode cX6_stepCost 74 = .ok (.ladd, 1) := by decide +kernel
theorem dX6_stepCost_75 : decode cX6_stepCost 75 = .ok (.lreturn, 1) := by decide +kernel
theorem dX6_isStep_0 : decode cX6_isStep 0 = .ok (.iload_n 1, 1) := by decide +kernel
theorem dX6_isStep_1 : decode cX6_isStep 1 = .ok (.bipush 100, 2) := by decide +kernel
theorem dX6_isStep_3 : decode cX6_isStep 3 = .ok (.if_icmp .ne 18, 3) := by decide +kernel
theorem dX6_isStep_6 : decode cX6_isStep 6 = .ok (.aload_n 0, 1) := by decide +kernel
theorem dX6_isStep_7 : decode cX6_isStep 7 = .ok (.getfield 7, 3) := by decide +kernel
theorem dX6_isStep_10 : decode cX6_isStep 10 = .ok (.iload_n 2, 1) := by decide +kernel
theorem dX6_isStep_11 : decode cX6_isStep 11 = .ok (.iaload, 1) := by decide +kernel
theorem dX6_isStep_12 : decode cX6_isStep 12 = .ok (.ifCond .ne 7, 3) := by decide +kernel
theorem dX6_isStep_15 : decode cX6_isStep 15 = .ok (.iconst 1, 1) := by decide +kernel
theorem dX6_isStep_16 : decode cX6_isStep 16 = .ok (.goto 4, 3) := by decide +kernel
theorem dX6_isStep_19 : decode cX6_isStep 19 = .ok (.iconst 0, 1) := by decide +kernel
theorem dX6_isStep_20 : decode cX6_isStep 20 = .ok (.ireturn, 1) := by decide +kernel
theorem dX6_isStep_21 : decode cX6_isStep 21 = .ok (.iload_n 1, 1) := by decide +kernel
theorem dX6_isStep_22 : decode cX6_isStep 22 = .ok (.aload_n 0, 1) := by decide +kernel
theorem dX6_isStep_23 : decode cX6_isStep 23 = .ok (.getfield 98, 3) := by decide +kernel
theorem dX6_isStep_26 : decode cX6_isStep 26 = .ok (.if_icmp .ge 27, 3) := by decide +kernel
theorem dX6_isStep_29 : decode cX6_isStep 29 = .ok (.aload_n 0, 1) := by decide +kernel
theorem dX6_isStep_30 : decode cX6_isStep 30 = .ok (.getfield 25, 3) := by decide +kernel
theorem dX6_isStep_33 : decode cX6_isStep 33 = .ok (.iload_n 1, 1) := by decide +kernel
theorem dX6_isStep_34 : decode cX6_isStep 34 = .ok (.iaload, 1) := by decide +kernel
theorem dX6_isStep_35 : decode cX6_isStep 35 = .ok (.iload_n 2, 1) := by decide +kernel
theorem dX6_isStep_36 : decode cX6_isStep 36 = .ok (.if_icmp .ne 17, 3) := by decide +kernel
theorem dX6_isStep_39 : decode cX6_isStep 39 = .ok (.aload_n 0, 1) := by decide +kernel
theorem dX6_isStep_40 : decode cX6_isStep 40 = .ok (.getfield 28, 3) := by decide +kernel
theorem dX6_isStep_43 : decode cX6_isStep 43 = .ok (.iload_n 1, 1) := by decide +kernel
theorem dX6_isStep_44 : decode cX6_isStep 44 = .ok (.iaload, 1) := by decide +kernel
theorem dX6_isStep_45 : decode cX6_isStep 45 = .ok (.iload_n 3, 1) := by decide +kernel
theorem dX6_isStep_46 : decode cX6_isStep 46 = .ok (.if_icmp .le 7, 3) := by decide +kernel
theorem dX6_isStep_49 : decode cX6_isStep 49 = .ok (.iconst 1, 1) := by decide +kernel
theorem dX6_isStep_50 : decode cX6_isStep 50 = .ok (.goto 4, 3) := by decide +kernel
theorem dX6_isStep_53 : decode cX6_isStep 53 = .ok (.iconst 0, 1) := by decide +kernel
theorem dX6_isStep_54 : decode cX6_isStep 54 = .ok (.ireturn, 1) := by decide +kernel
theorem dX6_leads_0 : decode cX6_leads 0 = .ok (.iload_n 1, 1) := by decide +kernel
theorem dX6_leads_1 : decode cX6_leads 1 = .ok (.bipush 100, 2) := by decide +kernel
theorem dX6_leads_3 : decode cX6_leads 3 = .ok (.if_icmp .ne 7, 3) := by decide +kernel
theorem dX6_leads_6 : decode cX6_leads 6 = .ok (.iload_n 2, 1) := by decide +kernel
theorem dX6_leads_7 : decode cX6_leads 7 = .ok (.goto 9, 3) := by decide +kernel
theorem dX6_leads_10 : decode cX6_leads 10 = .ok (.aload_n 0, 1) := by decide +kernel
theorem dX6_leads_11 : decode cX6_leads 11 = .ok (.getfield 31, 3) := by decide +kernel
theorem dX6_leads_14 : decode cX6_leads 14 = .ok (.iload_n 1, 1) := by decide +kernel
theorem dX6_leads_15 : decode cX6_leads 15 = .ok (.iaload, 1) := by decide +kernel
theorem dX6_leads_16 : decode cX6_leads 16 = .ok (.ireturn, 1) := by decide +kernel
theorem dX6_finds_0 : decode cX6_finds 0 = .ok (.aload_n 0, 1) := by decide +kernel
theorem dX6_finds_1 : decode cX6_finds 1 = .ok (.iconst 0, 1) := by decide +kernel
theorem dX6_finds_2 : decode cX6_finds 2 = .ok (.putfield 116, 3) := by decide +kernel
theorem dX6_finds_5 : decode cX6_finds 5 = .ok (.aload_n 0, 1) := by decide +kernel
theorem dX6_finds_6 : decode cX6_finds 6 = .ok (.iconst 0, 1) := by decide +kernel
theorem dX6_finds_7 : decode cX6_finds 7 = .ok (.putfield 120, 3) := by decide +kernel
theorem dX6_finds_10 : decode cX6_finds 10 = .ok (.aload_n 0, 1) := by decide +kernel
theorem dX6_finds_11 : decode cX6_finds 11 = .ok (.iconst 0, 1) := by decide +kernel
theorem dX6_finds_12 : decode cX6_finds 12 = .ok (.putfield 123, 3) := by decide +kernel
theorem dX6_finds_15 : decode cX6_finds 15 = .ok (.aload_n 0, 1) := by decide +kernel
theorem dX6_finds_16 : decode cX6_finds 16 = .ok (.iconst 4, 1) := by decide +kernel
theorem dX6_finds_17 : decode cX6_finds 17 = .ok (.invokevirtual 126, 3) := by decide +kernel
theorem dX6_finds_20 : decode cX6_finds 20 = .ok (.iconst (-1), 1) := by decide +kernel
theorem dX6_finds_21 : decode cX6_finds 21 = .ok (.if_icmp .eq 12, 3) := by decide +kernel
theorem dX6_finds_24 : decode cX6_finds 24 = .ok (.aload_n 0, 1) := by decide +kernel
theorem dX6_finds_25 : decode cX6_finds 25 = .ok (.iconst 0, 1) := by decide +kernel
theorem dX6_finds_26 : decode cX6_finds 26 = .ok (.invokevirtual 126, 3) := by decide +kernel
theorem dX6_finds_29 : decode cX6_finds 29 = .ok (.iconst (-1), 1) := by decide +kernel
theorem dX6_finds_30 : decode cX6_finds 30 = .ok (.if_icmp .ne 4, 3) := by decide +kernel
theorem dX6_finds_33 : decode cX6_finds 33 = .ok (.return_, 1) := by decide +kernel
theorem dX6_finds_34 : decode cX6_finds 34 = .ok (.aload_n 0, 1) := by decide +kernel
theorem dX6_finds_35 : decode cX6_finds 35 = .ok (.aload_n 0, 1) := by decide +kernel
theorem dX6_finds_36 : decode cX6_finds 36 = .ok (.iconst 4, 1) := by decide +kernel
theorem dX6_finds_37 : decode cX6_finds 37 = .ok (.invokevirtual 126, 3) := by decide +kernel
theorem dX6_finds_40 : decode cX6_finds 40 = .ok (.iconst 0, 1) := by decide +kernel
theorem dX6_finds_41 : decode cX6_finds 41 = .ok (.invokevirtual 130, 3) := by decide +kernel
theorem dX6_finds_44 : decode cX6_finds 44 = .ok (.aload_n 0, 1) := by decide +kernel
theorem dX6_finds_45 : decode cX6_finds 45 = .ok (.iconst 0, 1) := by decide +kernel
theorem dX6_finds_46 : decode cX6_finds 46 = .ok (.invokevirtual 126, 3) := by decide +kernel
theorem dX6_finds_49 : decode cX6_finds 49 = .ok (.istore_n 1, 1) := by decide +kernel
theorem dX6_finds_50 : decode cX6_finds 50 = .ok (.aload_n 0, 1) := by decide +kernel
theorem dX6_finds_51 : decode cX6_finds 51 = .ok (.iconst 1, 1) := by decide +kernel
theorem dX6_finds_52 : decode cX6_finds 52 = .ok (.invokevirtual 126, 3) := by decide +kernel
theorem dX6_finds_55 : decode cX6_finds 55 = .ok (.istore_n 2, 1) := by decide +kernel
theorem dX6_finds_56 : decode cX6_finds 56 = .ok (.aload_n 0, 1) := by decide +kernel
theorem dX6_finds_57 : decode cX6_finds 57 = .ok (.iconst 3, 1) := by decide +kernel
theorem dX6_finds_58 : decode cX6_finds 58 = .ok (.invokevirtual 126, 3) := by decide +kernel
theorem dX6_finds_61 : decode cX6_finds 61 = .ok (.istore_n 3, 1) := by decide +kernel
theorem dX6_finds_62 : decode cX6_finds 62 = .ok (.ldc2_w 108, 3) := by decide +kernel
theorem dX6_finds_65 : decode cX6_finds 65 = .ok (.lstore 4, 2) := by decide +kernel
theorem dX6_finds_67 : decode cX6_finds 67 = .ok (.iconst 0, 1) := by decide +kernel
theorem dX6_finds_68 : decode cX6_finds 68 = .ok (.istore 6, 2) := by decide +kernel
theorem dX6_finds_70 : decode cX6_finds 70 = .ok (.iconst 0, 1) := by decide +kernel
theorem dX6_finds_71 : decode cX6_finds 71 = .ok (.istore 7, 2) := by decide +kernel
theorem dX6_finds_73 : decode cX6_finds 73 = .ok (.iload 7, 2) := by decide +kernel
theorem dX6_finds_75 : decode cX6_finds 75 = .ok (.bipush 100, 2) := by decide +kernel
theorem dX6_finds_77 : decode cX6_finds 77 = .ok (.if_icmp .gt 116, 3) := by decide +kernel
theorem dX6_finds_80 : decode cX6_finds 80 = .ok (.aload_n 0, 1) := by decide +kernel
theorem dX6_finds_81 : decode cX6_finds 81 = .ok (.iload 7, 2) := by decide +kernel
theorem dX6_finds_83 : decode cX6_finds 83 = .ok (.iload_n 1, 1) := by decide +kernel
theorem dX6_finds_84 : decode cX6_finds 84 = .ok (.iload_n 2, 1) := by decide +kernel
theorem dX6_finds_85 : decode cX6_finds 85 = .ok (.invokevirtual 134, 3) := by decide +kernel
theorem dX6_finds_88 : decode cX6_finds 88 = .ok (.ifCond .eq 99, 3) := by decide +kernel
theorem dX6_finds_91 : decode cX6_finds 91 = .ok (.aload_n 0, 1) := by decide +kernel
theorem dX6_finds_92 : decode cX6_finds 92 = .ok (.getfield 69, 3) := by decide +kernel
theorem dX6_finds_95 : decode cX6_finds 95 = .ok (.aload_n 0, 1) := by decide +kernel
theorem dX6_finds_96 : decode cX6_finds 96 = .ok (.iload 7, 2) := by decide +kernel
theorem dX6_finds_98 : decode cX6_finds 98 = .ok (.iload_n 1, 1) := by decide +kernel
theorem dX6_finds_99 : decode cX6_finds 99 = .ok (.invokevirtual 138, 3) := by decide +kernel
theorem dX6_finds_102 : decode cX6_finds 102 = .ok (.laload, 1) := by decide +kernel
theorem dX6_finds_103 : decode cX6_finds 103 = .ok (.ldc2_w 108, 3) := by decide +kernel
theorem dX6_finds_106 : decode cX6_finds 106 = .ok (.lcmp, 1) := by decide +kernel
theorem dX6_finds_107 : decode cX6_finds 107 = .ok (.ifCond .lt 6, 3) := by decide +kernel
theorem dX6_finds_110 : decode cX6_finds 110 = .ok (.goto 77, 3) := by decide +kernel
theorem dX6_finds_113 : decode cX6_finds 113 = .ok (.aload_n 0, 1) := by decide +kernel
theorem dX6_finds_114 : decode cX6_finds 114 = .ok (.iload 7, 2) := by decide +kernel
theorem dX6_finds_116 : decode cX6_finds 116 = .ok (.iload_n 1, 1) := by decide +kernel
theorem dX6_finds_117 : decode cX6_finds 117 = .ok (.iload_n 2, 1) := by decide +kernel
theorem dX6_finds_118 : decode cX6_finds 118 = .ok (.iload_n 3, 1) := by decide +kernel
theorem dX6_finds_119 : decode cX6_finds 119 = .ok (.invokevirtual 142, 3) := by decide +kernel
theorem dX6_finds_122 : decode cX6_finds 122 = .ok (.aload_n 0, 1) := by decide +kernel
theorem dX6_finds_123 : decode cX6_finds 123 = .ok (.getfield 69, 3) := by decide +kernel
theorem dX6_finds_126 : decode cX6_finds 126 = .ok (.aload_n 0, 1) := by decide +kernel
theorem dX6_finds_127 : decode cX6_finds 127 = .ok (.iload 7, 2) := by decide +kernel
theorem dX6_finds_129 : decode cX6_finds 129 = .ok (.iload_n 1, 1) := by decide +kernel
theorem dX6_finds_130 : decode cX6_finds 130 = .ok (.invokevirtual 138, 3) := by decide +kernel
theorem dX6_finds_133 : decode cX6_finds 133 = .ok (.laload, 1) := by decide +kernel
theorem dX6_finds_134 : decode cX6_finds 134 = .ok (.ladd, 1) := by decide +kernel
theorem dX6_finds_135 : decode cX6_finds 135 = .ok (.lstore 8, 2) := by decide +kernel
theorem dX6_finds_137 : decode cX6_finds 137 = .ok (.aload_n 0, 1) := by decide +kernel
theorem dX6_finds_138 : decode cX6_finds 138 = .ok (.getfield 72, 3) := by decide +kernel
theorem dX6_finds_141 : decode cX6_finds 141 = .ok (.aload_n 0, 1) := by decide +kernel
theorem dX6_finds_142 : decode cX6_finds 142 = .ok (.iload 7, 2) := by decide +kernel
theorem dX6_finds_144 : decode cX6_finds 144 = .ok (.iload_n 1, 1) := by decide +kernel
theorem dX6_finds_145 : decode cX6_finds 145 = .ok (.invokevirtual 138, 3) := by decide +kernel
theorem dX6_finds_148 : decode cX6_finds 148 = .ok (.iaload, 1) := by decide +kernel
theorem dX6_finds_149 : decode cX6_finds 149 = .ok (.iconst 1, 1) := by decide +kernel
theorem dX6_finds_150 : decode cX6_finds 150 = .ok (.iadd, 1) := by decide +kernel
theorem dX6_finds_151 : decode cX6_finds 151 = .ok (.istore 10, 2) := by decide +kernel
theorem dX6_finds_153 : decode cX6_finds 153 = .ok (.lload 8, 2) := by decide +kernel
theorem dX6_finds_155 : decode cX6_finds 155 = .ok (.lload 4, 2) := by decide +kernel
theorem dX6_finds_157 : decode cX6_finds 157 = .ok (.lcmp, 1) := by decide +kernel
theorem dX6_finds_158 : decode cX6_finds 158 = .ok (.ifCond .gt 29, 3) := by decide +kernel
theorem dX6_finds_161 : decode cX6_finds 161 = .ok (.lload 8, 2) := by decide +kernel
theorem dX6_finds_163 : decode cX6_finds 163 = .ok (.lload 4, 2) := by decide +kernel
theorem dX6_finds_165 : decode cX6_finds 165 = .ok (.lcmp, 1) := by decide +kernel
theorem dX6_finds_166 : decode cX6_finds 166 = .ok (.ifCond .ne 13, 3) := by decide +kernel
theorem dX6_finds_169 : decode cX6_finds 169 = .ok (.iload 10, 2) := by decide +kernel
theorem dX6_finds_171 : decode cX6_finds 171 = .ok (.iload 6, 2) := by decide +kernel
theorem dX6_finds_173 : decode cX6_finds 173 = .ok (.if_icmp .lt 6, 3) := by decide +kernel
theorem dX6_finds_176 : decode cX6_finds 176 = .ok (.goto 11, 3) := by decide +kernel
theorem dX6_finds_179 : decode cX6_finds 179 = .ok (.lload 8, 2) := by decide +kernel
theorem dX6_finds_181 : decode cX6_finds 181 = .ok (.lstore 4, 2) := by decide +kernel
theorem dX6_finds_183 : decode cX6_finds 183 = .ok (.iload 10, 2) := by decide +kernel
theorem dX6_finds_185 : decode cX6_finds 185 = .ok (.istore 6, 2) := by decide +kernel
theorem dX6_finds_187 : decode cX6_finds 187 = .ok (.iinc 7 1, 3) := by decide +kernel
theorem dX6_finds_190 : decode cX6_finds 190 = .ok (.goto (-117), 3) := by decide +kernel
theorem dX6_finds_193 : decode cX6_finds 193 = .ok (.lload 4, 2) := by decide +kernel
theorem dX6_finds_195 : decode cX6_finds 195 = .ok (.ldc2_w 108, 3) := by decide +kernel
theorem dX6_finds_198 : decode cX6_finds 198 = .ok (.lcmp, 1) := by decide +kernel
theorem dX6_finds_199 : decode cX6_finds 199 = .ok (.ifCond .lt 4, 3) := by decide +kernel
theorem dX6_finds_202 : decode cX6_finds 202 = .ok (.return_, 1) := by decide +kernel
theorem dX6_finds_203 : decode cX6_finds 203 = .ok (.aload_n 0, 1) := by decide +kernel
theorem dX6_finds_204 : decode cX6_finds 204 = .ok (.iconst 1, 1) := by decide +kernel
theorem dX6_finds_205 : decode cX6_finds 205 = .ok (.putfield 116, 3) := by decide +kernel
theorem dX6_finds_208 : decode cX6_finds 208 = .ok (.iload 6, 2) := by decide +kernel
theorem dX6_finds_210 : decode cX6_finds 210 = .ok (.ifCond .le 141, 3) := by decide +kernel
theorem dX6_finds_213 : decode cX6_finds 213 = .ok (.iconst 0, 1) := by decide +kernel
theorem dX6_finds_214 : decode cX6_finds 214 = .ok (.istore 7, 2) := by decide +kernel
theorem dX6_finds_216 : decode cX6_finds 216 = .ok (.aload_n 0, 1) := by decide +kernel
theorem dX6_finds_217 : decode cX6_finds 217 = .ok (.iload 7, 2) := by decide +kernel
theorem dX6_finds_219 : decode cX6_finds 219 = .ok (.iload_n 1, 1) := by decide +kernel
theorem dX6_finds_220 : decode cX6_finds 220 = .ok (.iload_n 2, 1) := by decide +kernel
theorem dX6_finds_221 : decode cX6_finds 221 = .ok (.invokevirtual 134, 3) := by decide +kernel
theorem dX6_finds_224 : decode cX6_finds 224 = .ok (.ifCond .eq 69, 3) := by decide +kernel
theorem dX6_finds_227 : decode cX6_finds 227 = .ok (.aload_n 0, 1) := by decide +kernel
theorem dX6_finds_228 : decode cX6_finds 228 = .ok (.getfield 69, 3) := by decide +kernel
theorem dX6_finds_231 : decode cX6_finds 231 = .ok (.aload_n 0, 1) := by decide +kernel
theorem dX6_finds_232 : decode cX6_finds 232 = .ok (.iload 7, 2) := by decide +kernel
theorem dX6_finds_234 : decode cX6_finds 234 = .ok (.iload_n 1, 1) := by decide +kernel
theorem dX6_finds_235 : decode cX6_finds 235 = .ok (.invokevirtual 138, 3) := by decide +kernel
theorem dX6_finds_238 : decode cX6_finds 238 = .ok (.laload, 1) := by decide +kernel
theorem dX6_finds_239 : decode cX6_finds 239 = .ok (.ldc2_w 108, 3) := by decide +kernel
theorem dX6_finds_242 : decode cX6_finds 242 = .ok (.lcmp, 1) := by decide +kernel
theorem dX6_finds_243 : decode cX6_finds 243 = .ok (.ifCond .ge 50, 3) := by decide +kernel
theorem dX6_finds_246 : decode cX6_finds 246 = .ok (.aload_n 0, 1) := by decide +kernel
theorem dX6_finds_247 : decode cX6_finds 247 = .ok (.getfield 72, 3) := by decide +kernel
theorem dX6_finds_250 : decode cX6_finds 250 = .ok (.aload_n 0, 1) := by decide +kernel
theorem dX6_finds_251 : decode cX6_finds 251 = .ok (.iload 7, 2) := by decide +kernel
theorem dX6_finds_253 : decode cX6_finds 253 = .ok (.iload_n 1, 1) := by decide +kernel
theorem dX6_finds_254 : decode cX6_finds 254 = .ok (.invokevirtual 138, 3) := by decide +kernel
theorem dX6_finds_257 : decode cX6_finds 257 = .ok (.iaload, 1) := by decide +kernel
theorem dX6_finds_258 : decode cX6_finds 258 = .ok (.iconst 1, 1) := by decide +kernel
theorem dX6_finds_259 : decode cX6_finds 259 = .ok (.iadd, 1) := by decide +kernel
theorem dX6_finds_260 : decode cX6_finds 260 = .ok (.iload 6, 2) := by decide +kernel
theorem dX6_finds_262 : decode cX6_finds 262 = .ok (.if_icmp .ne 31, 3) := by decide +kernel
theorem dX6_finds_265 : decode cX6_finds 265 = .ok (.aload_n 0, 1) := by decide +kernel
theorem dX6_finds_266 : decode cX6_finds 266 = .ok (.iload 7, 2) := by decide +kernel
theorem dX6_finds_268 : decode cX6_finds 268 = .ok (.iload_n 1, 1) := by decide +kernel
theorem dX6_finds_269 : decode cX6_finds 269 = .ok (.iload_n 2, 1) := by decide +kernel
theorem dX6_finds_270 : decode cX6_finds 270 = .ok (.iload_n 3, 1) := by decide +kernel
theorem dX6_finds_271 : decode cX6_finds 271 = .ok (.invokevirtual 142, 3) := by decide +kernel
theorem dX6_finds_274 : decode cX6_finds 274 = .ok (.aload_n 0, 1) := by decide +kernel
theorem dX6_finds_275 : decode cX6_finds 275 = .ok (.getfield 69, 3) := by decide +kernel
theorem dX6_finds_278 : decode cX6_finds 278 = .ok (.aload_n 0, 1) := by decide +kernel
theorem dX6_finds_279 : decode cX6_finds 279 = .ok (.iload 7, 2) := by decide +kernel
theorem dX6_finds_281 : decode cX6_finds 281 = .ok (.iload_n 1, 1) := by decide +kernel
theorem dX6_finds_282 : decode cX6_finds 282 = .ok (.invokevirtual 138, 3) := by decide +kernel
theorem dX6_finds_285 : decode cX6_finds 285 = .ok (.laload, 1) := by decide +kernel
theorem dX6_finds_286 : decode cX6_finds 286 = .ok (.ladd, 1) := by decide +kernel
theorem dX6_finds_287 : decode cX6_finds 287 = .ok (.lload 4, 2) := by decide +kernel
theorem dX6_finds_289 : decode cX6_finds 289 = .ok (.lcmp, 1) := by decide +kernel
theorem dX6_finds_290 : decode cX6_finds 290 = .ok (.ifCond .eq 9, 3) := by decide +kernel
theorem dX6_finds_293 : decode cX6_finds 293 = .ok (.iinc 7 1, 3) := by decide +kernel
theorem dX6_finds_296 : decode cX6_finds 296 = .ok (.goto (-80), 3) := by decide +kernel
theorem dX6_finds_299 : decode cX6_finds 299 = .ok (.aload_n 0, 1) := by decide +kernel
theorem dX6_finds_300 : decode cX6_finds 300 = .ok (.getfield 57, 3) := by decide +kernel
theorem dX6_finds_303 : decode cX6_finds 303 = .ok (.aload_n 0, 1) := by decide +kernel
theorem dX6_finds_304 : decode cX6_finds 304 = .ok (.getfield 120, 3) := by decide +kernel
theorem dX6_finds_307 : decode cX6_finds 307 = .ok (.iload 7, 2) := by decide +kernel
theorem dX6_finds_309 : decode cX6_finds 309 = .ok (.iastore, 1) := by decide +kernel
theorem dX6_finds_310 : decode cX6_finds 310 = .ok (.aload_n 0, 1) := by decide +kernel
theorem dX6_finds_311 : decode cX6_finds 311 = .ok (.dup, 1) := by decide +kernel
theorem dX6_finds_312 : decode cX6_finds 312 = .ok (.getfield 120, 3) := by decide +kernel
theorem dX6_finds_315 : decode cX6_finds 315 = .ok (.iconst 1, 1) := by decide +kernel
theorem dX6_finds_316 : decode cX6_finds 316 = .ok (.iadd, 1) := by decide +kernel
theorem dX6_finds_317 : decode cX6_finds 317 = .ok (.putfield 120, 3) := by decide +kernel
theorem dX6_finds_320 : decode cX6_finds 320 = .ok (.aload_n 0, 1) := by decide +kernel
theorem dX6_finds_321 : decode cX6_finds 321 = .ok (.iload 7, 2) := by decide +kernel
theorem dX6_finds_323 : decode cX6_finds 323 = .ok (.iload_n 1, 1) := by decide +kernel
theorem dX6_finds_324 : decode cX6_finds 324 = .ok (.invokevirtual 138, 3) := by decide +kernel
theorem dX6_finds_327 : decode cX6_finds 327 = .ok (.istore_n 1, 1) := by decide +kernel
theorem dX6_finds_328 : decode cX6_finds 328 = .ok (.aload_n 0, 1) := by decide +kernel
theorem dX6_finds_329 : decode cX6_finds 329 = .ok (.getfield 69, 3) := by decide +kernel
theorem dX6_finds_332 : decode cX6_finds 332 = .ok (.iload_n 1, 1) := by decide +kernel
theorem dX6_finds_333 : decode cX6_finds 333 = .ok (.laload, 1) := by decide +kernel
theorem dX6_finds_334 : decode cX6_finds 334 = .ok (.lstore 4, 2) := by decide +kernel
theorem dX6_finds_336 : decode cX6_finds 336 = .ok (.aload_n 0, 1) := by decide +kernel
theorem dX6_finds_337 : decode cX6_finds 337 = .ok (.getfield 72, 3) := by decide +kernel
theorem dX6_finds_340 : decode cX6_finds 340 = .ok (.iload_n 1, 1) := by decide +kernel
theorem dX6_finds_341 : decode cX6_finds 341 = .ok (.iaload, 1) := by decide +kernel
theorem dX6_finds_342 : decode cX6_finds 342 = .ok (.istore 6, 2) := by decide +kernel
theorem dX6_finds_344 : decode cX6_finds 344 = .ok (.iconst 0, 1) := by decide +kernel
theorem dX6_finds_345 : decode cX6_finds 345 = .ok (.istore_n 2, 1) := by decide +kernel
theorem dX6_finds_346 : decode cX6_finds 346 = .ok (.iconst 0, 1) := by decide +kernel
theorem dX6_finds_347 : decode cX6_finds 347 = .ok (.istore_n 3, 1) := by decide +kernel
theorem dX6_finds_348 : decode cX6_finds 348 = .ok (.goto (-140), 3) := by decide +kernel
theorem dX6_finds_351 : decode cX6_finds 351 = .ok (.return_, 1) := by decide +kernel
theorem dX6_ask_0 : decode cX6_ask 0 = .ok (.aload_n 0, 1) := by decide +kernel
theorem dX6_ask_1 : decode cX6_ask 1 = .ok (.iconst 0, 1) := by decide +kernel
theorem dX6_ask_2 : decode cX6_ask 2 = .ok (.putfield 80, 3) := by decide +kernel
theorem dX6_ask_5 : decode cX6_ask 5 = .ok (.aload_n 0, 1) := by decide +kernel
theorem dX6_ask_6 : decode cX6_ask 6 = .ok (.iload_n 1, 1) := by decide +kernel
theorem dX6_ask_7 : decode cX6_ask 7 = .ok (.ifCond .lt 13, 3) := by decide +kernel
theorem dX6_ask_10 : decode cX6_ask 10 = .ok (.iload_n 1, 1) := by decide +kernel
theorem dX6_ask_11 : decode cX6_ask 11 = .ok (.bipush 7, 2) := by decide +kernel
theorem dX6_ask_13 : decode cX6_ask 13 = .ok (.if_icmp .gt 7, 3) := by decide +kernel
theorem dX6_ask_16 : decode cX6_ask 16 = .ok (.iconst 1, 1) := by decide +kernel
theorem dX6_ask_17 : decode cX6_ask 17 = .ok (.goto 4, 3) := by decide +kernel
theorem dX6_ask_20 : decode cX6_ask 20 = .ok (.iconst 0, 1) := by decide +kernel
theorem dX6_ask_21 : decode cX6_ask 21 = .ok (.iconst 1, 1) := by decide +kernel
theorem dX6_ask_22 : decode cX6_ask 22 = .ok (.invokevirtual 87, 3) := by decide +kernel
theorem dX6_ask_25 : decode cX6_ask 25 = .ok (.ifCond .ne 5, 3) := by decide +kernel
theorem dX6_ask_28 : decode cX6_ask 28 = .ok (.iconst 0, 1) := by decide +kernel
theorem dX6_ask_29 : decode cX6_ask 29 = .ok (.ireturn, 1) := by decide +kernel
theorem dX6_ask_30 : decode cX6_ask 30 = .ok (.aload_n 0, 1) := by decide +kernel
theorem dX6_ask_31 : decode cX6_ask 31 = .ok (.getfield 40, 3) := by decide +kernel
theorem dX6_ask_34 : decode cX6_ask 34 = .ok (.iconst 4, 1) := by decide +kernel
theorem dX6_ask_35 : decode cX6_ask 35 = .ok (.iload_n 1, 1) := by decide +kernel
theorem dX6_ask_36 : decode cX6_ask 36 = .ok (.i2l, 1) := by decide +kernel
theorem dX6_ask_37 : decode cX6_ask 37 = .ok (.lastore, 1) := by decide +kernel
theorem dX6_ask_38 : decode cX6_ask 38 = .ok (.aload_n 0, 1) := by decide +kernel
theorem dX6_ask_39 : decode cX6_ask 39 = .ok (.iconst 0, 1) := by decide +kernel
theorem dX6_ask_40 : decode cX6_ask 40 = .ok (.invokevirtual 126, 3) := by decide +kernel
theorem dX6_ask_43 : decode cX6_ask 43 = .ok (.iconst (-1), 1) := by decide +kernel
theorem dX6_ask_44 : decode cX6_ask 44 = .ok (.if_icmp .eq 22, 3) := by decide +kernel
theorem dX6_ask_47 : decode cX6_ask 47 = .ok (.aload_n 0, 1) := by decide +kernel
theorem dX6_ask_48 : decode cX6_ask 48 = .ok (.aload_n 0, 1) := by decide +kernel
theorem dX6_ask_49 : decode cX6_ask 49 = .ok (.iconst 0, 1) := by decide +kernel
theorem dX6_ask_50 : decode cX6_ask 50 = .ok (.invokevirtual 126, 3) := by decide +kernel
theorem dX6_ask_53 : decode cX6_ask 53 = .ok (.iload_n 1, 1) := by decide +kernel
theorem dX6_ask_54 : decode cX6_ask 54 = .ok (.invokevirtual 104, 3) := by decide +kernel
theorem dX6_ask_57 : decode cX6_ask 57 = .ok (.ifCond .eq 9, 3) := by decide +kernel
theorem dX6_ask_60 : decode cX6_ask 60 = .ok (.aload_n 0, 1) := by decide +kernel
theorem dX6_ask_61 : decode cX6_ask 61 = .ok (.invokevirtual 145, 3) := by decide +kernel
theorem dX6_ask_64 : decode cX6_ask 64 = .ok (.iconst 0, 1) := by decide +kernel
theorem dX6_ask_65 : decode cX6_ask 65 = .ok (.ireturn, 1) := by decide +kernel
theorem dX6_ask_66 : decode cX6_ask 66 = .ok (.aload_n 0, 1) := by decide +kernel
theorem dX6_ask_67 : decode cX6_ask 67 = .ok (.invokevirtual 91, 3) := by decide +kernel
theorem dX6_ask_70 : decode cX6_ask 70 = .ok (.aload_n 0, 1) := by decide +kernel
theorem dX6_ask_71 : decode cX6_ask 71 = .ok (.getfield 116, 3) := by decide +kernel
theorem dX6_ask_74 : decode cX6_ask 74 = .ok (.ifCond .eq 10, 3) := by decide +kernel
theorem dX6_ask_77 : decode cX6_ask 77 = .ok (.aload_n 0, 1) := by decide +kernel
theorem dX6_ask_78 : decode cX6_ask 78 = .ok (.getfield 120, 3) := by decide +kernel
theorem dX6_ask_81 : decode cX6_ask 81 = .ok (.goto 4, 3) := by decide +kernel
theorem dX6_ask_84 : decode cX6_ask 84 = .ok (.iconst (-1), 1) := by decide +kernel
theorem dX6_ask_85 : decode cX6_ask 85 = .ok (.ireturn, 1) := by decide +kernel
theorem dX6_leave_0 : decode cX6_leave 0 = .ok (.aload_n 0, 1) := by decide +kernel
theorem dX6_leave_1 : decode cX6_leave 1 = .ok (.iconst 0, 1) := by decide +kernel
theorem dX6_leave_2 : decode cX6_leave 2 = .ok (.putfield 80, 3) := by decide +kernel
theorem dX6_leave_5 : decode cX6_leave 5 = .ok (.aload_n 0, 1) := by decide +kernel
theorem dX6_leave_6 : decode cX6_leave 6 = .ok (.iconst 4, 1) := by decide +kernel
theorem dX6_leave_7 : decode cX6_leave 7 = .ok (.invokevirtual 126, 3) := by decide +kernel
theorem dX6_leave_10 : decode cX6_leave 10 = .ok (.istore_n 1, 1) := by decide +kernel
theorem dX6_leave_11 : decode cX6_leave 11 = .ok (.aload_n 0, 1) := by decide +kernel
theorem dX6_leave_12 : decode cX6_leave 12 = .ok (.getfield 40, 3) := by decide +kernel
theorem dX6_leave_15 : decode cX6_leave 15 = .ok (.iconst 4, 1) := by decide +kernel
theorem dX6_leave_16 : decode cX6_leave 16 = .ok (.ldc2_w 78, 3) := by decide +kernel
theorem dX6_leave_19 : decode cX6_leave 19 = .ok (.lastore, 1) := by decide +kernel
theorem dX6_leave_20 : decode cX6_leave 20 = .ok (.aload_n 0, 1) := by decide +kernel
theorem dX6_leave_21 : decode cX6_leave 21 = .ok (.invokevirtual 91, 3) := by decide +kernel
theorem dX6_leave_24 : decode cX6_leave 24 = .ok (.iload_n 1, 1) := by decide +kernel
theorem dX6_leave_25 : decode cX6_leave 25 = .ok (.ireturn, 1) := by decide +kernel
theorem dX6_way_0 : decode cX6_way 0 = .ok (.aload_n 0, 1) := by decide +kernel
theorem dX6_way_1 : decode cX6_way 1 = .ok (.iconst 0, 1) := by decide +kernel
theorem dX6_way_2 : decode cX6_way 2 = .ok (.putfield 80, 3) := by decide +kernel
theorem dX6_way_5 : decode cX6_way 5 = .ok (.aload_n 0, 1) := by decide +kernel
theorem dX6_way_6 : decode cX6_way 6 = .ok (.getfield 116, 3) := by decide +kernel
theorem dX6_way_9 : decode cX6_way 9 = .ok (.ifCond .eq 15, 3) := by decide +kernel
theorem dX6_way_12 : decode cX6_way 12 = .ok (.aload_n 0, 1) := by decide +kernel
theorem dX6_way_13 : decode cX6_way 13 = .ok (.getfield 120, 3) := by decide +kernel
theorem dX6_way_16 : decode cX6_way 16 = .ok (.aload_n 0, 1) := by decide +kernel
theorem dX6_way_17 : decode cX6_way 17 = .ok (.getfield 123, 3) := by decide +kernel
theorem dX6_way_20 : decode cX6_way 20 = .ok (.isub, 1) := by decide +kernel
theorem dX6_way_21 : decode cX6_way 21 = .ok (.goto 4, 3) := by decide +kernel
theorem dX6_way_24 : decode cX6_way 24 = .ok (.iconst 0, 1) := by decide +kernel
theorem dX6_way_25 : decode cX6_way 25 = .ok (.istore_n 2, 1) := by decide +kernel
theorem dX6_way_26 : decode cX6_way 26 = .ok (.aload_n 0, 1) := by decide +kernel
theorem dX6_way_27 : decode cX6_way 27 = .ok (.iload_n 1, 1) := by decide +kernel
theorem dX6_way_28 : decode cX6_way 28 = .ok (.iconst (-1), 1) := by decide +kernel
theorem dX6_way_29 : decode cX6_way 29 = .ok (.if_icmp .eq 12, 3) := by decide +kernel
theorem dX6_way_32 : decode cX6_way 32 = .ok (.iload_n 1, 1) := by decide +kernel
theorem dX6_way_33 : decode cX6_way 33 = .ok (.ifCond .lt 12, 3) := by decide +kernel
theorem dX6_way_36 : decode cX6_way 36 = .ok (.iload_n 1, 1) := by decide +kernel
theorem dX6_way_37 : decode cX6_way 37 = .ok (.iload_n 2, 1) := by decide +kernel
theorem dX6_way_38 : decode cX6_way 38 = .ok (.if_icmp .ge 7, 3) := by decide +kernel
theorem dX6_way_41 : decode cX6_way 41 = .ok (.iconst 1, 1) := by decide +kernel
theorem dX6_way_42 : decode cX6_way 42 = .ok (.goto 4, 3) := by decide +kernel
theorem dX6_way_45 : decode cX6_way 45 = .ok (.iconst 0, 1) := by decide +kernel
theorem dX6_way_46 : decode cX6_way 46 = .ok (.iconst 1, 1) := by decide +kernel
theorem dX6_way_47 : decode cX6_way 47 = .ok (.invokevirtual 87, 3) := by decide +kernel
theorem dX6_way_50 : decode cX6_way 50 = .ok (.ifCond .ne 5, 3) := by decide +kernel
theorem dX6_way_53 : decode cX6_way 53 = .ok (.iconst 0, 1) := by decide +kernel
theorem dX6_way_54 : decode cX6_way 54 = .ok (.ireturn, 1) := by decide +kernel
theorem dX6_way_55 : decode cX6_way 55 = .ok (.iload_n 1, 1) := by decide +kernel
theorem dX6_way_56 : decode cX6_way 56 = .ok (.iconst (-1), 1) := by decide +kernel
theorem dX6_way_57 : decode cX6_way 57 = .ok (.if_icmp .ne 16, 3) := by decide +kernel
theorem dX6_way_60 : decode cX6_way 60 = .ok (.aload_n 0, 1) := by decide +kernel
theorem dX6_way_61 : decode cX6_way 61 = .ok (.getfield 116, 3) := by decide +kernel
theorem dX6_way_64 : decode cX6_way 64 = .ok (.ifCond .eq 7, 3) := by decide +kernel
theorem dX6_way_67 : decode cX6_way 67 = .ok (.iload_n 2, 1) := by decide +kernel
theorem dX6_way_68 : decode cX6_way 68 = .ok (.goto 4, 3) := by decide +kernel
theorem dX6_way_71 : decode cX6_way 71 = .ok (.iconst (-1), 1) := by decide +kernel
theorem dX6_way_72 : decode cX6_way 72 = .ok (.ireturn, 1) := by decide +kernel
theorem dX6_way_73 : decode cX6_way 73 = .ok (.aload_n 0, 1) := by decide +kernel
theorem dX6_way_74 : decode cX6_way 74 = .ok (.getfield 57, 3) := by decide +kernel
theorem dX6_way_77 : decode cX6_way 77 = .ok (.aload_n 0, 1) := by decide +kernel
theorem dX6_way_78 : decode cX6_way 78 = .ok (.getfield 123, 3) := by decide +kernel
theorem dX6_way_81 : decode cX6_way 81 = .ok (.iload_n 1, 1) := by decide +kernel
theorem dX6_way_82 : decode cX6_way 82 = .ok (.iadd, 1) := by decide +kernel
theorem dX6_way_83 : decode cX6_way 83 = .ok (.iaload, 1) := by decide +kernel
theorem dX6_way_84 : decode cX6_way 84 = .ok (.ireturn, 1) := by decide +kernel
theorem dX6_cost_0 : decode cX6_cost 0 = .ok (.aload_n 0, 1) := by decide +kernel
theorem dX6_cost_1 : decode cX6_cost 1 = .ok (.iconst 0, 1) := by decide +kernel
theorem dX6_cost_2 : decode cX6_cost 2 = .ok (.putfield 80, 3) := by decide +kernel
theorem dX6_cost_5 : decode cX6_cost 5 = .ok (.aload_n 0, 1) := by decide +kernel
theorem dX6_cost_6 : decode cX6_cost 6 = .ok (.getfield 116, 3) := by decide +kernel
theorem dX6_cost_9 : decode cX6_cost 9 = .ok (.ifCond .ne 7, 3) := by decide +kernel
theorem dX6_cost_12 : decode cX6_cost 12 = .ok (.ldc2_w 78, 3) := by decide +kernel
theorem dX6_cost_15 : decode cX6_cost 15 = .ok (.lreturn, 1) := by decide +kernel
theorem dX6_cost_16 : decode cX6_cost 16 = .ok (.lconst 0, 1) := by decide +kernel
theorem dX6_cost_17 : decode cX6_cost 17 = .ok (.lstore_n 1, 1) := by decide +kernel
theorem dX6_cost_18 : decode cX6_cost 18 = .ok (.aload_n 0, 1) := by decide +kernel
theorem dX6_cost_19 : decode cX6_cost 19 = .ok (.iconst 0, 1) := by decide +kernel
theorem dX6_cost_20 : decode cX6_cost 20 = .ok (.invokevirtual 126, 3) := by decide +kernel
theorem dX6_cost_23 : decode cX6_cost 23 = .ok (.istore_n 3, 1) := by decide +kernel
theorem dX6_cost_24 : decode cX6_cost 24 = .ok (.aload_n 0, 1) := by decide +kernel
theorem dX6_cost_25 : decode cX6_cost 25 = .ok (.iconst 1, 1) := by decide +kernel
theorem dX6_cost_26 : decode cX6_cost 26 = .ok (.invokevirtual 126, 3) := by decide +kernel
theorem dX6_cost_29 : decode cX6_cost 29 = .ok (.istore 4, 2) := by decide +kernel
theorem dX6_cost_31 : decode cX6_cost 31 = .ok (.aload_n 0, 1) := by decide +kernel
theorem dX6_cost_32 : decode cX6_cost 32 = .ok (.iconst 3, 1) := by decide +kernel
theorem dX6_cost_33 : decode cX6_cost 33 = .ok (.invokevirtual 126, 3) := by decide +kernel
theorem dX6_cost_36 : decode cX6_cost 36 = .ok (.istore 5, 2) := by decide +kernel
theorem dX6_cost_38 : decode cX6_cost 38 = .ok (.aload_n 0, 1) := by decide +kernel
theorem dX6_cost_39 : decode cX6_cost 39 = .ok (.getfield 123, 3) := by decide +kernel
theorem dX6_cost_42 : decode cX6_cost 42 = .ok (.istore 6, 2) := by decide +kernel
theorem dX6_cost_44 : decode cX6_cost 44 = .ok (.iload 6, 2) := by decide +kernel
theorem dX6_cost_46 : decode cX6_cost 46 = .ok (.aload_n 0, 1) := by decide +kernel
theorem dX6_cost_47 : decode cX6_cost 47 = .ok (.getfield 120, 3) := by decide +kernel
theorem dX6_cost_50 : decode cX6_cost 50 = .ok (.if_icmp .ge 47, 3) := by decide +kernel
theorem dX6_cost_53 : decode cX6_cost 53 = .ok (.lload_n 1, 1) := by decide +kernel
theorem dX6_cost_54 : decode cX6_cost 54 = .ok (.aload_n 0, 1) := by decide +kernel
theorem dX6_cost_55 : decode cX6_cost 55 = .ok (.aload_n 0, 1) := by decide +kernel
theorem dX6_cost_56 : decode cX6_cost 56 = .ok (.getfield 57, 3) := by decide +kernel
theorem dX6_cost_59 : decode cX6_cost 59 = .ok (.iload 6, 2) := by decide +kernel
theorem dX6_cost_61 : decode cX6_cost 61 = .ok (.iaload, 1) := by decide +kernel
theorem dX6_cost_62 : decode cX6_cost 62 = .ok (.iload_n 3, 1) := by decide +kernel
theorem dX6_cost_63 : decode cX6_cost 63 = .ok (.iload 4, 2) := by decide +kernel
theorem dX6_cost_65 : decode cX6_cost 65 = .ok (.iload 5, 2) := by decide +kernel
theorem dX6_cost_67 : decode cX6_cost 67 = .ok (.invokevirtual 142, 3) := by decide +kernel
theorem dX6_cost_70 : decode cX6_cost 70 = .ok (.ladd, 1) := by decide +kernel
theorem dX6_cost_71 : decode cX6_cost 71 = .ok (.lstore_n 1, 1) := by decide +kernel
theorem dX6_cost_72 : decode cX6_cost 72 = .ok (.aload_n 0, 1) := by decide +kernel
theorem dX6_cost_73 : decode cX6_cost 73 = .ok (.aload_n 0, 1) := by decide +kernel
theorem dX6_cost_74 : decode cX6_cost 74 = .ok (.getfield 57, 3) := by decide +kernel
theorem dX6_cost_77 : decode cX6_cost 77 = .ok (.iload 6, 2) := by decide +kernel
theorem dX6_cost_79 : decode cX6_cost 79 = .ok (.iaload, 1) := by decide +kernel
theorem dX6_cost_80 : decode cX6_cost 80 = .ok (.iload_n 3, 1) := by decide +kernel
theorem dX6_cost_81 : decode cX6_cost 81 = .ok (.invokevirtual 138, 3) := by decide +kernel
theorem dX6_cost_84 : decode cX6_cost 84 = .ok (.istore_n 3, 1) := by decide +kernel
theorem dX6_cost_85 : decode cX6_cost 85 = .ok (.iconst 0, 1) := by decide +kernel
theorem dX6_cost_86 : decode cX6_cost 86 = .ok (.istore 4, 2) := by decide +kernel
theorem dX6_cost_88 : decode cX6_cost 88 = .ok (.iconst 0, 1) := by decide +kernel
theorem dX6_cost_89 : decode cX6_cost 89 = .ok (.istore 5, 2) := by decide +kernel
theorem dX6_cost_91 : decode cX6_cost 91 = .ok (.iinc 6 1, 3) := by decide +kernel
theorem dX6_cost_94 : decode cX6_cost 94 = .ok (.goto (-50), 3) := by decide +kernel
theorem dX6_cost_97 : decode cX6_cost 97 = .ok (.lload_n 1, 1) := by decide +kernel
theorem dX6_cost_98 : decode cX6_cost 98 = .ok (.lreturn, 1) := by decide +kernel
theorem dX6_isAsked_0 : decode cX6_isAsked 0 = .ok (.aload_n 0, 1) := by decide +kernel
theorem dX6_isAsked_1 : decode cX6_isAsked 1 = .ok (.iconst 0, 1) := by decide +kernel
theorem dX6_isAsked_2 : decode cX6_isAsked 2 = .ok (.putfield 80, 3) := by decide +kernel
theorem dX6_isAsked_5 : decode cX6_isAsked 5 = .ok (.aload_n 0, 1) := by decide +kernel
theorem dX6_isAsked_6 : decode cX6_isAsked 6 = .ok (.iload_n 1, 1) := by decide +kernel
theorem dX6_isAsked_7 : decode cX6_isAsked 7 = .ok (.invokevirtual 94, 3) := by decide +kernel
theorem dX6_isAsked_10 : decode cX6_isAsked 10 = .ok (.ifCond .eq 43, 3) := by decide +kernel
theorem dX6_isAsked_13 : decode cX6_isAsked 13 = .ok (.aload_n 0, 1) := by decide +kernel
theorem dX6_isAsked_14 : decode cX6_isAsked 14 = .ok (.aload_n 0, 1) := by decide +kernel
theorem dX6_isAsked_15 : decode cX6_isAsked 15 = .ok (.iload_n 1, 1) := by decide +kernel
theorem dX6_isAsked_16 : decode cX6_isAsked 16 = .ok (.invokevirtual 101, 3) := by decide +kernel
theorem dX6_isAsked_19 : decode cX6_isAsked 19 = .ok (.iconst 1, 1) := by decide +kernel
theorem dX6_isAsked_20 : decode cX6_isAsked 20 = .ok (.invokevirtual 87, 3) := by decide +kernel
theorem dX6_isAsked_23 : decode cX6_isAsked 23 = .ok (.ifCond .eq 30, 3) := by decide +kernel
theorem dX6_isAsked_26 : decode cX6_isAsked 26 = .ok (.aload_n 0, 1) := by decide +kernel
theorem dX6_isAsked_27 : decode cX6_isAsked 27 = .ok (.iload_n 2, 1) := by decide +kernel
theorem dX6_isAsked_28 : decode cX6_isAsked 28 = .ok (.ifCond .lt 13, 3) := by decide +kernel
theorem dX6_isAsked_31 : decode cX6_isAsked 31 = .ok (.iload_n 2, 1) := by decide +kernel
theorem dX6_isAsked_32 : decode cX6_isAsked 32 = .ok (.bipush 7, 2) := by decide +kernel
theorem dX6_isAsked_34 : decode cX6_isAsked 34 = .ok (.if_icmp .gt 7, 3) := by decide +kernel
theorem dX6_isAsked_37 : decode cX6_isAsked 37 = .ok (.iconst 1, 1) := by decide +kernel
theorem dX6_isAsked_38 : decode cX6_isAsked 38 = .ok (.goto 4, 3) := by decide +kernel
theorem dX6_isAsked_41 : decode cX6_isAsked 41 = .ok (.iconst 0, 1) := by decide +kernel
theorem dX6_isAsked_42 : decode cX6_isAsked 42 = .ok (.iconst 2, 1) := by decide +kernel
theorem dX6_isAsked_43 : decode cX6_isAsked 43 = .ok (.invokevirtual 87, 3) := by decide +kernel
theorem dX6_isAsked_46 : decode cX6_isAsked 46 = .ok (.ifCond .eq 7, 3) := by decide +kernel
theorem dX6_isAsked_49 : decode cX6_isAsked 49 = .ok (.iconst 1, 1) := by decide +kernel
theorem dX6_isAsked_50 : decode cX6_isAsked 50 = .ok (.goto 4, 3) := by decide +kernel
theorem dX6_isAsked_53 : decode cX6_isAsked 53 = .ok (.iconst 0, 1) := by decide +kernel
theorem dX6_isAsked_54 : decode cX6_isAsked 54 = .ok (.ireturn, 1) := by decide +kernel
theorem dX6_reach_0 : decode cX6_reach 0 = .ok (.aload_n 0, 1) := by decide +kernel
theorem dX6_reach_1 : decode cX6_reach 1 = .ok (.iload_n 1, 1) := by decide +kernel
theorem dX6_reach_2 : decode cX6_reach 2 = .ok (.iload_n 2, 1) := by decide +kernel
theorem dX6_reach_3 : decode cX6_reach 3 = .ok (.invokevirtual 148, 3) := by decide +kernel
theorem dX6_reach_6 : decode cX6_reach 6 = .ok (.ifCond .ne 5, 3) := by decide +kernel
theorem dX6_reach_9 : decode cX6_reach 9 = .ok (.lconst 0, 1) := by decide +kernel
theorem dX6_reach_10 : decode cX6_reach 10 = .ok (.lreturn, 1) := by decide +kernel
theorem dX6_reach_11 : decode cX6_reach 11 = .ok (.aload_n 0, 1) := by decide +kernel
theorem dX6_reach_12 : decode cX6_reach 12 = .ok (.iload_n 2, 1) := by decide +kernel
theorem dX6_reach_13 : decode cX6_reach 13 = .ok (.iconst 1, 1) := by decide +kernel
theorem dX6_reach_14 : decode cX6_reach 14 = .ok (.invokevirtual 130, 3) := by decide +kernel
theorem dX6_reach_17 : decode cX6_reach 17 = .ok (.aload_n 0, 1) := by decide +kernel
theorem dX6_reach_18 : decode cX6_reach 18 = .ok (.getfield 69, 3) := by decide +kernel
theorem dX6_reach_21 : decode cX6_reach 21 = .ok (.iload_n 1, 1) := by decide +kernel
theorem dX6_reach_22 : decode cX6_reach 22 = .ok (.laload, 1) := by decide +kernel
theorem dX6_reach_23 : decode cX6_reach 23 = .ok (.ldc2_w 108, 3) := by decide +kernel
theorem dX6_reach_26 : decode cX6_reach 26 = .ok (.lcmp, 1) := by decide +kernel
theorem dX6_reach_27 : decode cX6_reach 27 = .ok (.ifCond .lt 9, 3) := by decide +kernel
theorem dX6_reach_30 : decode cX6_reach 30 = .ok (.ldc2_w 78, 3) := by decide +kernel
theorem dX6_reach_33 : decode cX6_reach 33 = .ok (.goto 9, 3) := by decide +kernel
theorem dX6_reach_36 : decode cX6_reach 36 = .ok (.aload_n 0, 1) := by decide +kernel
theorem dX6_reach_37 : decode cX6_reach 37 = .ok (.getfield 69, 3) := by decide +kernel
theorem dX6_reach_40 : decode cX6_reach 40 = .ok (.iload_n 1, 1) := by decide +kernel
theorem dX6_reach_41 : decode cX6_reach 41 = .ok (.laload, 1) := by decide +kernel
theorem dX6_reach_42 : decode cX6_reach 42 = .ok (.lreturn, 1) := by decide +kernel
theorem dX6_lacks_0 : decode cX6_lacks 0 = .ok (.aload_n 0, 1) := by decide +kernel
theorem dX6_lacks_1 : decode cX6_lacks 1 = .ok (.iload_n 1, 1) := by decide +kernel
theorem dX6_lacks_2 : decode cX6_lacks 2 = .ok (.iload_n 2, 1) := by decide +kernel
theorem dX6_lacks_3 : decode cX6_lacks 3 = .ok (.invokevirtual 148, 3) := by decide +kernel
theorem dX6_lacks_6 : decode cX6_lacks 6 = .ok (.ifCond .ne 5, 3) := by decide +kernel
theorem dX6_lacks_9 : decode cX6_lacks 9 = .ok (.iconst 0, 1) := by decide +kernel
theorem dX6_lacks_10 : decode cX6_lacks 10 = .ok (.ireturn, 1) := by decide +kernel
theorem dX6_lacks_11 : decode cX6_lacks 11 = .ok (.aload_n 0, 1) := by decide +kernel
theorem dX6_lacks_12 : decode cX6_lacks 12 = .ok (.iload_n 2, 1) := by decide +kernel
theorem dX6_lacks_13 : decode cX6_lacks 13 = .ok (.iconst 1, 1) := by decide +kernel
theorem dX6_lacks_14 : decode cX6_lacks 14 = .ok (.invokevirtual 130, 3) := by decide +kernel
theorem dX6_lacks_17 : decode cX6_lacks 17 = .ok (.aload_n 0, 1) := by decide +kernel
theorem dX6_lacks_18 : decode cX6_lacks 18 = .ok (.getfield 69, 3) := by decide +kernel
theorem dX6_lacks_21 : decode cX6_lacks 21 = .ok (.iload_n 1, 1) := by decide +kernel
theorem dX6_lacks_22 : decode cX6_lacks 22 = .ok (.laload, 1) := by decide +kernel
theorem dX6_lacks_23 : decode cX6_lacks 23 = .ok (.ldc2_w 108, 3) := by decide +kernel
theorem dX6_lacks_26 : decode cX6_lacks 26 = .ok (.lcmp, 1) := by decide +kernel
theorem dX6_lacks_27 : decode cX6_lacks 27 = .ok (.ifCond .ge 5, 3) := by decide +kernel
theorem dX6_lacks_30 : decode cX6_lacks 30 = .ok (.iconst (-1), 1) := by decide +kernel
theorem dX6_lacks_31 : decode cX6_lacks 31 = .ok (.ireturn, 1) := by decide +kernel
theorem dX6_lacks_32 : decode cX6_lacks 32 = .ok (.iconst 0, 1) := by decide +kernel
theorem dX6_lacks_33 : decode cX6_lacks 33 = .ok (.istore_n 3, 1) := by decide +kernel
theorem dX6_lacks_34 : decode cX6_lacks 34 = .ok (.iload_n 3, 1) := by decide +kernel
theorem dX6_lacks_35 : decode cX6_lacks 35 = .ok (.aload_n 0, 1) := by decide +kernel
theorem dX6_lacks_36 : decode cX6_lacks 36 = .ok (.getfield 84, 3) := by decide +kernel
theorem dX6_lacks_39 : decode cX6_lacks 39 = .ok (.if_icmp .ge 25, 3) := by decide +kernel
theorem dX6_lacks_42 : decode cX6_lacks 42 = .ok (.aload_n 0, 1) := by decide +kernel
theorem dX6_lacks_43 : decode cX6_lacks 43 = .ok (.getfield 75, 3) := by decide +kernel
theorem dX6_lacks_46 : decode cX6_lacks 46 = .ok (.iload_n 3, 1) := by decide +kernel
theorem dX6_lacks_47 : decode cX6_lacks 47 = .ok (.iload_n 3, 1) := by decide +kernel
theorem dX6_lacks_48 : decode cX6_lacks 48 = .ok (.iload_n 1, 1) := by decide +kernel
theorem dX6_lacks_49 : decode cX6_lacks 49 = .ok (.if_icmp .ne 7, 3) := by decide +kernel
theorem dX6_lacks_52 : decode cX6_lacks 52 = .ok (.iconst 1, 1) := by decide +kernel
theorem dX6_lacks_53 : decode cX6_lacks 53 = .ok (.goto 4, 3) := by decide +kernel
theorem dX6_lacks_56 : decode cX6_lacks 56 = .ok (.iconst 0, 1) := by decide +kernel
theorem dX6_lacks_57 : decode cX6_lacks 57 = .ok (.bastore, 1) := by decide +kernel
theorem dX6_lacks_58 : decode cX6_lacks 58 = .ok (.iinc 3 1, 3) := by decide +kernel
theorem dX6_lacks_61 : decode cX6_lacks 61 = .ok (.goto (-27), 3) := by decide +kernel
theorem dX6_lacks_64 : decode cX6_lacks 64 = .ok (.iconst 1, 1) := by decide +kernel
theorem dX6_lacks_65 : decode cX6_lacks 65 = .ok (.istore_n 3, 1) := by decide +kernel
theorem dX6_lacks_66 : decode cX6_lacks 66 = .ok (.iload_n 3, 1) := by decide +kernel
theorem dX6_lacks_67 : decode cX6_lacks 67 = .ok (.ifCond .eq 74, 3) := by decide +kernel
theorem dX6_lacks_70 : decode cX6_lacks 70 = .ok (.iconst 0, 1) := by decide +kernel
theorem dX6_lacks_71 : decode cX6_lacks 71 = .ok (.istore_n 3, 1) := by decide +kernel
theorem dX6_lacks_72 : decode cX6_lacks 72 = .ok (.iconst 0, 1) := by decide +kernel
theorem dX6_lacks_73 : decode cX6_lacks 73 = .ok (.istore 4, 2) := by decide +kernel
theorem dX6_lacks_75 : decode cX6_lacks 75 = .ok (.iload 4, 2) := by decide +kernel
theorem dX6_lacks_77 : decode cX6_lacks 77 = .ok (.aload_n 0, 1) := by decide +kernel
theorem dX6_lacks_78 : decode cX6_lacks 78 = .ok (.getfield 98, 3) := by decide +kernel
theorem dX6_lacks_81 : decode cX6_lacks 81 = .ok (.if_icmp .ge 57, 3) := by decide +kernel
theorem dX6_lacks_84 : decode cX6_lacks 84 = .ok (.aload_n 0, 1) := by decide +kernel
theorem dX6_lacks_85 : decode cX6_lacks 85 = .ok (.getfield 75, 3) := by decide +kernel
theorem dX6_lacks_88 : decode cX6_lacks 88 = .ok (.aload_n 0, 1) := by decide +kernel
theorem dX6_lacks_89 : decode cX6_lacks 89 = .ok (.getfield 25, 3) := by decide +kernel
theorem dX6_lacks_92 : decode cX6_lacks 92 = .ok (.iload 4, 2) := by decide +kernel
theorem dX6_lacks_94 : decode cX6_lacks 94 = .ok (.iaload, 1) := by decide +kernel
theorem dX6_lacks_95 : decode cX6_lacks 95 = .ok (.baload, 1) := by decide +kernel
theorem dX6_lacks_96 : decode cX6_lacks 96 = .ok (.ifCond .eq 36, 3) := by decide +kernel
theorem dX6_lacks_99 : decode cX6_lacks 99 = .ok (.aload_n 0, 1) := by decide +kernel
theorem dX6_lacks_100 : decode cX6_lacks 100 = .ok (.getfield 75, 3) := by decide +kernel
theorem dX6_lacks_103 : decode cX6_lacks 103 = .ok (.aload_n 0, 1) := by decide +kernel
theorem dX6_lacks_104 : decode cX6_lacks 104 = .ok (.getfield 31, 3) := by decide +kernel
theorem dX6_lacks_107 : decode cX6_lacks 107 = .ok (.iload 4, 2) := by decide +kernel
theorem dX6_lacks_109 : decode cX6_lacks 109 = .ok (.iaload, 1) := by decide +kernel
theorem dX6_lacks_110 : decode cX6_lacks 110 = .ok (.baload, 1) := by decide +kernel
theorem dX6_lacks_111 : decode cX6_lacks 111 = .ok (.ifCond .eq 6, 3) := by decide +kernel
theorem dX6_lacks_114 : decode cX6_lacks 114 = .ok (.goto 18, 3) := by decide +kernel
theorem dX6_lacks_117 : decode cX6_lacks 117 = .ok (.aload_n 0, 1) := by decide +kernel
theorem dX6_lacks_118 : decode cX6_lacks 118 = .ok (.getfield 75, 3) := by decide +kernel
theorem dX6_lacks_121 : decode cX6_lacks 121 = .ok (.aload_n 0, 1) := by decide +kernel
theorem dX6_lacks_122 : decode cX6_lacks 122 = .ok (.getfield 31, 3) := by decide +kernel
theorem dX6_lacks_125 : decode cX6_lacks 125 = .ok (.iload 4, 2) := by decide +kernel
theorem dX6_lacks_127 : decode cX6_lacks 127 = .ok (.iaload, 1) := by decide +kernel
theorem dX6_lacks_128 : decode cX6_lacks 128 = .ok (.iconst 1, 1) := by decide +kernel
theorem dX6_lacks_129 : decode cX6_lacks 129 = .ok (.bastore, 1) := by decide +kernel
theorem dX6_lacks_130 : decode cX6_lacks 130 = .ok (.iconst 1, 1) := by decide +kernel
theorem dX6_lacks_131 : decode cX6_lacks 131 = .ok (.istore_n 3, 1) := by decide +kernel
theorem dX6_lacks_132 : decode cX6_lacks 132 = .ok (.iinc 4 1, 3) := by decide +kernel
theorem dX6_lacks_135 : decode cX6_lacks 135 = .ok (.goto (-60), 3) := by decide +kernel
theorem dX6_lacks_138 : decode cX6_lacks 138 = .ok (.goto (-72), 3) := by decide +kernel
theorem dX6_lacks_141 : decode cX6_lacks 141 = .ok (.iconst 0, 1) := by decide +kernel
theorem dX6_lacks_142 : decode cX6_lacks 142 = .ok (.istore 4, 2) := by decide +kernel
theorem dX6_lacks_144 : decode cX6_lacks 144 = .ok (.aload_n 0, 1) := by decide +kernel
theorem dX6_lacks_145 : decode cX6_lacks 145 = .ok (.getfield 75, 3) := by decide +kernel
theorem dX6_lacks_148 : decode cX6_lacks 148 = .ok (.iload 4, 2) := by decide +kernel
theorem dX6_lacks_150 : decode cX6_lacks 150 = .ok (.baload, 1) := by decide +kernel
theorem dX6_lacks_151 : decode cX6_lacks 151 = .ok (.ifCond .ne 9, 3) := by decide +kernel
theorem dX6_lacks_154 : decode cX6_lacks 154 = .ok (.iinc 4 1, 3) := by decide +kernel
theorem dX6_lacks_157 : decode cX6_lacks 157 = .ok (.goto (-13), 3) := by decide +kernel
theorem dX6_lacks_160 : decode cX6_lacks 160 = .ok (.iconst 0, 1) := by decide +kernel
theorem dX6_lacks_161 : decode cX6_lacks 161 = .ok (.istore 5, 2) := by decide +kernel
theorem dX6_lacks_163 : decode cX6_lacks 163 = .ok (.iload 5, 2) := by decide +kernel
theorem dX6_lacks_165 : decode cX6_lacks 165 = .ok (.aload_n 0, 1) := by decide +kernel
theorem dX6_lacks_166 : decode cX6_lacks 166 = .ok (.getfield 84, 3) := by decide +kernel
theorem dX6_lacks_169 : decode cX6_lacks 169 = .ok (.if_icmp .ge 19, 3) := by decide +kernel
theorem dX6_lacks_172 : decode cX6_lacks 172 = .ok (.aload_n 0, 1) := by decide +kernel
theorem dX6_lacks_173 : decode cX6_lacks 173 = .ok (.iload 5, 2) := by decide +kernel
theorem dX6_lacks_175 : decode cX6_lacks 175 = .ok (.iload_n 2, 1) := by decide +kernel
theorem dX6_lacks_176 : decode cX6_lacks 176 = .ok (.invokevirtual 104, 3) := by decide +kernel
theorem dX6_lacks_179 : decode cX6_lacks 179 = .ok (.ifCond .ne 9, 3) := by decide +kernel
theorem dX6_lacks_182 : decode cX6_lacks 182 = .ok (.iinc 5 1, 3) := by decide +kernel
theorem dX6_lacks_185 : decode cX6_lacks 185 = .ok (.goto (-22), 3) := by decide +kernel
theorem dX6_lacks_188 : decode cX6_lacks 188 = .ok (.iload 5, 2) := by decide +kernel
theorem dX6_lacks_190 : decode cX6_lacks 190 = .ok (.aload_n 0, 1) := by decide +kernel
theorem dX6_lacks_191 : decode cX6_lacks 191 = .ok (.getfield 84, 3) := by decide +kernel
theorem dX6_lacks_194 : decode cX6_lacks 194 = .ok (.if_icmp .ne 7, 3) := by decide +kernel
theorem dX6_lacks_197 : decode cX6_lacks 197 = .ok (.iconst (-1), 1) := by decide +kernel
theorem dX6_lacks_198 : decode cX6_lacks 198 = .ok (.goto 11, 3) := by decide +kernel
theorem dX6_lacks_201 : decode cX6_lacks 201 = .ok (.bipush 100, 2) := by decide +kernel
theorem dX6_lacks_203 : decode cX6_lacks 203 = .ok (.iload 4, 2) := by decide +kernel
theorem dX6_lacks_205 : decode cX6_lacks 205 = .ok (.imul, 1) := by decide +kernel
theorem dX6_lacks_206 : decode cX6_lacks 206 = .ok (.iload 5, 2) := by decide +kernel
theorem dX6_lacks_208 : decode cX6_lacks 208 = .ok (.iadd, 1) := by decide +kernel
theorem dX6_lacks_209 : decode cX6_lacks 209 = .ok (.ireturn, 1) := by decide +kernel
theorem dX6_logs_0 : decode cX6_logs 0 = .ok (.aload_n 0, 1) := by decide +kernel
theorem dX6_logs_1 : decode cX6_logs 1 = .ok (.getfield 151, 3) := by decide +kernel
theorem dX6_logs_4 : decode cX6_logs 4 = .ok (.sipush 300, 3) := by decide +kernel
theorem dX6_logs_7 : decode cX6_logs 7 = .ok (.irem, 1) := by decide +kernel
theorem dX6_logs_8 : decode cX6_logs 8 = .ok (.istore_n 3, 1) := by decide +kernel
theorem dX6_logs_9 : decode cX6_logs 9 = .ok (.aload_n 0, 1) := by decide +kernel
theorem dX6_logs_10 : decode cX6_logs 10 = .ok (.getfield 60, 3) := by decide +kernel
theorem dX6_logs_13 : decode cX6_logs 13 = .ok (.iload_n 3, 1) := by decide +kernel
theorem dX6_logs_14 : decode cX6_logs 14 = .ok (.aload_n 0, 1) := by decide +kernel
theorem dX6_logs_15 : decode cX6_logs 15 = .ok (.getfield 154, 3) := by decide +kernel
theorem dX6_logs_18 : decode cX6_logs 18 = .ok (.lastore, 1) := by decide +kernel
theorem dX6_logs_19 : decode cX6_logs 19 = .ok (.aload_n 0, 1) := by decide +kernel
theorem dX6_logs_20 : decode cX6_logs 20 = .ok (.getfield 63, 3) := by decide +kernel
theorem dX6_logs_23 : decode cX6_logs 23 = .ok (.iload_n 3, 1) := by decide +kernel
theorem dX6_logs_24 : decode cX6_logs 24 = .ok (.iload_n 1, 1) := by decide +kernel
theorem dX6_logs_25 : decode cX6_logs 25 = .ok (.iastore, 1) := by decide +kernel
theorem dX6_logs_26 : decode cX6_logs 26 = .ok (.aload_n 0, 1) := by decide +kernel
theorem dX6_logs_27 : decode cX6_logs 27 = .ok (.getfield 66, 3) := by decide +kernel
theorem dX6_logs_30 : decode cX6_logs 30 = .ok (.iload_n 3, 1) := by decide +kernel
theorem dX6_logs_31 : decode cX6_logs 31 = .ok (.iload_n 2, 1) := by decide +kernel
theorem dX6_logs_32 : decode cX6_logs 32 = .ok (.iastore, 1) := by decide +kernel
theorem dX6_logs_33 : decode cX6_logs 33 = .ok (.aload_n 0, 1) := by decide +kernel
theorem dX6_logs_34 : decode cX6_logs 34 = .ok (.dup, 1) := by decide +kernel
theorem dX6_logs_35 : decode cX6_logs 35 = .ok (.getfield 151, 3) := by decide +kernel
theorem dX6_logs_38 : decode cX6_logs 38 = .ok (.iconst 1, 1) := by decide +kernel
theorem dX6_logs_39 : decode cX6_logs 39 = .ok (.iadd, 1) := by decide +kernel
theorem dX6_logs_40 : decode cX6_logs 40 = .ok (.putfield 151, 3) := by decide +kernel
theorem dX6_logs_43 : decode cX6_logs 43 = .ok (.return_, 1) := by decide +kernel
theorem dX6_met_0 : decode cX6_met 0 = .ok (.aload_n 0, 1) := by decide +kernel
theorem dX6_met_1 : decode cX6_met 1 = .ok (.iconst 4, 1) := by decide +kernel
theorem dX6_met_2 : decode cX6_met 2 = .ok (.aload_n 0, 1) := by decide +kernel
theorem dX6_met_3 : decode cX6_met 3 = .ok (.iconst 4, 1) := by decide +kernel
theorem dX6_met_4 : decode cX6_met 4 = .ok (.invokevirtual 126, 3) := by decide +kernel
theorem dX6_met_7 : decode cX6_met 7 = .ok (.invokevirtual 158, 3) := by decide +kernel
theorem dX6_met_10 : decode cX6_met 10 = .ok (.aload_n 0, 1) := by decide +kernel
theorem dX6_met_11 : decode cX6_met 11 = .ok (.getfield 40, 3) := by decide +kernel
theorem dX6_met_14 : decode cX6_met 14 = .ok (.iconst 4, 1) := by decide +kernel
theorem dX6_met_15 : decode cX6_met 15 = .ok (.ldc2_w 78, 3) := by decide +kernel
theorem dX6_met_18 : decode cX6_met 18 = .ok (.lastore, 1) := by decide +kernel
theorem dX6_met_19 : decode cX6_met 19 = .ok (.aload_n 0, 1) := by decide +kernel
theorem dX6_met_20 : decode cX6_met 20 = .ok (.invokevirtual 91, 3) := by decide +kernel
theorem dX6_met_23 : decode cX6_met 23 = .ok (.return_, 1) := by decide +kernel
theorem dX6_begins_0 : decode cX6_begins 0 = .ok (.aload_n 0, 1) := by decide +kernel
theorem dX6_begins_1 : decode cX6_begins 1 = .ok (.getfield 40, 3) := by decide +kernel
theorem dX6_begins_4 : decode cX6_begins 4 = .ok (.iconst 0, 1) := by decide +kernel
theorem dX6_begins_5 : decode cX6_begins 5 = .ok (.iload_n 1, 1) := by decide +kernel
theorem dX6_begins_6 : decode cX6_begins 6 = .ok (.i2l, 1) := by decide +kernel
theorem dX6_begins_7 : decode cX6_begins 7 = .ok (.lastore, 1) := by decide +kernel
theorem dX6_begins_8 : decode cX6_begins 8 = .ok (.aload_n 0, 1) := by decide +kernel
theorem dX6_begins_9 : decode cX6_begins 9 = .ok (.getfield 40, 3) := by decide +kernel
theorem dX6_begins_12 : decode cX6_begins 12 = .ok (.iconst 1, 1) := by decide +kernel
theorem dX6_begins_13 : decode cX6_begins 13 = .ok (.lconst 0, 1) := by decide +kernel
theorem dX6_begins_14 : decode cX6_begins 14 = .ok (.lastore, 1) := by decide +kernel
theorem dX6_begins_15 : decode cX6_begins 15 = .ok (.aload_n 0, 1) := by decide +kernel
theorem dX6_begins_16 : decode cX6_begins 16 = .ok (.getfield 40, 3) := by decide +kernel
theorem dX6_begins_19 : decode cX6_begins 19 = .ok (.iconst 3, 1) := by decide +kernel
