theorem dX11_apart_64 : decode cX11_apart 64 = .ok (.ireturn, 1) := by decide +kernel
theorem dX11_isAgainst_0 : decode cX11_isAgainst 0 = .ok (.iload_n 1, 1) := by decide +kernel
theorem dX11_isAgainst_1 : decode cX11_isAgainst 1 = .ok (.iload_n 2, 1) := by decide +kernel
theorem dX11_isAgainst_2 : decode cX11_isAgainst 2 = .ok (.invokestatic 357, 3) := by decide +kernel
theorem dX11_isAgainst_5 : decode cX11_isAgainst 5 = .ok (.ifCond .eq 11, 3) := by decide +kernel
theorem dX11_isAgainst_8 : decode cX11_isAgainst 8 = .ok (.iload_n 1, 1) := by decide +kernel
theorem dX11_isAgainst_9 : decode cX11_isAgainst 9 = .ok (.iload_n 3, 1) := by decide +kernel
theorem dX11_isAgainst_10 : decode cX11_isAgainst 10 = .ok (.invokestatic 357, 3) := by decide +kernel
theorem dX11_isAgainst_13 : decode cX11_isAgainst 13 = .ok (.ifCond .ne 5, 3) := by decide +kernel
theorem dX11_isAgainst_16 : decode cX11_isAgainst 16 = .ok (.iconst 0, 1) := by decide +kernel
theorem dX11_isAgainst_17 : decode cX11_isAgainst 17 = .ok (.ireturn, 1) := by decide +kernel
theorem dX11_isAgainst_18 : decode cX11_isAgainst 18 = .ok (.iconst 0, 1) := by decide +kernel
theorem dX11_isAgainst_19 : decode cX11_isAgainst 19 = .ok (.istore 4, 2) := by decide +kernel
theorem dX11_isAgainst_21 : decode cX11_isAgainst 21 = .ok (.iload 4, 2) := by decide +kernel
theorem dX11_isAgainst_23 : decode cX11_isAgainst 23 = .ok (.aload_n 0, 1) := by decide +kernel
theorem dX11_isAgainst_24 : decode cX11_isAgainst 24 = .ok (.getfield 45, 3) := by decide +kernel
theorem dX11_isAgainst_27 : decode cX11_isAgainst 27 = .ok (.iconst 0, 1) := by decide +kernel
theorem dX11_isAgainst_28 : decode cX11_isAgainst 28 = .ok (.iaload, 1) := by decide +kernel
theorem dX11_isAgainst_29 : decode cX11_isAgainst 29 = .ok (.if_icmp .ge 68, 3) := by decide +kernel
theorem dX11_isAgainst_32 : decode cX11_isAgainst 32 = .ok (.iconst 0, 1) := by decide +kernel
theorem dX11_isAgainst_33 : decode cX11_isAgainst 33 = .ok (.istore 5, 2) := by decide +kernel
theorem dX11_isAgainst_35 : decode cX11_isAgainst 35 = .ok (.iload 5, 2) := by decide +kernel
theorem dX11_isAgainst_37 : decode cX11_isAgainst 37 = .ok (.bipush 8, 2) := by decide +kernel
theorem dX11_isAgainst_39 : decode cX11_isAgainst 39 = .ok (.if_icmp .ge 52, 3) := by decide +kernel
theorem dX11_isAgainst_42 : decode cX11_isAgainst 42 = .ok (.aload_n 0, 1) := by decide +kernel
theorem dX11_isAgainst_43 : decode cX11_isAgainst 43 = .ok (.iload_n 2, 1) := by decide +kernel
theorem dX11_isAgainst_44 : decode cX11_isAgainst 44 = .ok (.iload 4, 2) := by decide +kernel
theorem dX11_isAgainst_46 : decode cX11_isAgainst 46 = .ok (.iload 5, 2) := by decide +kernel
theorem dX11_isAgainst_48 : decode cX11_isAgainst 48 = .ok (.invokevirtual 393, 3) := by decide +kernel
theorem dX11_isAgainst_51 : decode cX11_isAgainst 51 = .ok (.istore 6, 2) := by decide +kernel
theorem dX11_isAgainst_53 : decode cX11_isAgainst 53 = .ok (.aload_n 0, 1) := by decide +kernel
theorem dX11_isAgainst_54 : decode cX11_isAgainst 54 = .ok (.iload_n 3, 1) := by decide +kernel
theorem dX11_isAgainst_55 : decode cX11_isAgainst 55 = .ok (.iload 4, 2) := by decide +kernel
theorem dX11_isAgainst_57 : decode cX11_isAgainst 57 = .ok (.iload 5, 2) := by decide +kernel
theorem dX11_isAgainst_59 : decode cX11_isAgainst 59 = .ok (.invokevirtual 393, 3) := by decide +kernel
theorem dX11_isAgainst_62 : decode cX11_isAgainst 62 = .ok (.istore 7, 2) := by decide +kernel
theorem dX11_isAgainst_64 : decode cX11_isAgainst 64 = .ok (.iload 6, 2) := by decide +kernel
theorem dX11_isAgainst_66 : decode cX11_isAgainst 66 = .ok (.iconst (-1), 1) := by decide +kernel
theorem dX11_isAgainst_67 : decode cX11_isAgainst 67 = .ok (.if_icmp .eq 18, 3) := by decide +kernel
theorem dX11_isAgainst_70 : decode cX11_isAgainst 70 = .ok (.iload 7, 2) := by decide +kernel
theorem dX11_isAgainst_72 : decode cX11_isAgainst 72 = .ok (.iconst (-1), 1) := by decide +kernel
theorem dX11_isAgainst_73 : decode cX11_isAgainst 73 = .ok (.if_icmp .eq 12, 3) := by decide +kernel
theorem dX11_isAgainst_76 : decode cX11_isAgainst 76 = .ok (.iload 6, 2) := by decide +kernel
theorem dX11_isAgainst_78 : decode cX11_isAgainst 78 = .ok (.iload 7, 2) := by decide +kernel
theorem dX11_isAgainst_80 : decode cX11_isAgainst 80 = .ok (.if_icmp .eq 5, 3) := by decide +kernel
theorem dX11_isAgainst_83 : decode cX11_isAgainst 83 = .ok (.iconst 1, 1) := by decide +kernel
theorem dX11_isAgainst_84 : decode cX11_isAgainst 84 = .ok (.ireturn, 1) := by decide +kernel
theorem dX11_isAgainst_85 : decode cX11_isAgainst 85 = .ok (.iinc 5 1, 3) := by decide +kernel
theorem dX11_isAgainst_88 : decode cX11_isAgainst 88 = .ok (.goto (-53), 3) := by decide +kernel
theorem dX11_isAgainst_91 : decode cX11_isAgainst 91 = .ok (.iinc 4 1, 3) := by decide +kernel
theorem dX11_isAgainst_94 : decode cX11_isAgainst 94 = .ok (.goto (-73), 3) := by decide +kernel
theorem dX11_isAgainst_97 : decode cX11_isAgainst 97 = .ok (.iconst 0, 1) := by decide +kernel
theorem dX11_isAgainst_98 : decode cX11_isAgainst 98 = .ok (.ireturn, 1) := by decide +kernel
theorem dX11_against_0 : decode cX11_against 0 = .ok (.aload_n 0, 1) := by decide +kernel
theorem dX11_against_1 : decode cX11_against 1 = .ok (.iconst 0, 1) := by decide +kernel
theorem dX11_against_2 : decode cX11_against 2 = .ok (.putfield 159, 3) := by decide +kernel
theorem dX11_against_5 : decode cX11_against 5 = .ok (.iload_n 1, 1) := by decide +kernel
theorem dX11_against_6 : decode cX11_against 6 = .ok (.ifCond .lt 8, 3) := by decide +kernel
theorem dX11_against_9 : decode cX11_against 9 = .ok (.iload_n 1, 1) := by decide +kernel
theorem dX11_against_10 : decode cX11_against 10 = .ok (.iconst 1, 1) := by decide +kernel
theorem dX11_against_11 : decode cX11_against 11 = .ok (.if_icmp .le 9, 3) := by decide +kernel
theorem dX11_against_14 : decode cX11_against 14 = .ok (.aload_n 0, 1) := by decide +kernel
theorem dX11_against_15 : decode cX11_against 15 = .ok (.iconst 1, 1) := by decide +kernel
theorem dX11_against_16 : decode cX11_against 16 = .ok (.invokevirtual 304, 3) := by decide +kernel
theorem dX11_against_19 : decode cX11_against 19 = .ok (.ireturn, 1) := by decide +kernel
theorem dX11_against_20 : decode cX11_against 20 = .ok (.aload_n 0, 1) := by decide +kernel
theorem dX11_against_21 : decode cX11_against 21 = .ok (.invokevirtual 399, 3) := by decide +kernel
theorem dX11_against_24 : decode cX11_against 24 = .ok (.istore_n 2, 1) := by decide +kernel
theorem dX11_against_25 : decode cX11_against 25 = .ok (.iconst 0, 1) := by decide +kernel
theorem dX11_against_26 : decode cX11_against 26 = .ok (.istore_n 3, 1) := by decide +kernel
theorem dX11_against_27 : decode cX11_against 27 = .ok (.iconst 0, 1) := by decide +kernel
theorem dX11_against_28 : decode cX11_against 28 = .ok (.istore 4, 2) := by decide +kernel
theorem dX11_against_30 : decode cX11_against 30 = .ok (.iload 4, 2) := by decide +kernel
theorem dX11_against_32 : decode cX11_against 32 = .ok (.aload_n 0, 1) := by decide +kernel
theorem dX11_against_33 : decode cX11_against 33 = .ok (.getfield 45, 3) := by decide +kernel
theorem dX11_against_36 : decode cX11_against 36 = .ok (.iconst 1, 1) := by decide +kernel
theorem dX11_against_37 : decode cX11_against 37 = .ok (.iaload, 1) := by decide +kernel
theorem dX11_against_38 : decode cX11_against 38 = .ok (.if_icmp .ge 72, 3) := by decide +kernel
theorem dX11_against_41 : decode cX11_against 41 = .ok (.aload_n 0, 1) := by decide +kernel
theorem dX11_against_42 : decode cX11_against 42 = .ok (.getfield 111, 3) := by decide +kernel
theorem dX11_against_45 : decode cX11_against 45 = .ok (.iload 4, 2) := by decide +kernel
theorem dX11_against_47 : decode cX11_against 47 = .ok (.iconst 0, 1) := by decide +kernel
theorem dX11_against_48 : decode cX11_against 48 = .ok (.iastore, 1) := by decide +kernel
theorem dX11_against_49 : decode cX11_against 49 = .ok (.iload 4, 2) := by decide +kernel
theorem dX11_against_51 : decode cX11_against 51 = .ok (.iconst 1, 1) := by decide +kernel
theorem dX11_against_52 : decode cX11_against 52 = .ok (.iadd, 1) := by decide +kernel
theorem dX11_against_53 : decode cX11_against 53 = .ok (.istore 5, 2) := by decide +kernel
theorem dX11_against_55 : decode cX11_against 55 = .ok (.iload 5, 2) := by decide +kernel
theorem dX11_against_57 : decode cX11_against 57 = .ok (.aload_n 0, 1) := by decide +kernel
theorem dX11_against_58 : decode cX11_against 58 = .ok (.getfield 45, 3) := by decide +kernel
theorem dX11_against_61 : decode cX11_against 61 = .ok (.iconst 1, 1) := by decide +kernel
theorem dX11_against_62 : decode cX11_against 62 = .ok (.iaload, 1) := by decide +kernel
theorem dX11_against_63 : decode cX11_against 63 = .ok (.if_icmp .ge 41, 3) := by decide +kernel
theorem dX11_against_66 : decode cX11_against 66 = .ok (.aload_n 0, 1) := by decide +kernel
theorem dX11_against_67 : decode cX11_against 67 = .ok (.iload_n 2, 1) := by decide +kernel
theorem dX11_against_68 : decode cX11_against 68 = .ok (.iload 4, 2) := by decide +kernel
theorem dX11_against_70 : decode cX11_against 70 = .ok (.iload 5, 2) := by decide +kernel
theorem dX11_against_72 : decode cX11_against 72 = .ok (.invokevirtual 472, 3) := by decide +kernel
theorem dX11_against_75 : decode cX11_against 75 = .ok (.ifCond .ne 6, 3) := by decide +kernel
theorem dX11_against_78 : decode cX11_against 78 = .ok (.goto 20, 3) := by decide +kernel
theorem dX11_against_81 : decode cX11_against 81 = .ok (.aload_n 0, 1) := by decide +kernel
theorem dX11_against_82 : decode cX11_against 82 = .ok (.getfield 111, 3) := by decide +kernel
theorem dX11_against_85 : decode cX11_against 85 = .ok (.iload 4, 2) := by decide +kernel
theorem dX11_against_87 : decode cX11_against 87 = .ok (.dup2, 1) := by decide +kernel
theorem dX11_against_88 : decode cX11_against 88 = .ok (.iaload, 1) := by decide +kernel
theorem dX11_against_89 : decode cX11_against 89 = .ok (.iconst 1, 1) := by decide +kernel
theorem dX11_against_90 : decode cX11_against 90 = .ok (.iload 5, 2) := by decide +kernel
theorem dX11_against_92 : decode cX11_against 92 = .ok (.ishl, 1) := by decide +kernel
theorem dX11_against_93 : decode cX11_against 93 = .ok (.ior, 1) := by decide +kernel
theorem dX11_against_94 : decode cX11_against 94 = .ok (.iastore, 1) := by decide +kernel
theorem dX11_against_95 : decode cX11_against 95 = .ok (.iinc 3 1, 3) := by decide +kernel
theorem dX11_against_98 : decode cX11_against 98 = .ok (.iinc 5 1, 3) := by decide +kernel
theorem dX11_against_101 : decode cX11_against 101 = .ok (.goto (-46), 3) := by decide +kernel
theorem dX11_against_104 : decode cX11_against 104 = .ok (.iinc 4 1, 3) := by decide +kernel
theorem dX11_against_107 : decode cX11_against 107 = .ok (.goto (-77), 3) := by decide +kernel
theorem dX11_against_110 : decode cX11_against 110 = .ok (.iload_n 1, 1) := by decide +kernel
theorem dX11_against_111 : decode cX11_against 111 = .ok (.ifCond .ne 5, 3) := by decide +kernel
theorem dX11_against_114 : decode cX11_against 114 = .ok (.iload_n 3, 1) := by decide +kernel
theorem dX11_against_115 : decode cX11_against 115 = .ok (.ireturn, 1) := by decide +kernel
theorem dX11_against_116 : decode cX11_against 116 = .ok (.iconst (-1), 1) := by decide +kernel
theorem dX11_against_117 : decode cX11_against 117 = .ok (.istore 4, 2) := by decide +kernel
theorem dX11_against_119 : decode cX11_against 119 = .ok (.iconst 0, 1) := by decide +kernel
theorem dX11_against_120 : decode cX11_against 120 = .ok (.istore 5, 2) := by decide +kernel
theorem dX11_against_122 : decode cX11_against 122 = .ok (.iload 5, 2) := by decide +kernel
theorem dX11_against_124 : decode cX11_against 124 = .ok (.iconst 1, 1) := by decide +kernel
theorem dX11_against_125 : decode cX11_against 125 = .ok (.aload_n 0, 1) := by decide +kernel
theorem dX11_against_126 : decode cX11_against 126 = .ok (.getfield 45, 3) := by decide +kernel
theorem dX11_against_129 : decode cX11_against 129 = .ok (.iconst 1, 1) := by decide +kernel
theorem dX11_against_130 : decode cX11_against 130 = .ok (.iaload, 1) := by decide +kernel
theorem dX11_against_131 : decode cX11_against 131 = .ok (.ishl, 1) := by decide +kernel
theorem dX11_against_132 : decode cX11_against 132 = .ok (.if_icmp .ge 101, 3) := by decide +kernel
theorem dX11_against_135 : decode cX11_against 135 = .ok (.iload 4, 2) := by decide +kernel
theorem dX11_against_137 : decode cX11_against 137 = .ok (.iconst (-1), 1) := by decide +kernel
theorem dX11_against_138 : decode cX11_against 138 = .ok (.if_icmp .eq 16, 3) := by decide +kernel
theorem dX11_against_141 : decode cX11_against 141 = .ok (.iload 5, 2) := by decide +kernel
theorem dX11_against_143 : decode cX11_against 143 = .ok (.invokestatic 464, 3) := by decide +kernel
theorem dX11_against_146 : decode cX11_against 146 = .ok (.iload 4, 2) := by decide +kernel
theorem dX11_against_148 : decode cX11_against 148 = .ok (.invokestatic 464, 3) := by decide +kernel
theorem dX11_against_151 : decode cX11_against 151 = .ok (.if_icmp .ge 7, 3) := by decide +kernel
theorem dX11_against_154 : decode cX11_against 154 = .ok (.iconst 1, 1) := by decide +kernel
theorem dX11_against_155 : decode cX11_against 155 = .ok (.goto 4, 3) := by decide +kernel
theorem dX11_against_158 : decode cX11_against 158 = .ok (.iconst 0, 1) := by decide +kernel
theorem dX11_against_159 : decode cX11_against 159 = .ok (.istore 6, 2) := by decide +kernel
theorem dX11_against_161 : decode cX11_against 161 = .ok (.iconst 0, 1) := by decide +kernel
theorem dX11_against_162 : decode cX11_against 162 = .ok (.istore 7, 2) := by decide +kernel
theorem dX11_against_164 : decode cX11_against 164 = .ok (.iload 7, 2) := by decide +kernel
theorem dX11_against_166 : decode cX11_against 166 = .ok (.aload_n 0, 1) := by decide +kernel
theorem dX11_against_167 : decode cX11_against 167 = .ok (.getfield 45, 3) := by decide +kernel
theorem dX11_against_170 : decode cX11_against 170 = .ok (.iconst 1, 1) := by decide +kernel
theorem dX11_against_171 : decode cX11_against 171 = .ok (.iaload, 1) := by decide +kernel
theorem dX11_against_172 : decode cX11_against 172 = .ok (.if_icmp .ge 46, 3) := by decide +kernel
theorem dX11_against_175 : decode cX11_against 175 = .ok (.iload 6, 2) := by decide +kernel
theorem dX11_against_177 : decode cX11_against 177 = .ok (.ifCond .eq 41, 3) := by decide +kernel
theorem dX11_against_180 : decode cX11_against 180 = .ok (.iload 5, 2) := by decide +kernel
theorem dX11_against_182 : decode cX11_against 182 = .ok (.iload 7, 2) := by decide +kernel
theorem dX11_against_184 : decode cX11_against 184 = .ok (.invokestatic 357, 3) := by decide +kernel
theorem dX11_against_187 : decode cX11_against 187 = .ok (.ifCond .ne 18, 3) := by decide +kernel
theorem dX11_against_190 : decode cX11_against 190 = .ok (.aload_n 0, 1) := by decide +kernel
theorem dX11_against_191 : decode cX11_against 191 = .ok (.getfield 111, 3) := by decide +kernel
theorem dX11_against_194 : decode cX11_against 194 = .ok (.iload 7, 2) := by decide +kernel
theorem dX11_against_196 : decode cX11_against 196 = .ok (.iaload, 1) := by decide +kernel
theorem dX11_against_197 : decode cX11_against 197 = .ok (.iload 5, 2) := by decide +kernel
theorem dX11_against_199 : decode cX11_against 199 = .ok (.iconst (-1), 1) := by decide +kernel
theorem dX11_against_200 : decode cX11_against 200 = .ok (.ixor, 1) := by decide +kernel
theorem dX11_against_201 : decode cX11_against 201 = .ok (.iand, 1) := by decide +kernel
theorem dX11_against_202 : decode cX11_against 202 = .ok (.ifCond .ne 7, 3) := by decide +kernel
theorem dX11_against_205 : decode cX11_against 205 = .ok (.iconst 1, 1) := by decide +kernel
theorem dX11_against_206 : decode cX11_against 206 = .ok (.goto 4, 3) := by decide +kernel
theorem dX11_against_209 : decode cX11_against 209 = .ok (.iconst 0, 1) := by decide +kernel
theorem dX11_against_210 : decode cX11_against 210 = .ok (.istore 6, 2) := by decide +kernel
theorem dX11_against_212 : decode cX11_against 212 = .ok (.iinc 7 1, 3) := by decide +kernel
theorem dX11_against_215 : decode cX11_against 215 = .ok (.goto (-51), 3) := by decide +kernel
theorem dX11_against_218 : decode cX11_against 218 = .ok (.iload 6, 2) := by decide +kernel
theorem dX11_against_220 : decode cX11_against 220 = .ok (.ifCond .eq 7, 3) := by decide +kernel
theorem dX11_against_223 : decode cX11_against 223 = .ok (.iload 5, 2) := by decide +kernel
theorem dX11_against_225 : decode cX11_against 225 = .ok (.istore 4, 2) := by decide +kernel
theorem dX11_against_227 : decode cX11_against 227 = .ok (.iinc 5 1, 3) := by decide +kernel
theorem dX11_against_230 : decode cX11_against 230 = .ok (.goto (-108), 3) := by decide +kernel
theorem dX11_against_233 : decode cX11_against 233 = .ok (.iload 4, 2) := by decide +kernel
theorem dX11_against_235 : decode cX11_against 235 = .ok (.ireturn, 1) := by decide +kernel
theorem dX11_help_0 : decode cX11_help 0 = .ok (.aload_n 0, 1) := by decide +kernel
theorem dX11_help_1 : decode cX11_help 1 = .ok (.iconst 0, 1) := by decide +kernel
theorem dX11_help_2 : decode cX11_help 2 = .ok (.putfield 159, 3) := by decide +kernel
theorem dX11_help_5 : decode cX11_help 5 = .ok (.aload_n 0, 1) := by decide +kernel
theorem dX11_help_6 : decode cX11_help 6 = .ok (.iload_n 1, 1) := by decide +kernel
theorem dX11_help_7 : decode cX11_help 7 = .ok (.invokevirtual 409, 3) := by decide +kernel
theorem dX11_help_10 : decode cX11_help 10 = .ok (.ifCond .ne 9, 3) := by decide +kernel
theorem dX11_help_13 : decode cX11_help 13 = .ok (.aload_n 0, 1) := by decide +kernel
theorem dX11_help_14 : decode cX11_help 14 = .ok (.iconst 1, 1) := by decide +kernel
theorem dX11_help_15 : decode cX11_help 15 = .ok (.invokevirtual 304, 3) := by decide +kernel
theorem dX11_help_18 : decode cX11_help 18 = .ok (.ireturn, 1) := by decide +kernel
theorem dX11_help_19 : decode cX11_help 19 = .ok (.aload_n 0, 1) := by decide +kernel
theorem dX11_help_20 : decode cX11_help 20 = .ok (.invokevirtual 399, 3) := by decide +kernel
theorem dX11_help_23 : decode cX11_help 23 = .ok (.istore_n 2, 1) := by decide +kernel
theorem dX11_help_24 : decode cX11_help 24 = .ok (.iconst 1, 1) := by decide +kernel
theorem dX11_help_25 : decode cX11_help 25 = .ok (.iload_n 1, 1) := by decide +kernel
theorem dX11_help_26 : decode cX11_help 26 = .ok (.ishl, 1) := by decide +kernel
theorem dX11_help_27 : decode cX11_help 27 = .ok (.istore_n 3, 1) := by decide +kernel
theorem dX11_help_28 : decode cX11_help 28 = .ok (.iconst 0, 1) := by decide +kernel
theorem dX11_help_29 : decode cX11_help 29 = .ok (.istore 4, 2) := by decide +kernel
theorem dX11_help_31 : decode cX11_help 31 = .ok (.iload 4, 2) := by decide +kernel
theorem dX11_help_33 : decode cX11_help 33 = .ok (.bipush 6, 2) := by decide +kernel
theorem dX11_help_35 : decode cX11_help 35 = .ok (.if_icmp .ge 82, 3) := by decide +kernel
theorem dX11_help_38 : decode cX11_help 38 = .ok (.iconst 0, 1) := by decide +kernel
theorem dX11_help_39 : decode cX11_help 39 = .ok (.istore 5, 2) := by decide +kernel
theorem dX11_help_41 : decode cX11_help 41 = .ok (.iload 5, 2) := by decide +kernel
theorem dX11_help_43 : decode cX11_help 43 = .ok (.aload_n 0, 1) := by decide +kernel
theorem dX11_help_44 : decode cX11_help 44 = .ok (.getfield 45, 3) := by decide +kernel
theorem dX11_help_47 : decode cX11_help 47 = .ok (.iconst 1, 1) := by decide +kernel
theorem dX11_help_48 : decode cX11_help 48 = .ok (.iaload, 1) := by decide +kernel
theorem dX11_help_49 : decode cX11_help 49 = .ok (.if_icmp .ge 62, 3) := by decide +kernel
theorem dX11_help_52 : decode cX11_help 52 = .ok (.iconst 1, 1) := by decide +kernel
theorem dX11_help_53 : decode cX11_help 53 = .ok (.aload_n 0, 1) := by decide +kernel
theorem dX11_help_54 : decode cX11_help 54 = .ok (.getfield 51, 3) := by decide +kernel
theorem dX11_help_57 : decode cX11_help 57 = .ok (.iload 5, 2) := by decide +kernel
theorem dX11_help_59 : decode cX11_help 59 = .ok (.iaload, 1) := by decide +kernel
theorem dX11_help_60 : decode cX11_help 60 = .ok (.ishl, 1) := by decide +kernel
theorem dX11_help_61 : decode cX11_help 61 = .ok (.iconst 1, 1) := by decide +kernel
theorem dX11_help_62 : decode cX11_help 62 = .ok (.aload_n 0, 1) := by decide +kernel
theorem dX11_help_63 : decode cX11_help 63 = .ok (.getfield 54, 3) := by decide +kernel
theorem dX11_help_66 : decode cX11_help 66 = .ok (.iload 5, 2) := by decide +kernel
theorem dX11_help_68 : decode cX11_help 68 = .ok (.iaload, 1) := by decide +kernel
theorem dX11_help_69 : decode cX11_help 69 = .ok (.ishl, 1) := by decide +kernel
theorem dX11_help_70 : decode cX11_help 70 = .ok (.ior, 1) := by decide +kernel
theorem dX11_help_71 : decode cX11_help 71 = .ok (.istore 6, 2) := by decide +kernel
theorem dX11_help_73 : decode cX11_help 73 = .ok (.iload_n 2, 1) := by decide +kernel
theorem dX11_help_74 : decode cX11_help 74 = .ok (.iload 5, 2) := by decide +kernel
theorem dX11_help_76 : decode cX11_help 76 = .ok (.invokestatic 357, 3) := by decide +kernel
theorem dX11_help_79 : decode cX11_help 79 = .ok (.ifCond .eq 26, 3) := by decide +kernel
theorem dX11_help_82 : decode cX11_help 82 = .ok (.aload_n 0, 1) := by decide +kernel
theorem dX11_help_83 : decode cX11_help 83 = .ok (.getfield 57, 3) := by decide +kernel
theorem dX11_help_86 : decode cX11_help 86 = .ok (.iload 5, 2) := by decide +kernel
theorem dX11_help_88 : decode cX11_help 88 = .ok (.iaload, 1) := by decide +kernel
theorem dX11_help_89 : decode cX11_help 89 = .ok (.iconst 3, 1) := by decide +kernel
theorem dX11_help_90 : decode cX11_help 90 = .ok (.if_icmp .ne 15, 3) := by decide +kernel
theorem dX11_help_93 : decode cX11_help 93 = .ok (.iload 6, 2) := by decide +kernel
theorem dX11_help_95 : decode cX11_help 95 = .ok (.iload_n 3, 1) := by decide +kernel
theorem dX11_help_96 : decode cX11_help 96 = .ok (.iand, 1) := by decide +kernel
theorem dX11_help_97 : decode cX11_help 97 = .ok (.ifCond .eq 8, 3) := by decide +kernel
theorem dX11_help_100 : decode cX11_help 100 = .ok (.iload_n 3, 1) := by decide +kernel
theorem dX11_help_101 : decode cX11_help 101 = .ok (.iload 6, 2) := by decide +kernel
theorem dX11_help_103 : decode cX11_help 103 = .ok (.ior, 1) := by decide +kernel
theorem dX11_help_104 : decode cX11_help 104 = .ok (.istore_n 3, 1) := by decide +kernel
theorem dX11_help_105 : decode cX11_help 105 = .ok (.iinc 5 1, 3) := by decide +kernel
theorem dX11_help_108 : decode cX11_help 108 = .ok (.goto (-67), 3) := by decide +kernel
theorem dX11_help_111 : decode cX11_help 111 = .ok (.iinc 4 1, 3) := by decide +kernel
theorem dX11_help_114 : decode cX11_help 114 = .ok (.goto (-83), 3) := by decide +kernel
theorem dX11_help_117 : decode cX11_help 117 = .ok (.iload_n 3, 1) := by decide +kernel
theorem dX11_help_118 : decode cX11_help 118 = .ok (.iconst 1, 1) := by decide +kernel
theorem dX11_help_119 : decode cX11_help 119 = .ok (.iload_n 1, 1) := by decide +kernel
theorem dX11_help_120 : decode cX11_help 120 = .ok (.ishl, 1) := by decide +kernel
theorem dX11_help_121 : decode cX11_help 121 = .ok (.iconst (-1), 1) := by decide +kernel
theorem dX11_help_122 : decode cX11_help 122 = .ok (.ixor, 1) := by decide +kernel
theorem dX11_help_123 : decode cX11_help 123 = .ok (.iand, 1) := by decide +kernel
theorem dX11_help_124 : decode cX11_help 124 = .ok (.ireturn, 1) := by decide +kernel
theorem dX11_fits_0 : decode cX11_fits 0 = .ok (.iload_n 1, 1) := by decide +kernel
theorem dX11_fits_1 : decode cX11_fits 1 = .ok (.aload_n 0, 1) := by decide +kernel
theorem dX11_fits_2 : decode cX11_fits 2 = .ok (.getfield 45, 3) := by decide +kernel
theorem dX11_fits_5 : decode cX11_fits 5 = .ok (.iconst 1, 1) := by decide +kernel
theorem dX11_fits_6 : decode cX11_fits 6 = .ok (.iaload, 1) := by decide +kernel
theorem dX11_fits_7 : decode cX11_fits 7 = .ok (.if_icmp .ne 5, 3) := by decide +kernel
theorem dX11_fits_10 : decode cX11_fits 10 = .ok (.iconst 1, 1) := by decide +kernel
theorem dX11_fits_11 : decode cX11_fits 11 = .ok (.ireturn, 1) := by decide +kernel
theorem dX11_fits_12 : decode cX11_fits 12 = .ok (.iconst 1, 1) := by decide +kernel
theorem dX11_fits_13 : decode cX11_fits 13 = .ok (.aload_n 0, 1) := by decide +kernel
theorem dX11_fits_14 : decode cX11_fits 14 = .ok (.getfield 51, 3) := by decide +kernel
theorem dX11_fits_17 : decode cX11_fits 17 = .ok (.iload_n 1, 1) := by decide +kernel
theorem dX11_fits_18 : decode cX11_fits 18 = .ok (.iaload, 1) := by decide +kernel
theorem dX11_fits_19 : decode cX11_fits 19 = .ok (.ishl, 1) := by decide +kernel
theorem dX11_fits_20 : decode cX11_fits 20 = .ok (.iconst 1, 1) := by decide +kernel
theorem dX11_fits_21 : decode cX11_fits 21 = .ok (.aload_n 0, 1) := by decide +kernel
theorem dX11_fits_22 : decode cX11_fits 22 = .ok (.getfield 54, 3) := by decide +kernel
theorem dX11_fits_25 : decode cX11_fits 25 = .ok (.iload_n 1, 1) := by decide +kernel
theorem dX11_fits_26 : decode cX11_fits 26 = .ok (.iaload, 1) := by decide +kernel
theorem dX11_fits_27 : decode cX11_fits 27 = .ok (.ishl, 1) := by decide +kernel
theorem dX11_fits_28 : decode cX11_fits 28 = .ok (.ior, 1) := by decide +kernel
theorem dX11_fits_29 : decode cX11_fits 29 = .ok (.istore_n 3, 1) := by decide +kernel
theorem dX11_fits_30 : decode cX11_fits 30 = .ok (.iconst 0, 1) := by decide +kernel
theorem dX11_fits_31 : decode cX11_fits 31 = .ok (.istore 4, 2) := by decide +kernel
theorem dX11_fits_33 : decode cX11_fits 33 = .ok (.iload 4, 2) := by decide +kernel
theorem dX11_fits_35 : decode cX11_fits 35 = .ok (.iload_n 2, 1) := by decide +kernel
theorem dX11_fits_36 : decode cX11_fits 36 = .ok (.if_icmp .ge 65, 3) := by decide +kernel
theorem dX11_fits_39 : decode cX11_fits 39 = .ok (.aload_n 0, 1) := by decide +kernel
theorem dX11_fits_40 : decode cX11_fits 40 = .ok (.getfield 114, 3) := by decide +kernel
theorem dX11_fits_43 : decode cX11_fits 43 = .ok (.iload 4, 2) := by decide +kernel
theorem dX11_fits_45 : decode cX11_fits 45 = .ok (.iaload, 1) := by decide +kernel
theorem dX11_fits_46 : decode cX11_fits 46 = .ok (.iload_n 3, 1) := by decide +kernel
theorem dX11_fits_47 : decode cX11_fits 47 = .ok (.iand, 1) := by decide +kernel
theorem dX11_fits_48 : decode cX11_fits 48 = .ok (.ifCond .eq 6, 3) := by decide +kernel
theorem dX11_fits_51 : decode cX11_fits 51 = .ok (.goto 44, 3) := by decide +kernel
theorem dX11_fits_54 : decode cX11_fits 54 = .ok (.aload_n 0, 1) := by decide +kernel
theorem dX11_fits_55 : decode cX11_fits 55 = .ok (.getfield 114, 3) := by decide +kernel
theorem dX11_fits_58 : decode cX11_fits 58 = .ok (.iload 4, 2) := by decide +kernel
theorem dX11_fits_60 : decode cX11_fits 60 = .ok (.dup2, 1) := by decide +kernel
theorem dX11_fits_61 : decode cX11_fits 61 = .ok (.iaload, 1) := by decide +kernel
theorem dX11_fits_62 : decode cX11_fits 62 = .ok (.iload_n 3, 1) := by decide +kernel
theorem dX11_fits_63 : decode cX11_fits 63 = .ok (.ior, 1) := by decide +kernel
theorem dX11_fits_64 : decode cX11_fits 64 = .ok (.iastore, 1) := by decide +kernel
theorem dX11_fits_65 : decode cX11_fits 65 = .ok (.aload_n 0, 1) := by decide +kernel
theorem dX11_fits_66 : decode cX11_fits 66 = .ok (.iload_n 1, 1) := by decide +kernel
theorem dX11_fits_67 : decode cX11_fits 67 = .ok (.iconst 1, 1) := by decide +kernel
theorem dX11_fits_68 : decode cX11_fits 68 = .ok (.iadd, 1) := by decide +kernel
theorem dX11_fits_69 : decode cX11_fits 69 = .ok (.iload_n 2, 1) := by decide +kernel
theorem dX11_fits_70 : decode cX11_fits 70 = .ok (.invokevirtual 475, 3) := by decide +kernel
theorem dX11_fits_73 : decode cX11_fits 73 = .ok (.istore 5, 2) := by decide +kernel
theorem dX11_fits_75 : decode cX11_fits 75 = .ok (.aload_n 0, 1) := by decide +kernel
theorem dX11_fits_76 : decode cX11_fits 76 = .ok (.getfield 114, 3) := by decide +kernel
theorem dX11_fits_79 : decode cX11_fits 79 = .ok (.iload 4, 2) := by decide +kernel
theorem dX11_fits_81 : decode cX11_fits 81 = .ok (.dup2, 1) := by decide +kernel
theorem dX11_fits_82 : decode cX11_fits 82 = .ok (.iaload, 1) := by decide +kernel
theorem dX11_fits_83 : decode cX11_fits 83 = .ok (.iload_n 3, 1) := by decide +kernel
theorem dX11_fits_84 : decode cX11_fits 84 = .ok (.iconst (-1), 1) := by decide +kernel
theorem dX11_fits_85 : decode cX11_fits 85 = .ok (.ixor, 1) := by decide +kernel
theorem dX11_fits_86 : decode cX11_fits 86 = .ok (.iand, 1) := by decide +kernel
theorem dX11_fits_87 : decode cX11_fits 87 = .ok (.iastore, 1) := by decide +kernel
theorem dX11_fits_88 : decode cX11_fits 88 = .ok (.iload 5, 2) := by decide +kernel
theorem dX11_fits_90 : decode cX11_fits 90 = .ok (.ifCond .eq 5, 3) := by decide +kernel
theorem dX11_fits_93 : decode cX11_fits 93 = .ok (.iconst 1, 1) := by decide +kernel
theorem dX11_fits_94 : decode cX11_fits 94 = .ok (.ireturn, 1) := by decide +kernel
theorem dX11_fits_95 : decode cX11_fits 95 = .ok (.iinc 4 1, 3) := by decide +kernel
theorem dX11_fits_98 : decode cX11_fits 98 = .ok (.goto (-65), 3) := by decide +kernel
theorem dX11_fits_101 : decode cX11_fits 101 = .ok (.iconst 0, 1) := by decide +kernel
theorem dX11_fits_102 : decode cX11_fits 102 = .ok (.ireturn, 1) := by decide +kernel
theorem dX11_areAtOnce_0 : decode cX11_areAtOnce 0 = .ok (.iconst 0, 1) := by decide +kernel
theorem dX11_areAtOnce_1 : decode cX11_areAtOnce 1 = .ok (.istore_n 2, 1) := by decide +kernel
theorem dX11_areAtOnce_2 : decode cX11_areAtOnce 2 = .ok (.iconst 0, 1) := by decide +kernel
theorem dX11_areAtOnce_3 : decode cX11_areAtOnce 3 = .ok (.istore_n 3, 1) := by decide +kernel
theorem dX11_areAtOnce_4 : decode cX11_areAtOnce 4 = .ok (.iload_n 3, 1) := by decide +kernel
theorem dX11_areAtOnce_5 : decode cX11_areAtOnce 5 = .ok (.aload_n 0, 1) := by decide +kernel
theorem dX11_areAtOnce_6 : decode cX11_areAtOnce 6 = .ok (.getfield 45, 3) := by decide +kernel
theorem dX11_areAtOnce_9 : decode cX11_areAtOnce 9 = .ok (.iconst 1, 1) := by decide +kernel
theorem dX11_areAtOnce_10 : decode cX11_areAtOnce 10 = .ok (.iaload, 1) := by decide +kernel
theorem dX11_areAtOnce_11 : decode cX11_areAtOnce 11 = .ok (.if_icmp .ge 53, 3) := by decide +kernel
theorem dX11_areAtOnce_14 : decode cX11_areAtOnce 14 = .ok (.iload_n 1, 1) := by decide +kernel
theorem dX11_areAtOnce_15 : decode cX11_areAtOnce 15 = .ok (.iload_n 3, 1) := by decide +kernel
theorem dX11_areAtOnce_16 : decode cX11_areAtOnce 16 = .ok (.invokestatic 357, 3) := by decide +kernel
theorem dX11_areAtOnce_19 : decode cX11_areAtOnce 19 = .ok (.ifCond .ne 6, 3) := by decide +kernel
theorem dX11_areAtOnce_22 : decode cX11_areAtOnce 22 = .ok (.goto 36, 3) := by decide +kernel
theorem dX11_areAtOnce_25 : decode cX11_areAtOnce 25 = .ok (.iconst 1, 1) := by decide +kernel
theorem dX11_areAtOnce_26 : decode cX11_areAtOnce 26 = .ok (.aload_n 0, 1) := by decide +kernel
theorem dX11_areAtOnce_27 : decode cX11_areAtOnce 27 = .ok (.getfield 51, 3) := by decide +kernel
theorem dX11_areAtOnce_30 : decode cX11_areAtOnce 30 = .ok (.iload_n 3, 1) := by decide +kernel
theorem dX11_areAtOnce_31 : decode cX11_areAtOnce 31 = .ok (.iaload, 1) := by decide +kernel
theorem dX11_areAtOnce_32 : decode cX11_areAtOnce 32 = .ok (.ishl, 1) := by decide +kernel
theorem dX11_areAtOnce_33 : decode cX11_areAtOnce 33 = .ok (.iconst 1, 1) := by decide +kernel
theorem dX11_areAtOnce_34 : decode cX11_areAtOnce 34 = .ok (.aload_n 0, 1) := by decide +kernel
theorem dX11_areAtOnce_35 : decode cX11_areAtOnce 35 = .ok (.getfield 54, 3) := by decide +kernel
theorem dX11_areAtOnce_38 : decode cX11_areAtOnce 38 = .ok (.iload_n 3, 1) := by decide +kernel
theorem dX11_areAtOnce_39 : decode cX11_areAtOnce 39 = .ok (.iaload, 1) := by decide +kernel
theorem dX11_areAtOnce_40 : decode cX11_areAtOnce 40 = .ok (.ishl, 1) := by decide +kernel
theorem dX11_areAtOnce_41 : decode cX11_areAtOnce 41 = .ok (.ior, 1) := by decide +kernel
theorem dX11_areAtOnce_42 : decode cX11_areAtOnce 42 = .ok (.istore 4, 2) := by decide +kernel
theorem dX11_areAtOnce_44 : decode cX11_areAtOnce 44 = .ok (.iload_n 2, 1) := by decide +kernel
theorem dX11_areAtOnce_45 : decode cX11_areAtOnce 45 = .ok (.iload 4, 2) := by decide +kernel
theorem dX11_areAtOnce_47 : decode cX11_areAtOnce 47 = .ok (.iand, 1) := by decide +kernel
theorem dX11_areAtOnce_48 : decode cX11_areAtOnce 48 = .ok (.ifCond .eq 5, 3) := by decide +kernel
theorem dX11_areAtOnce_51 : decode cX11_areAtOnce 51 = .ok (.iconst 0, 1) := by decide +kernel
theorem dX11_areAtOnce_52 : decode cX11_areAtOnce 52 = .ok (.ireturn, 1) := by decide +kernel
theorem dX11_areAtOnce_53 : decode cX11_areAtOnce 53 = .ok (.iload_n 2, 1) := by decide +kernel
theorem dX11_areAtOnce_54 : decode cX11_areAtOnce 54 = .ok (.iload 4, 2) := by decide +kernel
theorem dX11_areAtOnce_56 : decode cX11_areAtOnce 56 = .ok (.ior, 1) := by decide +kernel
theorem dX11_areAtOnce_57 : decode cX11_areAtOnce 57 = .ok (.istore_n 2, 1) := by decide +kernel
theorem dX11_areAtOnce_58 : decode cX11_areAtOnce 58 = .ok (.iinc 3 1, 3) := by decide +kernel
theorem dX11_areAtOnce_61 : decode cX11_areAtOnce 61 = .ok (.goto (-57), 3) := by decide +kernel
theorem dX11_areAtOnce_64 : decode cX11_areAtOnce 64 = .ok (.iconst 1, 1) := by decide +kernel
theorem dX11_areAtOnce_65 : decode cX11_areAtOnce 65 = .ok (.ireturn, 1) := by decide +kernel
theorem dX11_evenings_0 : decode cX11_evenings 0 = .ok (.aload_n 0, 1) := by decide +kernel
theorem dX11_evenings_1 : decode cX11_evenings 1 = .ok (.iconst 0, 1) := by decide +kernel
theorem dX11_evenings_2 : decode cX11_evenings 2 = .ok (.putfield 159, 3) := by decide +kernel
theorem dX11_evenings_5 : decode cX11_evenings 5 = .ok (.iload_n 1, 1) := by decide +kernel
theorem dX11_evenings_6 : decode cX11_evenings 6 = .ok (.i2l, 1) := by decide +kernel
theorem dX11_evenings_7 : decode cX11_evenings 7 = .ok (.lconst 0, 1) := by decide +kernel
theorem dX11_evenings_8 : decode cX11_evenings 8 = .ok (.ldc2_w 419, 3) := by decide +kernel
theorem dX11_evenings_11 : decode cX11_evenings 11 = .ok (.invokestatic 162, 3) := by decide +kernel
theorem dX11_evenings_14 : decode cX11_evenings 14 = .ok (.ifCond .ne 9, 3) := by decide +kernel
theorem dX11_evenings_17 : decode cX11_evenings 17 = .ok (.aload_n 0, 1) := by decide +kernel
theorem dX11_evenings_18 : decode cX11_evenings 18 = .ok (.iconst 1, 1) := by decide +kernel
theorem dX11_evenings_19 : decode cX11_evenings 19 = .ok (.invokevirtual 304, 3) := by decide +kernel
theorem dX11_evenings_22 : decode cX11_evenings 22 = .ok (.ireturn, 1) := by decide +kernel
theorem dX11_evenings_23 : decode cX11_evenings 23 = .ok (.iload_n 1, 1) := by decide +kernel
theorem dX11_evenings_24 : decode cX11_evenings 24 = .ok (.ifCond .ne 22, 3) := by decide +kernel
theorem dX11_evenings_27 : decode cX11_evenings 27 = .ok (.iconst 0, 1) := by decide +kernel
theorem dX11_evenings_28 : decode cX11_evenings 28 = .ok (.istore_n 2, 1) := by decide +kernel
theorem dX11_evenings_29 : decode cX11_evenings 29 = .ok (.aload_n 0, 1) := by decide +kernel
theorem dX11_evenings_30 : decode cX11_evenings 30 = .ok (.iconst 0, 1) := by decide +kernel
theorem dX11_evenings_31 : decode cX11_evenings 31 = .ok (.iload_n 2, 1) := by decide +kernel
theorem dX11_evenings_32 : decode cX11_evenings 32 = .ok (.invokevirtual 475, 3) := by decide +kernel
theorem dX11_evenings_35 : decode cX11_evenings 35 = .ok (.ifCond .ne 9, 3) := by decide +kernel
theorem dX11_evenings_38 : decode cX11_evenings 38 = .ok (.iinc 2 1, 3) := by decide +kernel
theorem dX11_evenings_41 : decode cX11_evenings 41 = .ok (.goto (-12), 3) := by decide +kernel
theorem dX11_evenings_44 : decode cX11_evenings 44 = .ok (.iload_n 2, 1) := by decide +kernel
theorem dX11_evenings_45 : decode cX11_evenings 45 = .ok (.ireturn, 1) := by decide +kernel
theorem dX11_evenings_46 : decode cX11_evenings 46 = .ok (.iconst 0, 1) := by decide +kernel
theorem dX11_evenings_47 : decode cX11_evenings 47 = .ok (.istore_n 2, 1) := by decide +kernel
theorem dX11_evenings_48 : decode cX11_evenings 48 = .ok (.iconst 0, 1) := by decide +kernel
theorem dX11_evenings_49 : decode cX11_evenings 49 = .ok (.istore_n 3, 1) := by decide +kernel
theorem dX11_evenings_50 : decode cX11_evenings 50 = .ok (.iload_n 3, 1) := by decide +kernel
theorem dX11_evenings_51 : decode cX11_evenings 51 = .ok (.iconst 1, 1) := by decide +kernel
theorem dX11_evenings_52 : decode cX11_evenings 52 = .ok (.aload_n 0, 1) := by decide +kernel
theorem dX11_evenings_53 : decode cX11_evenings 53 = .ok (.getfield 45, 3) := by decide +kernel
theorem dX11_evenings_56 : decode cX11_evenings 56 = .ok (.iconst 1, 1) := by decide +kernel
theorem dX11_evenings_57 : decode cX11_evenings 57 = .ok (.iaload, 1) := by decide +kernel
theorem dX11_evenings_58 : decode cX11_evenings 58 = .ok (.ishl, 1) := by decide +kernel
theorem dX11_evenings_59 : decode cX11_evenings 59 = .ok (.if_icmp .ge 30, 3) := by decide +kernel
theorem dX11_evenings_62 : decode cX11_evenings 62 = .ok (.iload_n 3, 1) := by decide +kernel
theorem dX11_evenings_63 : decode cX11_evenings 63 = .ok (.invokestatic 464, 3) := by decide +kernel
theorem dX11_evenings_66 : decode cX11_evenings 66 = .ok (.iload_n 2, 1) := by decide +kernel
theorem dX11_evenings_67 : decode cX11_evenings 67 = .ok (.invokestatic 464, 3) := by decide +kernel
theorem dX11_evenings_70 : decode cX11_evenings 70 = .ok (.if_icmp .le 13, 3) := by decide +kernel
theorem dX11_evenings_73 : decode cX11_evenings 73 = .ok (.aload_n 0, 1) := by decide +kernel
theorem dX11_evenings_74 : decode cX11_evenings 74 = .ok (.iload_n 3, 1) := by decide +kernel
theorem dX11_evenings_75 : decode cX11_evenings 75 = .ok (.invokevirtual 478, 3) := by decide +kernel
theorem dX11_evenings_78 : decode cX11_evenings 78 = .ok (.ifCond .eq 5, 3) := by decide +kernel
theorem dX11_evenings_81 : decode cX11_evenings 81 = .ok (.iload_n 3, 1) := by decide +kernel
theorem dX11_evenings_82 : decode cX11_evenings 82 = .ok (.istore_n 2, 1) := by decide +kernel
theorem dX11_evenings_83 : decode cX11_evenings 83 = .ok (.iinc 3 1, 3) := by decide +kernel
theorem dX11_evenings_86 : decode cX11_evenings 86 = .ok (.goto (-36), 3) := by decide +kernel
theorem dX11_evenings_89 : decode cX11_evenings 89 = .ok (.iload_n 1, 1) := by decide +kernel
theorem dX11_evenings_90 : decode cX11_evenings 90 = .ok (.iconst 1, 1) := by decide +kernel
theorem dX11_evenings_91 : decode cX11_evenings 91 = .ok (.if_icmp .ne 10, 3) := by decide +kernel
theorem dX11_evenings_94 : decode cX11_evenings 94 = .ok (.iload_n 2, 1) := by decide +kernel
theorem dX11_evenings_95 : decode cX11_evenings 95 = .ok (.invokestatic 464, 3) := by decide +kernel
theorem dX11_evenings_98 : decode cX11_evenings 98 = .ok (.goto 4, 3) := by decide +kernel
theorem dX11_evenings_101 : decode cX11_evenings 101 = .ok (.iload_n 2, 1) := by decide +kernel
theorem dX11_evenings_102 : decode cX11_evenings 102 = .ok (.ireturn, 1) := by decide +kernel
theorem dX11_see_0 : decode cX11_see 0 = .ok (.aload_n 0, 1) := by decide +kernel
theorem dX11_see_1 : decode cX11_see 1 = .ok (.iconst 0, 1) := by decide +kernel
theorem dX11_see_2 : decode cX11_see 2 = .ok (.putfield 159, 3) := by decide +kernel
theorem dX11_see_5 : decode cX11_see 5 = .ok (.aload_n 0, 1) := by decide +kernel
theorem dX11_see_6 : decode cX11_see 6 = .ok (.iload_n 1, 1) := by decide +kernel
theorem dX11_see_7 : decode cX11_see 7 = .ok (.iload_n 2, 1) := by decide +kernel
theorem dX11_see_8 : decode cX11_see 8 = .ok (.invokevirtual 412, 3) := by decide +kernel
theorem dX11_see_11 : decode cX11_see 11 = .ok (.ifCond .ne 9, 3) := by decide +kernel
theorem dX11_see_14 : decode cX11_see 14 = .ok (.aload_n 0, 1) := by decide +kernel
theorem dX11_see_15 : decode cX11_see 15 = .ok (.iconst 1, 1) := by decide +kernel
theorem dX11_see_16 : decode cX11_see 16 = .ok (.invokevirtual 304, 3) := by decide +kernel
theorem dX11_see_19 : decode cX11_see 19 = .ok (.ireturn, 1) := by decide +kernel
theorem dX11_see_20 : decode cX11_see 20 = .ok (.aload_n 0, 1) := by decide +kernel
theorem dX11_see_21 : decode cX11_see 21 = .ok (.getfield 326, 3) := by decide +kernel
theorem dX11_see_24 : decode cX11_see 24 = .ok (.bipush 8, 2) := by decide +kernel
theorem dX11_see_26 : decode cX11_see 26 = .ok (.if_icmp .eq 30, 3) := by decide +kernel
theorem dX11_see_29 : decode cX11_see 29 = .ok (.iload_n 3, 1) := by decide +kernel
theorem dX11_see_30 : decode cX11_see 30 = .ok (.ifCond .lt 26, 3) := by decide +kernel
theorem dX11_see_33 : decode cX11_see 33 = .ok (.iload_n 3, 1) := by decide +kernel
theorem dX11_see_34 : decode cX11_see 34 = .ok (.iconst 1, 1) := by decide +kernel
theorem dX11_see_35 : decode cX11_see 35 = .ok (.if_icmp .gt 21, 3) := by decide +kernel
theorem dX11_see_38 : decode cX11_see 38 = .ok (.aload_n 0, 1) := by decide +kernel
theorem dX11_see_39 : decode cX11_see 39 = .ok (.iload 4, 2) := by decide +kernel
theorem dX11_see_41 : decode cX11_see 41 = .ok (.invokevirtual 336, 3) := by decide +kernel
theorem dX11_see_44 : decode cX11_see 44 = .ok (.ifCond .eq 12, 3) := by decide +kernel
theorem dX11_see_47 : decode cX11_see 47 = .ok (.aload_n 0, 1) := by decide +kernel
theorem dX11_see_48 : decode cX11_see 48 = .ok (.iload 5, 2) := by decide +kernel
theorem dX11_see_50 : decode cX11_see 50 = .ok (.invokevirtual 336, 3) := by decide +kernel
theorem dX11_see_53 : decode cX11_see 53 = .ok (.ifCond .ne 9, 3) := by decide +kernel
theorem dX11_see_56 : decode cX11_see 56 = .ok (.aload_n 0, 1) := by decide +kernel
theorem dX11_see_57 : decode cX11_see 57 = .ok (.iconst 2, 1) := by decide +kernel
theorem dX11_see_58 : decode cX11_see 58 = .ok (.invokevirtual 433, 3) := by decide +kernel
theorem dX11_see_61 : decode cX11_see 61 = .ok (.ireturn, 1) := by decide +kernel
theorem dX11_see_62 : decode cX11_see 62 = .ok (.aload_n 0, 1) := by decide +kernel
theorem dX11_see_63 : decode cX11_see 63 = .ok (.getfield 117, 3) := by decide +kernel
theorem dX11_see_66 : decode cX11_see 66 = .ok (.aload_n 0, 1) := by decide +kernel
theorem dX11_see_67 : decode cX11_see 67 = .ok (.getfield 326, 3) := by decide +kernel
theorem dX11_see_70 : decode cX11_see 70 = .ok (.iload_n 1, 1) := by decide +kernel
theorem dX11_see_71 : decode cX11_see 71 = .ok (.iastore, 1) := by decide +kernel
theorem dX11_see_72 : decode cX11_see 72 = .ok (.aload_n 0, 1) := by decide +kernel
theorem dX11_see_73 : decode cX11_see 73 = .ok (.getfield 120, 3) := by decide +kernel
theorem dX11_see_76 : decode cX11_see 76 = .ok (.aload_n 0, 1) := by decide +kernel
theorem dX11_see_77 : decode cX11_see 77 = .ok (.getfield 326, 3) := by decide +kernel
theorem dX11_see_80 : decode cX11_see 80 = .ok (.iload_n 2, 1) := by decide +kernel
theorem dX11_see_81 : decode cX11_see 81 = .ok (.iastore, 1) := by decide +kernel
theorem dX11_see_82 : decode cX11_see 82 = .ok (.aload_n 0, 1) := by decide +kernel
theorem dX11_see_83 : decode cX11_see 83 = .ok (.getfield 123, 3) := by decide +kernel
theorem dX11_see_86 : decode cX11_see 86 = .ok (.aload_n 0, 1) := by decide +kernel
theorem dX11_see_87 : decode cX11_see 87 = .ok (.getfield 326, 3) := by decide +kernel
theorem dX11_see_90 : decode cX11_see 90 = .ok (.iload_n 3, 1) := by decide +kernel
theorem dX11_see_91 : decode cX11_see 91 = .ok (.iastore, 1) := by decide +kernel
theorem dX11_see_92 : decode cX11_see 92 = .ok (.aload_n 0, 1) := by decide +kernel
theorem dX11_see_93 : decode cX11_see 93 = .ok (.getfield 126, 3) := by decide +kernel
theorem dX11_see_96 : decode cX11_see 96 = .ok (.aload_n 0, 1) := by decide +kernel
theorem dX11_see_97 : decode cX11_see 97 = .ok (.getfield 326, 3) := by decide +kernel
theorem dX11_see_100 : decode cX11_see 100 = .ok (.iload 4, 2) := by decide +kernel
theorem dX11_see_102 : decode cX11_see 102 = .ok (.iastore, 1) := by decide +kernel
theorem dX11_see_103 : decode cX11_see 103 = .ok (.aload_n 0, 1) := by decide +kernel
theorem dX11_see_104 : decode cX11_see 104 = .ok (.getfield 129, 3) := by decide +kernel
theorem dX11_see_107 : decode cX11_see 107 = .ok (.aload_n 0, 1) := by decide +kernel
theorem dX11_see_108 : decode cX11_see 108 = .ok (.getfield 326, 3) := by decide +kernel
theorem dX11_see_111 : decode cX11_see 111 = .ok (.iload 5, 2) := by decide +kernel
theorem dX11_see_113 : decode cX11_see 113 = .ok (.iastore, 1) := by decide +kernel
theorem dX11_see_114 : decode cX11_see 114 = .ok (.aload_n 0, 1) := by decide +kernel
theorem dX11_see_115 : decode cX11_see 115 = .ok (.dup, 1) := by decide +kernel
theorem dX11_see_116 : decode cX11_see 116 = .ok (.getfield 326, 3) := by decide +kernel
theorem dX11_see_119 : decode cX11_see 119 = .ok (.iconst 1, 1) := by decide +kernel
theorem dX11_see_120 : decode cX11_see 120 = .ok (.iadd, 1) := by decide +kernel
theorem dX11_see_121 : decode cX11_see 121 = .ok (.putfield 326, 3) := by decide +kernel
theorem dX11_see_124 : decode cX11_see 124 = .ok (.aload_n 0, 1) := by decide +kernel
theorem dX11_see_125 : decode cX11_see 125 = .ok (.getfield 326, 3) := by decide +kernel
theorem dX11_see_128 : decode cX11_see 128 = .ok (.ireturn, 1) := by decide +kernel
theorem dX11_isAsSeen_0 : decode cX11_isAsSeen 0 = .ok (.iconst 0, 1) := by decide +kernel
theorem dX11_isAsSeen_1 : decode cX11_isAsSeen 1 = .ok (.istore_n 2, 1) := by decide +kernel
theorem dX11_isAsSeen_2 : decode cX11_isAsSeen 2 = .ok (.iload_n 2, 1) := by decide +kernel
theorem dX11_isAsSeen_3 : decode cX11_isAsSeen 3 = .ok (.aload_n 0, 1) := by decide +kernel
theorem dX11_isAsSeen_4 : decode cX11_isAsSeen 4 = .ok (.getfield 326, 3) := by decide +kernel
theorem dX11_isAsSeen_7 : decode cX11_isAsSeen 7 = .ok (.if_icmp .ge 83, 3) := by decide +kernel
theorem dX11_isAsSeen_10 : decode cX11_isAsSeen 10 = .ok (.aload_n 0, 1) := by decide +kernel
theorem dX11_isAsSeen_11 : decode cX11_isAsSeen 11 = .ok (.getfield 117, 3) := by decide +kernel
theorem dX11_isAsSeen_14 : decode cX11_isAsSeen 14 = .ok (.iload_n 2, 1) := by decide +kernel
theorem dX11_isAsSeen_15 : decode cX11_isAsSeen 15 = .ok (.iaload, 1) := by decide +kernel
theorem dX11_isAsSeen_16 : decode cX11_isAsSeen 16 = .ok (.iload_n 1, 1) := by decide +kernel
theorem dX11_isAsSeen_17 : decode cX11_isAsSeen 17 = .ok (.if_icmp .eq 6, 3) := by decide +kernel
theorem dX11_isAsSeen_20 : decode cX11_isAsSeen 20 = .ok (.goto 64, 3) := by decide +kernel
theorem dX11_isAsSeen_23 : decode cX11_isAsSeen 23 = .ok (.aload_n 0, 1) := by decide +kernel
theorem dX11_isAsSeen_24 : decode cX11_isAsSeen 24 = .ok (.getfield 120, 3) := by decide +kernel
theorem dX11_isAsSeen_27 : decode cX11_isAsSeen 27 = .ok (.iload_n 2, 1) := by decide +kernel
theorem dX11_isAsSeen_28 : decode cX11_isAsSeen 28 = .ok (.iaload, 1) := by decide +kernel
theorem dX11_isAsSeen_29 : decode cX11_isAsSeen 29 = .ok (.iconst 1, 1) := by decide +kernel
theorem dX11_isAsSeen_30 : decode cX11_isAsSeen 30 = .ok (.iadd, 1) := by decide +kernel
theorem dX11_isAsSeen_31 : decode cX11_isAsSeen 31 = .ok (.istore_n 3, 1) := by decide +kernel
theorem dX11_isAsSeen_32 : decode cX11_isAsSeen 32 = .ok (.aload_n 0, 1) := by decide +kernel
theorem dX11_isAsSeen_33 : decode cX11_isAsSeen 33 = .ok (.iload_n 1, 1) := by decide +kernel
theorem dX11_isAsSeen_34 : decode cX11_isAsSeen 34 = .ok (.iload_n 3, 1) := by decide +kernel
theorem dX11_isAsSeen_35 : decode cX11_isAsSeen 35 = .ok (.invokevirtual 351, 3) := by decide +kernel
theorem dX11_isAsSeen_38 : decode cX11_isAsSeen 38 = .ok (.iload_n 3, 1) := by decide +kernel
theorem dX11_isAsSeen_39 : decode cX11_isAsSeen 39 = .ok (.if_icmp .ne 43, 3) := by decide +kernel
theorem dX11_isAsSeen_42 : decode cX11_isAsSeen 42 = .ok (.aload_n 0, 1) := by decide +kernel
theorem dX11_isAsSeen_43 : decode cX11_isAsSeen 43 = .ok (.getfield 96, 3) := by decide +kernel
theorem dX11_isAsSeen_46 : decode cX11_isAsSeen 46 = .ok (.aload_n 0, 1) := by decide +kernel
theorem dX11_isAsSeen_47 : decode cX11_isAsSeen 47 = .ok (.getfield 123, 3) := by decide +kernel
theorem dX11_isAsSeen_50 : decode cX11_isAsSeen 50 = .ok (.iload_n 2, 1) := by decide +kernel
theorem dX11_isAsSeen_51 : decode cX11_isAsSeen 51 = .ok (.iaload, 1) := by decide +kernel
theorem dX11_isAsSeen_52 : decode cX11_isAsSeen 52 = .ok (.iaload, 1) := by decide +kernel
theorem dX11_isAsSeen_53 : decode cX11_isAsSeen 53 = .ok (.aload_n 0, 1) := by decide +kernel
theorem dX11_isAsSeen_54 : decode cX11_isAsSeen 54 = .ok (.getfield 126, 3) := by decide +kernel
theorem dX11_isAsSeen_57 : decode cX11_isAsSeen 57 = .ok (.iload_n 2, 1) := by decide +kernel
theorem dX11_isAsSeen_58 : decode cX11_isAsSeen 58 = .ok (.iaload, 1) := by decide +kernel
theorem dX11_isAsSeen_59 : decode cX11_isAsSeen 59 = .ok (.if_icmp .ne 23, 3) := by decide +kernel
theorem dX11_isAsSeen_62 : decode cX11_isAsSeen 62 = .ok (.aload_n 0, 1) := by decide +kernel
theorem dX11_isAsSeen_63 : decode cX11_isAsSeen 63 = .ok (.getfield 99, 3) := by decide +kernel
theorem dX11_isAsSeen_66 : decode cX11_isAsSeen 66 = .ok (.aload_n 0, 1) := by decide +kernel
theorem dX11_isAsSeen_67 : decode cX11_isAsSeen 67 = .ok (.getfield 123, 3) := by decide +kernel
theorem dX11_isAsSeen_70 : decode cX11_isAsSeen 70 = .ok (.iload_n 2, 1) := by decide +kernel
theorem dX11_isAsSeen_71 : decode cX11_isAsSeen 71 = .ok (.iaload, 1) := by decide +kernel
theorem dX11_isAsSeen_72 : decode cX11_isAsSeen 72 = .ok (.iaload, 1) := by decide +kernel
theorem dX11_isAsSeen_73 : decode cX11_isAsSeen 73 = .ok (.aload_n 0, 1) := by decide +kernel
theorem dX11_isAsSeen_74 : decode cX11_isAsSeen 74 = .ok (.getfield 129, 3) := by decide +kernel
theorem dX11_isAsSeen_77 : decode cX11_isAsSeen 77 = .ok (.iload_n 2, 1) := by decide +kernel
theorem dX11_isAsSeen_78 : decode cX11_isAsSeen 78 = .ok (.iaload, 1) := by decide +kernel
theorem dX11_isAsSeen_79 : decode cX11_isAsSeen 79 = .ok (.if_icmp .eq 5, 3) := by decide +kernel
theorem dX11_isAsSeen_82 : decode cX11_isAsSeen 82 = .ok (.iconst 0, 1) := by decide +kernel
theorem dX11_isAsSeen_83 : decode cX11_isAsSeen 83 = .ok (.ireturn, 1) := by decide +kernel
theorem dX11_isAsSeen_84 : decode cX11_isAsSeen 84 = .ok (.iinc 2 1, 3) := by decide +kernel
theorem dX11_isAsSeen_87 : decode cX11_isAsSeen 87 = .ok (.goto (-85), 3) := by decide +kernel
theorem dX11_isAsSeen_90 : decode cX11_isAsSeen 90 = .ok (.iconst 1, 1) := by decide +kernel
theorem dX11_isAsSeen_91 : decode cX11_isAsSeen 91 = .ok (.ireturn, 1) := by decide +kernel
theorem dX11_limp_0 : decode cX11_limp 0 = .ok (.aload_n 0, 1) := by decide +kernel
theorem dX11_limp_1 : decode cX11_limp 1 = .ok (.iconst 0, 1) := by decide +kernel
theorem dX11_limp_2 : decode cX11_limp 2 = .ok (.putfield 159, 3) := by decide +kernel
theorem dX11_limp_5 : decode cX11_limp 5 = .ok (.aload_n 0, 1) := by decide +kernel
theorem dX11_limp_6 : decode cX11_limp 6 = .ok (.iload_n 1, 1) := by decide +kernel
theorem dX11_limp_7 : decode cX11_limp 7 = .ok (.invokevirtual 166, 3) := by decide +kernel
theorem dX11_limp_10 : decode cX11_limp 10 = .ok (.ifCond .eq 15, 3) := by decide +kernel
theorem dX11_limp_13 : decode cX11_limp 13 = .ok (.iload_n 2, 1) := by decide +kernel
theorem dX11_limp_14 : decode cX11_limp 14 = .ok (.i2l, 1) := by decide +kernel
theorem dX11_limp_15 : decode cX11_limp 15 = .ok (.lconst 0, 1) := by decide +kernel
theorem dX11_limp_16 : decode cX11_limp 16 = .ok (.ldc2_w 419, 3) := by decide +kernel
theorem dX11_limp_19 : decode cX11_limp 19 = .ok (.invokestatic 162, 3) := by decide +kernel
theorem dX11_limp_22 : decode cX11_limp 22 = .ok (.ifCond .ne 9, 3) := by decide +kernel
theorem dX11_limp_25 : decode cX11_limp 25 = .ok (.aload_n 0, 1) := by decide +kernel
theorem dX11_limp_26 : decode cX11_limp 26 = .ok (.iconst 1, 1) := by decide +kernel
theorem dX11_limp_27 : decode cX11_limp 27 = .ok (.invokevirtual 304, 3) := by decide +kernel
theorem dX11_limp_30 : decode cX11_limp 30 = .ok (.ireturn, 1) := by decide +kernel
theorem dX11_limp_31 : decode cX11_limp 31 = .ok (.iload_n 2, 1) := by decide +kernel
theorem dX11_limp_32 : decode cX11_limp 32 = .ok (.iconst 2, 1) := by decide +kernel
theorem dX11_limp_33 : decode cX11_limp 33 = .ok (.if_icmp .ne 17, 3) := by decide +kernel
theorem dX11_limp_36 : decode cX11_limp 36 = .ok (.aload_n 0, 1) := by decide +kernel
theorem dX11_limp_37 : decode cX11_limp 37 = .ok (.iload_n 1, 1) := by decide +kernel
theorem dX11_limp_38 : decode cX11_limp 38 = .ok (.invokevirtual 481, 3) := by decide +kernel
theorem dX11_limp_41 : decode cX11_limp 41 = .ok (.ifCond .eq 7, 3) := by decide +kernel
theorem dX11_limp_44 : decode cX11_limp 44 = .ok (.iconst 1, 1) := by decide +kernel
theorem dX11_limp_45 : decode cX11_limp 45 = .ok (.goto 4, 3) := by decide +kernel
theorem dX11_limp_48 : decode cX11_limp 48 = .ok (.iconst 0, 1) := by decide +kernel
theorem dX11_limp_49 : decode cX11_limp 49 = .ok (.ireturn, 1) := by decide +kernel
theorem dX11_limp_50 : decode cX11_limp 50 = .ok (.iconst 0, 1) := by decide +kernel
theorem dX11_limp_51 : decode cX11_limp 51 = .ok (.istore_n 3, 1) := by decide +kernel
theorem dX11_limp_52 : decode cX11_limp 52 = .ok (.iconst (-1), 1) := by decide +kernel
theorem dX11_limp_53 : decode cX11_limp 53 = .ok (.istore 4, 2) := by decide +kernel
theorem dX11_limp_55 : decode cX11_limp 55 = .ok (.iconst 0, 1) := by decide +kernel
theorem dX11_limp_56 : decode cX11_limp 56 = .ok (.istore 5, 2) := by decide +kernel
theorem dX11_limp_58 : decode cX11_limp 58 = .ok (.iload 5, 2) := by decide +kernel
theorem dX11_limp_60 : decode cX11_limp 60 = .ok (.aload_n 0, 1) := by decide +kernel
theorem dX11_limp_61 : decode cX11_limp 61 = .ok (.getfield 59, 3) := by decide +kernel
theorem dX11_limp_64 : decode cX11_limp 64 = .ok (.iload_n 1, 1) := by decide +kernel
theorem dX11_limp_65 : decode cX11_limp 65 = .ok (.iaload, 1) := by decide +kernel
theorem dX11_limp_66 : decode cX11_limp 66 = .ok (.if_icmp .ge 113, 3) := by decide +kernel
theorem dX11_limp_69 : decode cX11_limp 69 = .ok (.bipush 10, 2) := by decide +kernel
theorem dX11_limp_71 : decode cX11_limp 71 = .ok (.iload_n 1, 1) := by decide +kernel
theorem dX11_limp_72 : decode cX11_limp 72 = .ok (.imul, 1) := by decide +kernel
theorem dX11_limp_73 : decode cX11_limp 73 = .ok (.iload 5, 2) := by decide +kernel
theorem dX11_limp_75 : decode cX11_limp 75 = .ok (.iadd, 1) := by decide +kernel
theorem dX11_limp_76 : decode cX11_limp 76 = .ok (.istore 6, 2) := by decide +kernel
theorem dX11_limp_78 : decode cX11_limp 78 = .ok (.aload_n 0, 1) := by decide +kernel
theorem dX11_limp_79 : decode cX11_limp 79 = .ok (.getfield 68, 3) := by decide +kernel
theorem dX11_limp_82 : decode cX11_limp 82 = .ok (.iload 6, 2) := by decide +kernel
theorem dX11_limp_84 : decode cX11_limp 84 = .ok (.iaload, 1) := by decide +kernel
theorem dX11_limp_85 : decode cX11_limp 85 = .ok (.istore 7, 2) := by decide +kernel
theorem dX11_limp_87 : decode cX11_limp 87 = .ok (.iconst 0, 1) := by decide +kernel
theorem dX11_limp_88 : decode cX11_limp 88 = .ok (.istore 8, 2) := by decide +kernel
theorem dX11_limp_90 : decode cX11_limp 90 = .ok (.iload 8, 2) := by decide +kernel
theorem dX11_limp_92 : decode cX11_limp 92 = .ok (.bipush 10, 2) := by decide +kernel
theorem dX11_limp_94 : decode cX11_limp 94 = .ok (.if_icmp .ge 70, 3) := by decide +kernel
theorem dX11_limp_97 : decode cX11_limp 97 = .ok (.aload_n 0, 1) := by decide +kernel
theorem dX11_limp_98 : decode cX11_limp 98 = .ok (.iload_n 1, 1) := by decide +kernel
theorem dX11_limp_99 : decode cX11_limp 99 = .ok (.iload 5, 2) := by decide +kernel
theorem dX11_limp_101 : decode cX11_limp 101 = .ok (.invokevirtual 444, 3) := by decide +kernel
theorem dX11_limp_104 : decode cX11_limp 104 = .ok (.ifCond .eq 60, 3) := by decide +kernel
theorem dX11_limp_107 : decode cX11_limp 107 = .ok (.aload_n 0, 1) := by decide +kernel
theorem dX11_limp_108 : decode cX11_limp 108 = .ok (.getfield 68, 3) := by decide +kernel
theorem dX11_limp_111 : decode cX11_limp 111 = .ok (.iload 6, 2) := by decide +kernel
theorem dX11_limp_113 : decode cX11_limp 113 = .ok (.iload 8, 2) := by decide +kernel
theorem dX11_limp_115 : decode cX11_limp 115 = .ok (.iastore, 1) := by decide +kernel
theorem dX11_limp_116 : decode cX11_limp 116 = .ok (.iload 8, 2) := by decide +kernel
theorem dX11_limp_118 : decode cX11_limp 118 = .ok (.iload 7, 2) := by decide +kernel
theorem dX11_limp_120 : decode cX11_limp 120 = .ok (.if_icmp .eq 38, 3) := by decide +kernel
theorem dX11_limp_123 : decode cX11_limp 123 = .ok (.aload_n 0, 1) := by decide +kernel
theorem dX11_limp_124 : decode cX11_limp 124 = .ok (.iload_n 1, 1) := by decide +kernel
theorem dX11_limp_125 : decode cX11_limp 125 = .ok (.invokevirtual 481, 3) := by decide +kernel
theorem dX11_limp_128 : decode cX11_limp 128 = .ok (.ifCond .ne 6, 3) := by decide +kernel
theorem dX11_limp_131 : decode cX11_limp 131 = .ok (.goto 27, 3) := by decide +kernel
theorem dX11_limp_134 : decode cX11_limp 134 = .ok (.iinc 3 1, 3) := by decide +kernel
theorem dX11_limp_137 : decode cX11_limp 137 = .ok (.iload 4, 2) := by decide +kernel
theorem dX11_limp_139 : decode cX11_limp 139 = .ok (.iconst (-1), 1) := by decide +kernel
theorem dX11_limp_140 : decode cX11_limp 140 = .ok (.if_icmp .ne 14, 3) := by decide +kernel
theorem dX11_limp_143 : decode cX11_limp 143 = .ok (.bipush 10, 2) := by decide +kernel
theorem dX11_limp_145 : decode cX11_limp 145 = .ok (.iload 5, 2) := by decide +kernel
theorem dX11_limp_147 : decode cX11_limp 147 = .ok (.imul, 1) := by decide +kernel
theorem dX11_limp_148 : decode cX11_limp 148 = .ok (.iload 8, 2) := by decide +kernel
theorem dX11_limp_150 : decode cX11_limp 150 = .ok (.iadd, 1) := by decide +kernel
theorem dX11_limp_151 : decode cX11_limp 151 = .ok (.goto 5, 3) := by decide +kernel
theorem dX11_limp_154 : decode cX11_limp 154 = .ok (.iload 4, 2) := by decide +kernel
theorem dX11_limp_156 : decode cX11_limp 156 = .ok (.istore 4, 2) := by decide +kernel
theorem dX11_limp_158 : decode cX11_limp 158 = .ok (.iinc 8 1, 3) := by decide +kernel
theorem dX11_limp_161 : decode cX11_limp 161 = .ok (.goto (-71), 3) := by decide +kernel
theorem dX11_limp_164 : decode cX11_limp 164 = .ok (.aload_n 0, 1) := by decide +kernel
theorem dX11_limp_165 : decode cX11_limp 165 = .ok (.getfield 68, 3) := by decide +kernel
theorem dX11_limp_168 : decode cX11_limp 168 = .ok (.iload 6, 2) := by decide +kernel
theorem dX11_limp_170 : decode cX11_limp 170 = .ok (.iload 7, 2) := by decide +kernel
theorem dX11_limp_172 : decode cX11_limp 172 = .ok (.iastore, 1) := by decide +kernel
theorem dX11_limp_173 : decode cX11_limp 173 = .ok (.iinc 5 1, 3) := by decide +kernel
theorem dX11_limp_176 : decode cX11_limp 176 = .ok (.goto (-118), 3) := by decide +kernel
theorem dX11_limp_179 : decode cX11_limp 179 = .ok (.iload_n 2, 1) := by decide +kernel
theorem dX11_limp_180 : decode cX11_limp 180 = .ok (.ifCond .ne 7, 3) := by decide +kernel
theorem dX11_limp_183 : decode cX11_limp 183 = .ok (.iload_n 3, 1) := by decide +kernel
theorem dX11_limp_184 : decode cX11_limp 184 = .ok (.goto 5, 3) := by decide +kernel
theorem dX11_limp_187 : decode cX11_limp 187 = .ok (.iload 4, 2) := by decide +kernel
theorem dX11_limp_189 : decode cX11_limp 189 = .ok (.ireturn, 1) := by decide +kernel
theorem dX11_forget_0 : decode cX11_forget 0 = .ok (.aload_n 0, 1) := by decide +kernel
theorem dX11_forget_1 : decode cX11_forget 1 = .ok (.iconst 0, 1) := by decide +kernel
theorem dX11_forget_2 : decode cX11_forget 2 = .ok (.putfield 159, 3) := by decide +kernel
theorem dX11_forget_5 : decode cX11_forget 5 = .ok (.aload_n 0, 1) := by decide +kernel
theorem dX11_forget_6 : decode cX11_forget 6 = .ok (.iconst 0, 1) := by decide +kernel
theorem dX11_forget_7 : decode cX11_forget 7 = .ok (.putfield 326, 3) := by decide +kernel
theorem dX11_forget_10 : decode cX11_forget 10 = .ok (.return_, 1) := by decide +kernel
theorem dX11_gain_0 : decode cX11_gain 0 = .ok (.iconst 3, 1) := by decide +kernel
theorem dX11_gain_1 : decode cX11_gain 1 = .ok (.iload 4, 2) := by decide +kernel
theorem dX11_gain_3 : decode cX11_gain 3 = .ok (.imul, 1) := by decide +kernel
theorem dX11_gain_4 : decode cX11_gain 4 = .ok (.iload 5, 2) := by decide +kernel
theorem dX11_gain_6 : decode cX11_gain 6 = .ok (.iadd, 1) := by decide +kernel
theorem dX11_gain_7 : decode cX11_gain 7 = .ok (.aload_n 0, 1) := by decide +kernel
theorem dX11_gain_8 : decode cX11_gain 8 = .ok (.iload_n 1, 1) := by decide +kernel
theorem dX11_gain_9 : decode cX11_gain 9 = .ok (.iload_n 2, 1) := by decide +kernel
theorem dX11_gain_10 : decode cX11_gain 10 = .ok (.iload_n 3, 1) := by decide +kernel
theorem dX11_gain_11 : decode cX11_gain 11 = .ok (.aload_n 0, 1) := by decide +kernel
theorem dX11_gain_12 : decode cX11_gain 12 = .ok (.getfield 90, 3) := by decide +kernel
theorem dX11_gain_15 : decode cX11_gain 15 = .ok (.bipush 8, 2) := by decide +kernel
theorem dX11_gain_17 : decode cX11_gain 17 = .ok (.iload_n 2, 1) := by decide +kernel
theorem dX11_gain_18 : decode cX11_gain 18 = .ok (.imul, 1) := by decide +kernel
theorem dX11_gain_19 : decode cX11_gain 19 = .ok (.iload_n 3, 1) := by decide +kernel
theorem dX11_gain_20 : decode cX11_gain 20 = .ok (.iadd, 1) := by decide +kernel
theorem dX11_gain_21 : decode cX11_gain 21 = .ok (.iaload, 1) := by decide +kernel
theorem dX11_gain_22 : decode cX11_gain 22 = .ok (.iload 4, 2) := by decide +kernel
theorem dX11_gain_24 : decode cX11_gain 24 = .ok (.iadd, 1) := by decide +kernel
theorem dX11_gain_25 : decode cX11_gain 25 = .ok (.invokevirtual 402, 3) := by decide +kernel
theorem dX11_gain_28 : decode cX11_gain 28 = .ok (.ifCond .eq 8, 3) := by decide +kernel
theorem dX11_gain_31 : decode cX11_gain 31 = .ok (.bipush 20, 2) := by decide +kernel
theorem dX11_gain_33 : decode cX11_gain 33 = .ok (.goto 4, 3) := by decide +kernel
theorem dX11_gain_36 : decode cX11_gain 36 = .ok (.iconst 0, 1) := by decide +kernel
theorem dX11_gain_37 : decode cX11_gain 37 = .ok (.isub, 1) := by decide +kernel
theorem dX11_gain_38 : decode cX11_gain 38 = .ok (.ireturn, 1) := by decide +kernel
theorem dX11_game_0 : decode cX11_game 0 = .ok (.aload_n 0, 1) := by decide +kernel
theorem dX11_game_1 : decode cX11_game 1 = .ok (.iconst 0, 1) := by decide +kernel
theorem dX11_game_2 : decode cX11_game 2 = .ok (.putfield 159, 3) := by decide +kernel
theorem dX11_game_5 : decode cX11_game 5 = .ok (.aload_n 0, 1) := by decide +kernel
theorem dX11_game_6 : decode cX11_game 6 = .ok (.iload_n 1, 1) := by decide +kernel
theorem dX11_game_7 : decode cX11_game 7 = .ok (.invokevirtual 409, 3) := by decide +kernel
theorem dX11_game_10 : decode cX11_game 10 = .ok (.ifCond .eq 29, 3) := by decide +kernel
theorem dX11_game_13 : decode cX11_game 13 = .ok (.aload_n 0, 1) := by decide +kernel
theorem dX11_game_14 : decode cX11_game 14 = .ok (.iload_n 2, 1) := by decide +kernel
theorem dX11_game_15 : decode cX11_game 15 = .ok (.invokevirtual 409, 3) := by decide +kernel
theorem dX11_game_18 : decode cX11_game 18 = .ok (.ifCond .eq 21, 3) := by decide +kernel
theorem dX11_game_21 : decode cX11_game 21 = .ok (.iload_n 3, 1) := by decide +kernel
theorem dX11_game_22 : decode cX11_game 22 = .ok (.invokestatic 421, 3) := by decide +kernel
theorem dX11_game_25 : decode cX11_game 25 = .ok (.ifCond .eq 14, 3) := by decide +kernel
theorem dX11_game_28 : decode cX11_game 28 = .ok (.iload 4, 2) := by decide +kernel
theorem dX11_game_30 : decode cX11_game 30 = .ok (.ifCond .lt 9, 3) := by decide +kernel
theorem dX11_game_33 : decode cX11_game 33 = .ok (.iload 4, 2) := by decide +kernel
theorem dX11_game_35 : decode cX11_game 35 = .ok (.iconst 1, 1) := by decide +kernel
theorem dX11_game_36 : decode cX11_game 36 = .ok (.if_icmp .le 9, 3) := by decide +kernel
theorem dX11_game_39 : decode cX11_game 39 = .ok (.aload_n 0, 1) := by decide +kernel
theorem dX11_game_40 : decode cX11_game 40 = .ok (.iconst 1, 1) := by decide +kernel
theorem dX11_game_41 : decode cX11_game 41 = .ok (.invokevirtual 304, 3) := by decide +kernel
theorem dX11_game_44 : decode cX11_game 44 = .ok (.ireturn, 1) := by decide +kernel
theorem dX11_game_45 : decode cX11_game 45 = .ok (.iload_n 1, 1) := by decide +kernel
theorem dX11_game_46 : decode cX11_game 46 = .ok (.iload_n 2, 1) := by decide +kernel
theorem dX11_game_47 : decode cX11_game 47 = .ok (.if_icmp .ne 9, 3) := by decide +kernel
theorem dX11_game_50 : decode cX11_game 50 = .ok (.aload_n 0, 1) := by decide +kernel
theorem dX11_game_51 : decode cX11_game 51 = .ok (.iconst 2, 1) := by decide +kernel
theorem dX11_game_52 : decode cX11_game 52 = .ok (.invokevirtual 304, 3) := by decide +kernel
theorem dX11_game_55 : decode cX11_game 55 = .ok (.ireturn, 1) := by decide +kernel
theorem dX11_game_56 : decode cX11_game 56 = .ok (.aload_n 0, 1) := by decide +kernel
theorem dX11_game_57 : decode cX11_game 57 = .ok (.invokevirtual 399, 3) := by decide +kernel
theorem dX11_game_60 : decode cX11_game 60 = .ok (.istore 5, 2) := by decide +kernel
theorem dX11_game_62 : decode cX11_game 62 = .ok (.iconst 0, 1) := by decide +kernel
theorem dX11_game_63 : decode cX11_game 63 = .ok (.istore 6, 2) := by decide +kernel
theorem dX11_game_65 : decode cX11_game 65 = .ok (.iconst (-1), 1) := by decide +kernel
theorem dX11_game_66 : decode cX11_game 66 = .ok (.istore 7, 2) := by decide +kernel
theorem dX11_game_68 : decode cX11_game 68 = .ok (.iconst 0, 1) := by decide +kernel
theorem dX11_game_69 : decode cX11_game 69 = .ok (.istore 8, 2) := by decide +kernel
theorem dX11_game_71 : decode cX11_game 71 = .ok (.iload 8, 2) := by decide +kernel
theorem dX11_game_73 : decode cX11_game 73 = .ok (.bipush 10, 2) := by decide +kernel
theorem dX11_game_75 : decode cX11_game 75 = .ok (.if_icmp .ge 142, 3) := by decide +kernel
theorem dX11_game_78 : decode cX11_game 78 = .ok (.iconst 0, 1) := by decide +kernel
theorem dX11_game_79 : decode cX11_game 79 = .ok (.istore 9, 2) := by decide +kernel
theorem dX11_game_81 : decode cX11_game 81 = .ok (.iload 9, 2) := by decide +kernel
theorem dX11_game_83 : decode cX11_game 83 = .ok (.bipush 10, 2) := by decide +kernel
theorem dX11_game_85 : decode cX11_game 85 = .ok (.if_icmp .ge 126, 3) := by decide +kernel
theorem dX11_game_88 : decode cX11_game 88 = .ok (.iconst 1, 1) := by decide +kernel
theorem dX11_game_89 : decode cX11_game 89 = .ok (.istore 10, 2) := by decide +kernel
theorem dX11_game_91 : decode cX11_game 91 = .ok (.iconst 0, 1) := by decide +kernel
theorem dX11_game_92 : decode cX11_game 92 = .ok (.istore 11, 2) := by decide +kernel
theorem dX11_game_94 : decode cX11_game 94 = .ok (.iload 11, 2) := by decide +kernel
theorem dX11_game_96 : decode cX11_game 96 = .ok (.bipush 10, 2) := by decide +kernel
theorem dX11_game_98 : decode cX11_game 98 = .ok (.if_icmp .ge 75, 3) := by decide +kernel
theorem dX11_game_101 : decode cX11_game 101 = .ok (.iload 10, 2) := by decide +kernel
theorem dX11_game_103 : decode cX11_game 103 = .ok (.ifCond .eq 70, 3) := by decide +kernel
theorem dX11_game_106 : decode cX11_game 106 = .ok (.aload_n 0, 1) := by decide +kernel
theorem dX11_game_107 : decode cX11_game 107 = .ok (.iload 5, 2) := by decide +kernel
theorem dX11_game_109 : decode cX11_game 109 = .ok (.iload_n 1, 1) := by decide +kernel
theorem dX11_game_110 : decode cX11_game 110 = .ok (.iload_n 3, 1) := by decide +kernel
theorem dX11_game_111 : decode cX11_game 111 = .ok (.iload 11, 2) := by decide +kernel
theorem dX11_game_113 : decode cX11_game 113 = .ok (.iload 9, 2) := by decide +kernel
theorem dX11_game_115 : decode cX11_game 115 = .ok (.invokevirtual 484, 3) := by decide +kernel
theorem dX11_game_118 : decode cX11_game 118 = .ok (.aload_n 0, 1) := by decide +kernel
theorem dX11_game_119 : decode cX11_game 119 = .ok (.iload 5, 2) := by decide +kernel
theorem dX11_game_121 : decode cX11_game 121 = .ok (.iload_n 1, 1) := by decide +kernel
theorem dX11_game_122 : decode cX11_game 122 = .ok (.iload_n 3, 1) := by decide +kernel
theorem dX11_game_123 : decode cX11_game 123 = .ok (.iload 8, 2) := by decide +kernel
theorem dX11_game_125 : decode cX11_game 125 = .ok (.iload 9, 2) := by decide +kernel
theorem dX11_game_127 : decode cX11_game 127 = .ok (.invokevirtual 484, 3) := by decide +kernel
theorem dX11_game_130 : decode cX11_game 130 = .ok (.if_icmp .gt 34, 3) := by decide +kernel
theorem dX11_game_133 : decode cX11_game 133 = .ok (.aload_n 0, 1) := by decide +kernel
theorem dX11_game_134 : decode cX11_game 134 = .ok (.iload 5, 2) := by decide +kernel
theorem dX11_game_136 : decode cX11_game 136 = .ok (.iload_n 2, 1) := by decide +kernel
theorem dX11_game_137 : decode cX11_game 137 = .ok (.iload_n 3, 1) := by decide +kernel
theorem dX11_game_138 : decode cX11_game 138 = .ok (.iload 11, 2) := by decide +kernel
theorem dX11_game_140 : decode cX11_game 140 = .ok (.iload 8, 2) := by decide +kernel
theorem dX11_game_142 : decode cX11_game 142 = .ok (.invokevirtual 484, 3) := by decide +kernel
theorem dX11_game_145 : decode cX11_game 145 = .ok (.aload_n 0, 1) := by decide +kernel
theorem dX11_game_146 : decode cX11_game 146 = .ok (.iload 5, 2) := by decide +kernel
theorem dX11_game_148 : decode cX11_game 148 = .ok (.iload_n 2, 1) := by decide +kernel
theorem dX11_game_149 : decode cX11_game 149 = .ok (.iload_n 3, 1) := by decide +kernel
theorem dX11_game_150 : decode cX11_game 150 = .ok (.iload 9, 2) := by decide +kernel
theorem dX11_game_152 : decode cX11_game 152 = .ok (.iload 8, 2) := by decide +kernel
theorem dX11_game_154 : decode cX11_game 154 = .ok (.invokevirtual 484, 3) := by decide +kernel
theorem dX11_game_157 : decode cX11_game 157 = .ok (.if_icmp .gt 7, 3) := by decide +kernel
theorem dX11_game_160 : decode cX11_game 160 = .ok (.iconst 1, 1) := by decide +kernel
theorem dX11_game_161 : decode cX11_game 161 = .ok (.goto 4, 3) := by decide +kernel
theorem dX11_game_164 : decode cX11_game 164 = .ok (.iconst 0, 1) := by decide +kernel
theorem dX11_game_165 : decode cX11_game 165 = .ok (.istore 10, 2) := by decide +kernel
theorem dX11_game_167 : decode cX11_game 167 = .ok (.iinc 11 1, 3) := by decide +kernel
theorem dX11_game_170 : decode cX11_game 170 = .ok (.goto (-76), 3) := by decide +kernel
theorem dX11_game_173 : decode cX11_game 173 = .ok (.iload 10, 2) := by decide +kernel
theorem dX11_game_175 : decode cX11_game 175 = .ok (.ifCond .ne 6, 3) := by decide +kernel
theorem dX11_game_178 : decode cX11_game 178 = .ok (.goto 27, 3) := by decide +kernel
theorem dX11_game_181 : decode cX11_game 181 = .ok (.iinc 6 1, 3) := by decide +kernel
theorem dX11_game_184 : decode cX11_game 184 = .ok (.iload 7, 2) := by decide +kernel
theorem dX11_game_186 : decode cX11_game 186 = .ok (.iconst (-1), 1) := by decide +kernel
theorem dX11_game_187 : decode cX11_game 187 = .ok (.if_icmp .ne 14, 3) := by decide +kernel
theorem dX11_game_190 : decode cX11_game 190 = .ok (.bipush 10, 2) := by decide +kernel
theorem dX11_game_192 : decode cX11_game 192 = .ok (.iload 8, 2) := by decide +kernel
theorem dX11_game_194 : decode cX11_game 194 = .ok (.imul, 1) := by decide +kernel
theorem dX11_game_195 : decode cX11_game 195 = .ok (.iload 9, 2) := by decide +kernel
theorem dX11_game_197 : decode cX11_game 197 = .ok (.iadd, 1) := by decide +kernel
theorem dX11_game_198 : decode cX11_game 198 = .ok (.goto 5, 3) := by decide +kernel
theorem dX11_game_201 : decode cX11_game 201 = .ok (.iload 7, 2) := by decide +kernel
theorem dX11_game_203 : decode cX11_game 203 = .ok (.istore 7, 2) := by decide +kernel
theorem dX11_game_205 : decode cX11_game 205 = .ok (.iinc 9 1, 3) := by decide +kernel
theorem dX11_game_208 : decode cX11_game 208 = .ok (.goto (-127), 3) := by decide +kernel
theorem dX11_game_211 : decode cX11_game 211 = .ok (.iinc 8 1, 3) := by decide +kernel
theorem dX11_game_214 : decode cX11_game 214 = .ok (.goto (-143), 3) := by decide +kernel
theorem dX11_game_217 : decode cX11_game 217 = .ok (.iload 4, 2) := by decide +kernel
theorem dX11_game_219 : decode cX11_game 219 = .ok (.ifCond .ne 8, 3) := by decide +kernel
theorem dX11_game_222 : decode cX11_game 222 = .ok (.iload 6, 2) := by decide +kernel
theorem dX11_game_224 : decode cX11_game 224 = .ok (.goto 5, 3) := by decide +kernel
theorem dX11_game_227 : decode cX11_game 227 = .ok (.iload 7, 2) := by decide +kernel
theorem dX11_game_229 : decode cX11_game 229 = .ok (.ireturn, 1) := by decide +kernel
theorem dX11_drawOf_0 : decode cX11_drawOf 0 = .ok (.aload_n 0, 1) := by decide +kernel
theorem dX11_drawOf_1 : decode cX11_drawOf 1 = .ok (.aload_n 0, 1) := by decide +kernel
theorem dX11_drawOf_2 : decode cX11_drawOf 2 = .ok (.getfield 488, 3) := by decide +kernel
theorem dX11_drawOf_5 : decode cX11_drawOf 5 = .ok (.ldc_w 491, 3) := by decide +kernel
theorem dX11_drawOf_8 : decode cX11_drawOf 8 = .ok (.imul, 1) := by decide +kernel
theorem dX11_drawOf_9 : decode cX11_drawOf 9 = .ok (.sipush 12345, 3) := by decide +kernel
theorem dX11_drawOf_12 : decode cX11_drawOf 12 = .ok (.iadd, 1) := by decide +kernel
theorem dX11_drawOf_13 : decode cX11_drawOf 13 = .ok (.putfield 488, 3) := by decide +kernel
theorem dX11_drawOf_16 : decode cX11_drawOf 16 = .ok (.aload_n 0, 1) := by decide +kernel
theorem dX11_drawOf_17 : decode cX11_drawOf 17 = .ok (.getfield 488, 3) := by decide +kernel
theorem dX11_drawOf_20 : decode cX11_drawOf 20 = .ok (.bipush 16, 2) := by decide +kernel
theorem dX11_drawOf_22 : decode cX11_drawOf 22 = .ok (.ishr, 1) := by decide +kernel
theorem dX11_drawOf_23 : decode cX11_drawOf 23 = .ok (.sipush 32767, 3) := by decide +kernel
theorem dX11_drawOf_26 : decode cX11_drawOf 26 = .ok (.iand, 1) := by decide +kernel
theorem dX11_drawOf_27 : decode cX11_drawOf 27 = .ok (.iload_n 1, 1) := by decide +kernel
theorem dX11_drawOf_28 : decode cX11_drawOf 28 = .ok (.irem, 1) := by decide +kernel
theorem dX11_drawOf_29 : decode cX11_drawOf 29 = .ok (.ireturn, 1) := by decide +kernel
theorem dX11_century_0 : decode cX11_century 0 = .ok (.aload_n 0, 1) := by decide +kernel
theorem dX11_century_1 : decode cX11_century 1 = .ok (.iconst 0, 1) := by decide +kernel
theorem dX11_century_2 : decode cX11_century 2 = .ok (.putfield 159, 3) := by decide +kernel
theorem dX11_century_5 : decode cX11_century 5 = .ok (.iload_n 3, 1) := by decide +kernel
theorem dX11_century_6 : decode cX11_century 6 = .ok (.i2l, 1) := by decide +kernel
theorem dX11_century_7 : decode cX11_century 7 = .ok (.lconst 0, 1) := by decide +kernel
theorem dX11_century_8 : decode cX11_century 8 = .ok (.ldc2_w 419, 3) := by decide +kernel
theorem dX11_century_11 : decode cX11_century 11 = .ok (.invokestatic 162, 3) := by decide +kernel
theorem dX11_century_14 : decode cX11_century 14 = .ok (.ifCond .ne 9, 3) := by decide +kernel
theorem dX11_century_17 : decode cX11_century 17 = .ok (.aload_n 0, 1) := by decide +kernel
theorem dX11_century_18 : decode cX11_century 18 = .ok (.iconst 1, 1) := by decide +kernel
theorem dX11_century_19 : decode cX11_century 19 = .ok (.invokevirtual 304, 3) := by decide +kernel
theorem dX11_century_22 : decode cX11_century 22 = .ok (.ireturn, 1) := by decide +kernel
theorem dX11_century_23 : decode cX11_century 23 = .ok (.iload_n 2, 1) := by decide +kernel
theorem dX11_century_24 : decode cX11_century 24 = .ok (.i2l, 1) := by decide +kernel
theorem dX11_century_25 : decode cX11_century 25 = .ok (.lconst 0, 1) := by decide +kernel
theorem dX11_century_26 : decode cX11_century 26 = .ok (.ldc2_w 492, 3) := by decide +kernel
theorem dX11_century_29 : decode cX11_century 29 = .ok (.invokestatic 162, 3) := by decide +kernel
theorem dX11_century_32 : decode cX11_century 32 = .ok (.ifCond .ne 9, 3) := by decide +kernel
theorem dX11_century_35 : decode cX11_century 35 = .ok (.aload_n 0, 1) := by decide +kernel
theorem dX11_century_36 : decode cX11_century 36 = .ok (.iconst 2, 1) := by decide +kernel
theorem dX11_century_37 : decode cX11_century 37 = .ok (.invokevirtual 304, 3) := by decide +kernel
theorem dX11_century_40 : decode cX11_century 40 = .ok (.ireturn, 1) := by decide +kernel
theorem dX11_century_41 : decode cX11_century 41 = .ok (.aload_n 0, 1) := by decide +kernel
theorem dX11_century_42 : decode cX11_century 42 = .ok (.aload_n 0, 1) := by decide +kernel
theorem dX11_century_43 : decode cX11_century 43 = .ok (.getfield 132, 3) := by decide +kernel
theorem dX11_century_46 : decode cX11_century 46 = .ok (.iconst 0, 1) := by decide +kernel
theorem dX11_century_47 : decode cX11_century 47 = .ok (.invokevirtual 427, 3) := by decide +kernel
theorem dX11_century_50 : decode cX11_century 50 = .ok (.aload_n 0, 1) := by decide +kernel
theorem dX11_century_51 : decode cX11_century 51 = .ok (.iload_n 1, 1) := by decide +kernel
theorem dX11_century_52 : decode cX11_century 52 = .ok (.putfield 488, 3) := by decide +kernel
theorem dX11_century_55 : decode cX11_century 55 = .ok (.aload_n 0, 1) := by decide +kernel
theorem dX11_century_56 : decode cX11_century 56 = .ok (.invokevirtual 399, 3) := by decide +kernel
theorem dX11_century_59 : decode cX11_century 59 = .ok (.invokestatic 464, 3) := by decide +kernel
theorem dX11_century_62 : decode cX11_century 62 = .ok (.istore 4, 2) := by decide +kernel
theorem dX11_century_64 : decode cX11_century 64 = .ok (.iload 4, 2) := by decide +kernel
theorem dX11_century_66 : decode cX11_century 66 = .ok (.istore 5, 2) := by decide +kernel
theorem dX11_century_68 : decode cX11_century 68 = .ok (.iconst 0, 1) := by decide +kernel
theorem dX11_century_69 : decode cX11_century 69 = .ok (.istore 6, 2) := by decide +kernel
theorem dX11_century_71 : decode cX11_century 71 = .ok (.iconst 0, 1) := by decide +kernel
theorem dX11_century_72 : decode cX11_century 72 = .ok (.istore 7, 2) := by decide +kernel
theorem dX11_century_74 : decode cX11_century 74 = .ok (.iload 7, 2) := by decide +kernel
theorem dX11_century_76 : decode cX11_century 76 = .ok (.iload_n 2, 1) := by decide +kernel
theorem dX11_century_77 : decode cX11_century 77 = .ok (.if_icmp .ge 143, 3) := by decide +kernel
theorem dX11_century_80 : decode cX11_century 80 = .ok (.aload_n 0, 1) := by decide +kernel
theorem dX11_century_81 : decode cX11_century 81 = .ok (.dup, 1) := by decide +kernel
theorem dX11_century_82 : decode cX11_century 82 = .ok (.getfield 317, 3) := by decide +kernel
theorem dX11_century_85 : decode cX11_century 85 = .ok (.iconst 1, 1) := by decide +kernel
theorem dX11_century_86 : decode cX11_century 86 = .ok (.iadd, 1) := by decide +kernel
theorem dX11_century_87 : decode cX11_century 87 = .ok (.putfield 317, 3) := by decide +kernel
theorem dX11_century_90 : decode cX11_century 90 = .ok (.aload_n 0, 1) := by decide +kernel
theorem dX11_century_91 : decode cX11_century 91 = .ok (.getfield 45, 3) := by decide +kernel
theorem dX11_century_94 : decode cX11_century 94 = .ok (.iconst 1, 1) := by decide +kernel
theorem dX11_century_95 : decode cX11_century 95 = .ok (.iaload, 1) := by decide +kernel
theorem dX11_century_96 : decode cX11_century 96 = .ok (.ifCond .ne 7, 3) := by decide +kernel
theorem dX11_century_99 : decode cX11_century 99 = .ok (.iconst 0, 1) := by decide +kernel
theorem dX11_century_100 : decode cX11_century 100 = .ok (.goto 13, 3) := by decide +kernel
theorem dX11_century_103 : decode cX11_century 103 = .ok (.aload_n 0, 1) := by decide +kernel
theorem dX11_century_104 : decode cX11_century 104 = .ok (.aload_n 0, 1) := by decide +kernel
theorem dX11_century_105 : decode cX11_century 105 = .ok (.getfield 45, 3) := by decide +kernel
theorem dX11_century_108 : decode cX11_century 108 = .ok (.iconst 1, 1) := by decide +kernel
theorem dX11_century_109 : decode cX11_century 109 = .ok (.iaload, 1) := by decide +kernel
theorem dX11_century_110 : decode cX11_century 110 = .ok (.invokevirtual 494, 3) := by decide +kernel
theorem dX11_century_113 : decode cX11_century 113 = .ok (.istore 8, 2) := by decide +kernel
theorem dX11_century_115 : decode cX11_century 115 = .ok (.aload_n 0, 1) := by decide +kernel
theorem dX11_century_116 : decode cX11_century 116 = .ok (.getfield 45, 3) := by decide +kernel
theorem dX11_century_119 : decode cX11_century 119 = .ok (.iconst 1, 1) := by decide +kernel
theorem dX11_century_120 : decode cX11_century 120 = .ok (.iaload, 1) := by decide +kernel
theorem dX11_century_121 : decode cX11_century 121 = .ok (.ifCond .ne 7, 3) := by decide +kernel
theorem dX11_century_124 : decode cX11_century 124 = .ok (.iconst 2, 1) := by decide +kernel
theorem dX11_century_125 : decode cX11_century 125 = .ok (.goto 8, 3) := by decide +kernel
theorem dX11_century_128 : decode cX11_century 128 = .ok (.aload_n 0, 1) := by decide +kernel
theorem dX11_century_129 : decode cX11_century 129 = .ok (.iconst 3, 1) := by decide +kernel
theorem dX11_century_130 : decode cX11_century 130 = .ok (.invokevirtual 494, 3) := by decide +kernel
theorem dX11_century_133 : decode cX11_century 133 = .ok (.istore 9, 2) := by decide +kernel
theorem dX11_century_135 : decode cX11_century 135 = .ok (.iload 9, 2) := by decide +kernel
theorem dX11_century_137 : decode cX11_century 137 = .ok (.ifCond .ne 9, 3) := by decide +kernel
theorem dX11_century_140 : decode cX11_century 140 = .ok (.aload_n 0, 1) := by decide +kernel
theorem dX11_century_141 : decode cX11_century 141 = .ok (.iload 8, 2) := by decide +kernel
theorem dX11_century_143 : decode cX11_century 143 = .ok (.invokevirtual 439, 3) := by decide +kernel
theorem dX11_century_146 : decode cX11_century 146 = .ok (.iload 9, 2) := by decide +kernel
theorem dX11_century_148 : decode cX11_century 148 = .ok (.iconst 1, 1) := by decide +kernel
theorem dX11_century_149 : decode cX11_century 149 = .ok (.if_icmp .ne 16, 3) := by decide +kernel
theorem dX11_century_152 : decode cX11_century 152 = .ok (.aload_n 0, 1) := by decide +kernel
theorem dX11_century_153 : decode cX11_century 153 = .ok (.dup, 1) := by decide +kernel
theorem dX11_century_154 : decode cX11_century 154 = .ok (.getfield 320, 3) := by decide +kernel
theorem dX11_century_157 : decode cX11_century 157 = .ok (.iconst 1, 1) := by decide +kernel
theorem dX11_century_158 : decode cX11_century 158 = .ok (.iload 8, 2) := by decide +kernel
theorem dX11_century_160 : decode cX11_century 160 = .ok (.ishl, 1) := by decide +kernel
theorem dX11_century_161 : decode cX11_century 161 = .ok (.ior, 1) := by decide +kernel
theorem dX11_century_162 : decode cX11_century 162 = .ok (.putfield 320, 3) := by decide +kernel
theorem dX11_century_165 : decode cX11_century 165 = .ok (.aload_n 0, 1) := by decide +kernel
theorem dX11_century_166 : decode cX11_century 166 = .ok (.invokevirtual 399, 3) := by decide +kernel
theorem dX11_century_169 : decode cX11_century 169 = .ok (.invokestatic 464, 3) := by decide +kernel
theorem dX11_century_172 : decode cX11_century 172 = .ok (.istore 4, 2) := by decide +kernel
theorem dX11_century_174 : decode cX11_century 174 = .ok (.iload 7, 2) := by decide +kernel
theorem dX11_century_176 : decode cX11_century 176 = .ok (.ifCond .ne 8, 3) := by decide +kernel
theorem dX11_century_179 : decode cX11_century 179 = .ok (.iload 4, 2) := by decide +kernel
theorem dX11_century_181 : decode cX11_century 181 = .ok (.goto 10, 3) := by decide +kernel
theorem dX11_century_184 : decode cX11_century 184 = .ok (.iload 5, 2) := by decide +kernel
theorem dX11_century_186 : decode cX11_century 186 = .ok (.iload 4, 2) := by decide +kernel
theorem dX11_century_188 : decode cX11_century 188 = .ok (.invokestatic 201, 3) := by decide +kernel
theorem dX11_century_191 : decode cX11_century 191 = .ok (.istore 5, 2) := by decide +kernel
theorem dX11_century_193 : decode cX11_century 193 = .ok (.iload 6, 2) := by decide +kernel
theorem dX11_century_195 : decode cX11_century 195 = .ok (.iload 4, 2) := by decide +kernel
theorem dX11_century_197 : decode cX11_century 197 = .ok (.aload_n 0, 1) := by decide +kernel
theorem dX11_century_198 : decode cX11_century 198 = .ok (.getfield 45, 3) := by decide +kernel
theorem dX11_century_201 : decode cX11_century 201 = .ok (.iconst 1, 1) := by decide +kernel
theorem dX11_century_202 : decode cX11_century 202 = .ok (.iaload, 1) := by decide +kernel
theorem dX11_century_203 : decode cX11_century 203 = .ok (.if_icmp .ne 7, 3) := by decide +kernel
theorem dX11_century_206 : decode cX11_century 206 = .ok (.iconst 1, 1) := by decide +kernel
theorem dX11_century_207 : decode cX11_century 207 = .ok (.goto 4, 3) := by decide +kernel
theorem dX11_century_210 : decode cX11_century 210 = .ok (.iconst 0, 1) := by decide +kernel
theorem dX11_century_211 : decode cX11_century 211 = .ok (.iadd, 1) := by decide +kernel
theorem dX11_century_212 : decode cX11_century 212 = .ok (.istore 6, 2) := by decide +kernel
theorem dX11_century_214 : decode cX11_century 214 = .ok (.iinc 7 1, 3) := by decide +kernel
theorem dX11_century_217 : decode cX11_century 217 = .ok (.goto (-143), 3) := by decide +kernel
theorem dX11_century_220 : decode cX11_century 220 = .ok (.aload_n 0, 1) := by decide +kernel
theorem dX11_century_221 : decode cX11_century 221 = .ok (.aload_n 0, 1) := by decide +kernel
theorem dX11_century_222 : decode cX11_century 222 = .ok (.getfield 132, 3) := by decide +kernel
theorem dX11_century_225 : decode cX11_century 225 = .ok (.iconst 0, 1) := by decide +kernel
theorem dX11_century_226 : decode cX11_century 226 = .ok (.invokevirtual 449, 3) := by decide +kernel
theorem dX11_century_229 : decode cX11_century 229 = .ok (.iload_n 3, 1) := by decide +kernel
theorem dX11_century_230 : decode cX11_century 230 = .ok (.ifCond .ne 8, 3) := by decide +kernel
theorem dX11_century_233 : decode cX11_century 233 = .ok (.iload 4, 2) := by decide +kernel
theorem dX11_century_235 : decode cX11_century 235 = .ok (.goto 15, 3) := by decide +kernel
theorem dX11_century_238 : decode cX11_century 238 = .ok (.iload_n 3, 1) := by decide +kernel
theorem dX11_century_239 : decode cX11_century 239 = .ok (.iconst 1, 1) := by decide +kernel
theorem dX11_century_240 : decode cX11_century 240 = .ok (.if_icmp .ne 8, 3) := by decide +kernel
theorem dX11_century_243 : decode cX11_century 243 = .ok (.iload 5, 2) := by decide +kernel
theorem dX11_century_245 : decode cX11_century 245 = .ok (.goto 5, 3) := by decide +kernel
theorem dX11_century_248 : decode cX11_century 248 = .ok (.iload 6, 2) := by decide +kernel
theorem dX11_century_250 : decode cX11_century 250 = .ok (.ireturn, 1) := by decide +kernel
theorem dX11_be_0 : decode cX11_be 0 = .ok (.iconst 0, 1) := by decide +kernel
theorem dX11_be_1 : decode cX11_be 1 = .ok (.istore_n 2, 1) := by decide +kernel
theorem dX11_be_2 : decode cX11_be 2 = .ok (.iload_n 2, 1) := by decide +kernel
theorem dX11_be_3 : decode cX11_be 3 = .ok (.aload_n 0, 1) := by decide +kernel
theorem dX11_be_4 : decode cX11_be 4 = .ok (.arraylength, 1) := by decide +kernel
theorem dX11_be_5 : decode cX11_be 5 = .ok (.if_icmp .ge 15, 3) := by decide +kernel
theorem dX11_be_8 : decode cX11_be 8 = .ok (.aload_n 0, 1) := by decide +kernel
theorem dX11_be_9 : decode cX11_be 9 = .ok (.iload_n 2, 1) := by decide +kernel
theorem dX11_be_10 : decode cX11_be 10 = .ok (.aload_n 1, 1) := by decide +kernel
theorem dX11_be_11 : decode cX11_be 11 = .ok (.iload_n 2, 1) := by decide +kernel
theorem dX11_be_12 : decode cX11_be 12 = .ok (.iaload, 1) := by decide +kernel
theorem dX11_be_13 : decode cX11_be 13 = .ok (.iastore, 1) := by decide +kernel
theorem dX11_be_14 : decode cX11_be 14 = .ok (.iinc 2 1, 3) := by decide +kernel
theorem dX11_be_17 : decode cX11_be 17 = .ok (.goto (-15), 3) := by decide +kernel
theorem dX11_be_20 : decode cX11_be 20 = .ok (.return_, 1) := by decide +kernel
theorem dX11_image_0 : decode cX11_image 0 = .ok (.aload_n 0, 1) := by decide +kernel
theorem dX11_image_1 : decode cX11_image 1 = .ok (.iconst 0, 1) := by decide +kernel
theorem dX11_image_2 : decode cX11_image 2 = .ok (.putfield 159, 3) := by decide +kernel
theorem dX11_image_5 : decode cX11_image 5 = .ok (.aload_n 0, 1) := by decide +kernel
theorem dX11_image_6 : decode cX11_image 6 = .ok (.iconst 1, 1) := by decide +kernel
theorem dX11_image_7 : decode cX11_image 7 = .ok (.putfield 329, 3) := by decide +kernel
theorem dX11_image_10 : decode cX11_image 10 = .ok (.aload_n 0, 1) := by decide +kernel
theorem dX11_image_11 : decode cX11_image 11 = .ok (.aload_n 0, 1) := by decide +kernel
theorem dX11_image_12 : decode cX11_image 12 = .ok (.getfield 323, 3) := by decide +kernel
theorem dX11_image_15 : decode cX11_image 15 = .ok (.putfield 497, 3) := by decide +kernel
theorem dX11_image_18 : decode cX11_image 18 = .ok (.aload_n 0, 1) := by decide +kernel
theorem dX11_image_19 : decode cX11_image 19 = .ok (.aload_n 0, 1) := by decide +kernel
theorem dX11_image_20 : decode cX11_image 20 = .ok (.getfield 326, 3) := by decide +kernel
theorem dX11_image_23 : decode cX11_image 23 = .ok (.putfield 500, 3) := by decide +kernel
theorem dX11_image_26 : decode cX11_image 26 = .ok (.aload_n 0, 1) := by decide +kernel
theorem dX11_image_27 : decode cX11_image 27 = .ok (.aload_n 0, 1) := by decide +kernel
theorem dX11_image_28 : decode cX11_image 28 = .ok (.getfield 135, 3) := by decide +kernel
theorem dX11_image_31 : decode cX11_image 31 = .ok (.iconst 0, 1) := by decide +kernel
theorem dX11_image_32 : decode cX11_image 32 = .ok (.invokevirtual 427, 3) := by decide +kernel
theorem dX11_image_35 : decode cX11_image 35 = .ok (.aload_n 0, 1) := by decide +kernel
theorem dX11_image_36 : decode cX11_image 36 = .ok (.getfield 138, 3) := by decide +kernel
theorem dX11_image_39 : decode cX11_image 39 = .ok (.aload_n 0, 1) := by decide +kernel
theorem dX11_image_40 : decode cX11_image 40 = .ok (.getfield 93, 3) := by decide +kernel
theorem dX11_image_43 : decode cX11_image 43 = .ok (.invokestatic 503, 3) := by decide +kernel
theorem dX11_image_46 : decode cX11_image 46 = .ok (.aload_n 0, 1) := by decide +kernel
theorem dX11_image_47 : decode cX11_image 47 = .ok (.getfield 141, 3) := by decide +kernel
theorem dX11_image_50 : decode cX11_image 50 = .ok (.aload_n 0, 1) := by decide +kernel
theorem dX11_image_51 : decode cX11_image 51 = .ok (.getfield 117, 3) := by decide +kernel
theorem dX11_image_54 : decode cX11_image 54 = .ok (.invokestatic 503, 3) := by decide +kernel
theorem dX11_image_57 : decode cX11_image 57 = .ok (.aload_n 0, 1) := by decide +kernel
theorem dX11_image_58 : decode cX11_image 58 = .ok (.getfield 144, 3) := by decide +kernel
theorem dX11_image_61 : decode cX11_image 61 = .ok (.aload_n 0, 1) := by decide +kernel
theorem dX11_image_62 : decode cX11_image 62 = .ok (.getfield 120, 3) := by decide +kernel
theorem dX11_image_65 : decode cX11_image 65 = .ok (.invokestatic 503, 3) := by decide +kernel
theorem dX11_image_68 : decode cX11_image 68 = .ok (.aload_n 0, 1) := by decide +kernel
theorem dX11_image_69 : decode cX11_image 69 = .ok (.getfield 147, 3) := by decide +kernel
theorem dX11_image_72 : decode cX11_image 72 = .ok (.aload_n 0, 1) := by decide +kernel
theorem dX11_image_73 : decode cX11_image 73 = .ok (.getfield 123, 3) := by decide +kernel
theorem dX11_image_76 : decode cX11_image 76 = .ok (.invokestatic 503, 3) := by decide +kernel
theorem dX11_image_79 : decode cX11_image 79 = .ok (.aload_n 0, 1) := by decide +kernel
theorem dX11_image_80 : decode cX11_image 80 = .ok (.getfield 150, 3) := by decide +kernel
theorem dX11_image_83 : decode cX11_image 83 = .ok (.aload_n 0, 1) := by decide +kernel
theorem dX11_image_84 : decode cX11_image 84 = .ok (.getfield 126, 3) := by decide +kernel
theorem dX11_image_87 : decode cX11_image 87 = .ok (.invokestatic 503, 3) := by decide +kernel
theorem dX11_image_90 : decode cX11_image 90 = .ok (.aload_n 0, 1) := by decide +kernel
theorem dX11_image_91 : decode cX11_image 91 = .ok (.getfield 153, 3) := by decide +kernel
theorem dX11_image_94 : decode cX11_image 94 = .ok (.aload_n 0, 1) := by decide +kernel
theorem dX11_image_95 : decode cX11_image 95 = .ok (.getfield 129, 3) := by decide +kernel
theorem dX11_image_98 : decode cX11_image 98 = .ok (.invokestatic 503, 3) := by decide +kernel
theorem dX11_image_101 : decode cX11_image 101 = .ok (.aload_n 0, 1) := by decide +kernel
theorem dX11_image_102 : decode cX11_image 102 = .ok (.getfield 156, 3) := by decide +kernel
theorem dX11_image_105 : decode cX11_image 105 = .ok (.aload_n 0, 1) := by decide +kernel
theorem dX11_image_106 : decode cX11_image 106 = .ok (.getfield 77, 3) := by decide +kernel
theorem dX11_image_109 : decode cX11_image 109 = .ok (.invokestatic 503, 3) := by decide +kernel
theorem dX11_image_112 : decode cX11_image 112 = .ok (.return_, 1) := by decide +kernel
theorem dX11_restore_0 : decode cX11_restore 0 = .ok (.aload_n 0, 1) := by decide +kernel
theorem dX11_restore_1 : decode cX11_restore 1 = .ok (.iconst 0, 1) := by decide +kernel
theorem dX11_restore_2 : decode cX11_restore 2 = .ok (.putfield 159, 3) := by decide +kernel
theorem dX11_restore_5 : decode cX11_restore 5 = .ok (.aload_n 0, 1) := by decide +kernel
theorem dX11_restore_6 : decode cX11_restore 6 = .ok (.getfield 329, 3) := by decide +kernel
theorem dX11_restore_9 : decode cX11_restore 9 = .ok (.ifCond .ne 5, 3) := by decide +kernel
theorem dX11_restore_12 : decode cX11_restore 12 = .ok (.iconst 0, 1) := by decide +kernel
theorem dX11_restore_13 : decode cX11_restore 13 = .ok (.ireturn, 1) := by decide +kernel
theorem dX11_restore_14 : decode cX11_restore 14 = .ok (.aload_n 0, 1) := by decide +kernel
theorem dX11_restore_15 : decode cX11_restore 15 = .ok (.aload_n 0, 1) := by decide +kernel
theorem dX11_restore_16 : decode cX11_restore 16 = .ok (.getfield 497, 3) := by decide +kernel
theorem dX11_restore_19 : decode cX11_restore 19 = .ok (.putfield 323, 3) := by decide +kernel
theorem dX11_restore_22 : decode cX11_restore 22 = .ok (.aload_n 0, 1) := by decide +kernel
theorem dX11_restore_23 : decode cX11_restore 23 = .ok (.aload_n 0, 1) := by decide +kernel
theorem dX11_restore_24 : decode cX11_restore 24 = .ok (.getfield 500, 3) := by decide +kernel
theorem dX11_restore_27 : decode cX11_restore 27 = .ok (.putfield 326, 3) := by decide +kernel
theorem dX11_restore_30 : decode cX11_restore 30 = .ok (.aload_n 0, 1) := by decide +kernel
theorem dX11_restore_31 : decode cX11_restore 31 = .ok (.aload_n 0, 1) := by decide +kernel
theorem dX11_restore_32 : decode cX11_restore 32 = .ok (.getfield 135, 3) := by decide +kernel
theorem dX11_restore_35 : decode cX11_restore 35 = .ok (.iconst 0, 1) := by decide +kernel
theorem dX11_restore_36 : decode cX11_restore 36 = .ok (.invokevirtual 449, 3) := by decide +kernel
theorem dX11_restore_39 : decode cX11_restore 39 = .ok (.aload_n 0, 1) := by decide +kernel
theorem dX11_restore_40 : decode cX11_restore 40 = .ok (.getfield 93, 3) := by decide +kernel
theorem dX11_restore_43 : decode cX11_restore 43 = .ok (.aload_n 0, 1) := by decide +kernel
theorem dX11_restore_44 : decode cX11_restore 44 = .ok (.getfield 138, 3) := by decide +kernel
theorem dX11_restore_47 : decode cX11_restore 47 = .ok (.invokestatic 503, 3) := by decide +kernel
theorem dX11_restore_50 : decode cX11_restore 50 = .ok (.aload_n 0, 1) := by decide +kernel
theorem dX11_restore_51 : decode cX11_restore 51 = .ok (.getfield 117, 3) := by decide +kernel
theorem dX11_restore_54 : decode cX11_restore 54 = .ok (.aload_n 0, 1) := by decide +kernel
theorem dX11_restore_55 : decode cX11_restore 55 = .ok (.getfield 141, 3) := by decide +kernel
theorem dX11_restore_58 : decode cX11_restore 58 = .ok (.invokestatic 503, 3) := by decide +kernel
theorem dX11_restore_61 : decode cX11_restore 61 = .ok (.aload_n 0, 1) := by decide +kernel
theorem dX11_restore_62 : decode cX11_restore 62 = .ok (.getfield 120, 3) := by decide +kernel
theorem dX11_restore_65 : decode cX11_restore 65 = .ok (.aload_n 0, 1) := by decide +kernel
theorem dX11_restore_66 : decode cX11_restore 66 = .ok (.getfield 144, 3) := by decide +kernel
theorem dX11_restore_69 : decode cX11_restore 69 = .ok (.invokestatic 503, 3) := by decide +kernel
theorem dX11_restore_72 : decode cX11_restore 72 = .ok (.aload_n 0, 1) := by decide +kernel
theorem dX11_restore_73 : decode cX11_restore 73 = .ok (.getfield 123, 3) := by decide +kernel
theorem dX11_restore_76 : decode cX11_restore 76 = .ok (.aload_n 0, 1) := by decide +kernel
theorem dX11_restore_77 : decode cX11_restore 77 = .ok (.getfield 147, 3) := by decide +kernel
theorem dX11_restore_80 : decode cX11_restore 80 = .ok (.invokestatic 503, 3) := by decide +kernel
theorem dX11_restore_83 : decode cX11_restore 83 = .ok (.aload_n 0, 1) := by decide +kernel
theorem dX11_restore_84 : decode cX11_restore 84 = .ok (.getfield 126, 3) := by decide +kernel
theorem dX11_restore_87 : decode cX11_restore 87 = .ok (.aload_n 0, 1) := by decide +kernel
theorem dX11_restore_88 : decode cX11_restore 88 = .ok (.getfield 150, 3) := by decide +kernel
theorem dX11_restore_91 : decode cX11_restore 91 = .ok (.invokestatic 503, 3) := by decide +kernel
theorem dX11_restore_94 : decode cX11_restore 94 = .ok (.aload_n 0, 1) := by decide +kernel
theorem dX11_restore_95 : decode cX11_restore 95 = .ok (.getfield 129, 3) := by decide +kernel
theorem dX11_restore_98 : decode cX11_restore 98 = .ok (.aload_n 0, 1) := by decide +kernel
theorem dX11_restore_99 : decode cX11_restore 99 = .ok (.getfield 153, 3) := by decide +kernel
theorem dX11_restore_102 : decode cX11_restore 102 = .ok (.invokestatic 503, 3) := by decide +kernel
theorem dX11_restore_105 : decode cX11_restore 105 = .ok (.aload_n 0, 1) := by decide +kernel
theorem dX11_restore_106 : decode cX11_restore 106 = .ok (.getfield 77, 3) := by decide +kernel
theorem dX11_restore_109 : decode cX11_restore 109 = .ok (.aload_n 0, 1) := by decide +kernel
theorem dX11_restore_110 : decode cX11_restore 110 = .ok (.getfield 156, 3) := by decide +kernel
theorem dX11_restore_113 : decode cX11_restore 113 = .ok (.invokestatic 503, 3) := by decide +kernel
theorem dX11_restore_116 : decode cX11_restore 116 = .ok (.iconst 1, 1) := by decide +kernel
theorem dX11_restore_117 : decode cX11_restore 117 = .ok (.ireturn, 1) := by decide +kernel
theorem dJ6_bitCount_0f7a4_0 : decode cJ6_bitCount_0f7a4 0 = .ok (.iload_n 0, 1) := by decide +kernel
theorem dJ6_bitCount_0f7a4_1 : decode cJ6_bitCount_0f7a4 1 = .ok (.iload_n 0, 1) := by decide +kernel
theorem dJ6_bitCount_0f7a4_2 : decode cJ6_bitCount_0f7a4 2 = .ok (.iconst 1, 1) := by decide +kernel
theorem dJ6_bitCount_0f7a4_3 : decode cJ6_bitCount_0f7a4 3 = .ok (.iushr, 1) := by decide +kernel
theorem dJ6_bitCount_0f7a4_4 : decode cJ6_bitCount_0f7a4 4 = .ok (.ldc_w 265, 3) := by decide +kernel
theorem dJ6_bitCount_0f7a4_7 : decode cJ6_bitCount_0f7a4 7 = .ok (.iand, 1) := by decide +kernel
theorem dJ6_bitCount_0f7a4_8 : decode cJ6_bitCount_0f7a4 8 = .ok (.isub, 1) := by decide +kernel
theorem dJ6_bitCount_0f7a4_9 : decode cJ6_bitCount_0f7a4 9 = .ok (.istore_n 0, 1) := by decide +kernel
theorem dJ6_bitCount_0f7a4_10 : decode cJ6_bitCount_0f7a4 10 = .ok (.iload_n 0, 1) := by decide +kernel
theorem dJ6_bitCount_0f7a4_11 : decode cJ6_bitCount_0f7a4 11 = .ok (.ldc_w 266, 3) := by decide +kernel
theorem dJ6_bitCount_0f7a4_14 : decode cJ6_bitCount_0f7a4 14 = .ok (.iand, 1) := by decide +kernel
theorem dJ6_bitCount_0f7a4_15 : decode cJ6_bitCount_0f7a4 15 = .ok (.iload_n 0, 1) := by decide +kernel
theorem dJ6_bitCount_0f7a4_16 : decode cJ6_bitCount_0f7a4 16 = .ok (.iconst 2, 1) := by decide +kernel
theorem dJ6_bitCount_0f7a4_17 : decode cJ6_bitCount_0f7a4 17 = .ok (.iushr, 1) := by decide +kernel
theorem dJ6_bitCount_0f7a4_18 : decode cJ6_bitCount_0f7a4 18 = .ok (.ldc_w 266, 3) := by decide +kernel
theorem dJ6_bitCount_0f7a4_21 : decode cJ6_bitCount_0f7a4 21 = .ok (.iand, 1) := by decide +kernel
theorem dJ6_bitCount_0f7a4_22 : decode cJ6_bitCount_0f7a4 22 = .ok (.iadd, 1) := by decide +kernel
theorem dJ6_bitCount_0f7a4_23 : decode cJ6_bitCount_0f7a4 23 = .ok (.istore_n 0, 1) := by decide +kernel
theorem dJ6_bitCount_0f7a4_24 : decode cJ6_bitCount_0f7a4 24 = .ok (.iload_n 0, 1) := by decide +kernel
theorem dJ6_bitCount_0f7a4_25 : decode cJ6_bitCount_0f7a4 25 = .ok (.iload_n 0, 1) := by decide +kernel
theorem dJ6_bitCount_0f7a4_26 : decode cJ6_bitCount_0f7a4 26 = .ok (.iconst 4, 1) := by decide +kernel
theorem dJ6_bitCount_0f7a4_27 : decode cJ6_bitCount_0f7a4 27 = .ok (.iushr, 1) := by decide +kernel
theorem dJ6_bitCount_0f7a4_28 : decode cJ6_bitCount_0f7a4 28 = .ok (.iadd, 1) := by decide +kernel
theorem dJ6_bitCount_0f7a4_29 : decode cJ6_bitCount_0f7a4 29 = .ok (.ldc_w 267, 3) := by decide +kernel
theorem dJ6_bitCount_0f7a4_32 : decode cJ6_bitCount_0f7a4 32 = .ok (.iand, 1) := by decide +kernel
theorem dJ6_bitCount_0f7a4_33 : decode cJ6_bitCount_0f7a4 33 = .ok (.istore_n 0, 1) := by decide +kernel
theorem dJ6_bitCount_0f7a4_34 : decode cJ6_bitCount_0f7a4 34 = .ok (.iload_n 0, 1) := by decide +kernel
theorem dJ6_bitCount_0f7a4_35 : decode cJ6_bitCount_0f7a4 35 = .ok (.iload_n 0, 1) := by decide +kernel
theorem dJ6_bitCount_0f7a4_36 : decode cJ6_bitCount_0f7a4 36 = .ok (.bipush 8, 2) := by decide +kernel
theorem dJ6_bitCount_0f7a4_38 : decode cJ6_bitCount_0f7a4 38 = .ok (.iushr, 1) := by decide +kernel
theorem dJ6_bitCount_0f7a4_39 : decode cJ6_bitCount_0f7a4 39 = .ok (.iadd, 1) := by decide +kernel
theorem dJ6_bitCount_0f7a4_40 : decode cJ6_bitCount_0f7a4 40 = .ok (.istore_n 0, 1) := by decide +kernel
theorem dJ6_bitCount_0f7a4_41 : decode cJ6_bitCount_0f7a4 41 = .ok (.iload_n 0, 1) := by decide +kernel
theorem dJ6_bitCount_0f7a4_42 : decode cJ6_bitCount_0f7a4 42 = .ok (.iload_n 0, 1) := by decide +kernel
theorem dJ6_bitCount_0f7a4_43 : decode cJ6_bitCount_0f7a4 43 = .ok (.bipush 16, 2) := by decide +kernel
theorem dJ6_bitCount_0f7a4_45 : decode cJ6_bitCount_0f7a4 45 = .ok (.iushr, 1) := by decide +kernel
theorem dJ6_bitCount_0f7a4_46 : decode cJ6_bitCount_0f7a4 46 = .ok (.iadd, 1) := by decide +kernel
theorem dJ6_bitCount_0f7a4_47 : decode cJ6_bitCount_0f7a4 47 = .ok (.istore_n 0, 1) := by decide +kernel
theorem dJ6_bitCount_0f7a4_48 : decode cJ6_bitCount_0f7a4 48 = .ok (.iload_n 0, 1) := by decide +kernel
theorem dJ6_bitCount_0f7a4_49 : decode cJ6_bitCount_0f7a4 49 = .ok (.bipush 63, 2) := by decide +kernel
theorem dJ6_bitCount_0f7a4_51 : decode cJ6_bitCount_0f7a4 51 = .ok (.iand, 1) := by decide +kernel
theorem dJ6_bitCount_0f7a4_52 : decode cJ6_bitCount_0f7a4 52 = .ok (.ireturn, 1) := by decide +kernel
theorem dJ9_abs_0f7a4_0 : decode cJ9_abs_0f7a4 0 = .ok (.iload_n 0, 1) := by decide +kernel
theorem dJ9_abs_0f7a4_1 : decode cJ9_abs_0f7a4 1 = .ok (.ifCond .ge 8, 3) := by decide +kernel
theorem dJ9_abs_0f7a4_4 : decode cJ9_abs_0f7a4 4 = .ok (.iload_n 0, 1) := by decide +kernel
theorem dJ9_abs_0f7a4_5 : decode cJ9_abs_0f7a4 5 = .ok (.ineg, 1) := by decide +kernel
theorem dJ9_abs_0f7a4_6 : decode cJ9_abs_0f7a4 6 = .ok (.goto 4, 3) := by decide +kernel
theorem dJ9_abs_0f7a4_9 : decode cJ9_abs_0f7a4 9 = .ok (.iload_n 0, 1) := by decide +kernel
theorem dJ9_abs_0f7a4_10 : decode cJ9_abs_0f7a4 10 = .ok (.ireturn, 1) := by decide +kernel
theorem dJ9_max_7cf53_0 : decode cJ9_max_7cf53 0 = .ok (.iload_n 0, 1) := by decide +kernel
theorem dJ9_max_7cf53_1 : decode cJ9_max_7cf53 1 = .ok (.iload_n 1, 1) := by decide +kernel
theorem dJ9_max_7cf53_2 : decode cJ9_max_7cf53 2 = .ok (.if_icmp .lt 7, 3) := by decide +kernel
theorem dJ9_max_7cf53_5 : decode cJ9_max_7cf53 5 = .ok (.iload_n 0, 1) := by decide +kernel
theorem dJ9_max_7cf53_6 : decode cJ9_max_7cf53 6 = .ok (.goto 4, 3) := by decide +kernel
theorem dJ9_max_7cf53_9 : decode cJ9_max_7cf53 9 = .ok (.iload_n 1, 1) := by decide +kernel
theorem dJ9_max_7cf53_10 : decode cJ9_max_7cf53 10 = .ok (.ireturn, 1) := by decide +kernel
theorem dJ9_min_7cf53_0 : decode cJ9_min_7cf53 0 = .ok (.iload_n 0, 1) := by decide +kernel
theorem dJ9_min_7cf53_1 : decode cJ9_min_7cf53 1 = .ok (.iload_n 1, 1) := by decide +kernel
theorem dJ9_min_7cf53_2 : decode cJ9_min_7cf53 2 = .ok (.if_icmp .gt 7, 3) := by decide +kernel
theorem dJ9_min_7cf53_5 : decode cJ9_min_7cf53 5 = .ok (.iload_n 0, 1) := by decide +kernel
theorem dJ9_min_7cf53_6 : decode cJ9_min_7cf53 6 = .ok (.goto 4, 3) := by decide +kernel
theorem dJ9_min_7cf53_9 : decode cJ9_min_7cf53 9 = .ok (.iload_n 1, 1) := by decide +kernel
theorem dJ9_min_7cf53_10 : decode cJ9_min_7cf53 10 = .ok (.ireturn, 1) := by decide +kernel
theorem dJ0_length_8abf5_0 : decode cJ0_length_8abf5 0 = .ok (.aload_n 0, 1) := by decide +kernel
theorem dJ0_length_8abf5_1 : decode cJ0_length_8abf5 1 = .ok (.getfield 9, 3) := by decide +kernel
theorem dJ0_length_8abf5_4 : decode cJ0_length_8abf5 4 = .ok (.arraylength, 1) := by decide +kernel
theorem dJ0_length_8abf5_5 : decode cJ0_length_8abf5 5 = .ok (.aload_n 0, 1) := by decide +kernel
theorem dJ0_length_8abf5_6 : decode cJ0_length_8abf5 6 = .ok (.invokevirtual 335, 3) := by decide +kernel
theorem dJ0_length_8abf5_9 : decode cJ0_length_8abf5 9 = .ok (.ishr, 1) := by decide +kernel
theorem dJ0_length_8abf5_10 : decode cJ0_length_8abf5 10 = .ok (.ireturn, 1) := by decide +kernel
theorem dJ0_charAt_5068e_0 : decode cJ0_charAt_5068e 0 = .ok (.aload_n 0, 1) := by decide +kernel
theorem dJ0_charAt_5068e_1 : decode cJ0_charAt_5068e 1 = .ok (.invokevirtual 492, 3) := by decide +kernel
theorem dJ0_charAt_5068e_4 : decode cJ0_charAt_5068e 4 = .ok (.ifCond .eq 12, 3) := by decide +kernel
theorem dJ0_charAt_5068e_7 : decode cJ0_charAt_5068e 7 = .ok (.aload_n 0, 1) := by decide +kernel
theorem dJ0_charAt_5068e_8 : decode cJ0_charAt_5068e 8 = .ok (.getfield 9, 3) := by decide +kernel
theorem dJ0_charAt_5068e_11 : decode cJ0_charAt_5068e 11 = .ok (.iload_n 1, 1) := by decide +kernel
theorem dJ0_charAt_5068e_12 : decode cJ0_charAt_5068e 12 = .ok (.invokestatic 495, 3) := by decide +kernel
theorem dJ0_charAt_5068e_15 : decode cJ0_charAt_5068e 15 = .ok (.ireturn, 1) := by decide +kernel
theorem dJ0_charAt_5068e_16 : decode cJ0_charAt_5068e 16 = .ok (.aload_n 0, 1) := by decide +kernel
theorem dJ0_charAt_5068e_17 : decode cJ0_charAt_5068e 17 = .ok (.getfield 9, 3) := by decide +kernel
theorem dJ0_charAt_5068e_20 : decode cJ0_charAt_5068e 20 = .ok (.iload_n 1, 1) := by decide +kernel
theorem dJ0_charAt_5068e_21 : decode cJ0_charAt_5068e 21 = .ok (.invokestatic 498, 3) := by decide +kernel
theorem dJ0_charAt_5068e_24 : decode cJ0_charAt_5068e 24 = .ok (.ireturn, 1) := by decide +kernel
theorem dJ0_coder_7d493_0 : decode cJ0_coder_7d493 0 = .ok (.getstatic 38, 3) := by decide +kernel
theorem dJ0_coder_7d493_3 : decode cJ0_coder_7d493 3 = .ok (.ifCond .eq 10, 3) := by decide +kernel
theorem dJ0_coder_7d493_6 : decode cJ0_coder_7d493 6 = .ok (.aload_n 0, 1) := by decide +kernel
theorem dJ0_coder_7d493_7 : decode cJ0_coder_7d493 7 = .ok (.getfield 15, 3) := by decide +kernel
theorem dJ0_coder_7d493_10 : decode cJ0_coder_7d493 10 = .ok (.goto 4, 3) := by decide +kernel
theorem dJ0_coder_7d493_13 : decode cJ0_coder_7d493 13 = .ok (.iconst 1, 1) := by decide +kernel
theorem dJ0_coder_7d493_14 : decode cJ0_coder_7d493 14 = .ok (.ireturn, 1) := by decide +kernel
theorem dJ0_isLatin1_aae02_0 : decode cJ0_isLatin1_aae02 0 = .ok (.getstatic 38, 3) := by decide +kernel
theorem dJ0_isLatin1_aae02_3 : decode cJ0_isLatin1_aae02 3 = .ok (.ifCond .eq 14, 3) := by decide +kernel
theorem dJ0_isLatin1_aae02_6 : decode cJ0_isLatin1_aae02 6 = .ok (.aload_n 0, 1) := by decide +kernel
theorem dJ0_isLatin1_aae02_7 : decode cJ0_isLatin1_aae02 7 = .ok (.getfield 15, 3) := by decide +kernel
theorem dJ0_isLatin1_aae02_10 : decode cJ0_isLatin1_aae02 10 = .ok (.ifCond .ne 7, 3) := by decide +kernel
theorem dJ0_isLatin1_aae02_13 : decode cJ0_isLatin1_aae02 13 = .ok (.iconst 1, 1) := by decide +kernel
theorem dJ0_isLatin1_aae02_14 : decode cJ0_isLatin1_aae02 14 = .ok (.goto 4, 3) := by decide +kernel
theorem dJ0_isLatin1_aae02_17 : decode cJ0_isLatin1_aae02 17 = .ok (.iconst 0, 1) := by decide +kernel
theorem dJ0_isLatin1_aae02_18 : decode cJ0_isLatin1_aae02 18 = .ok (.ireturn, 1) := by decide +kernel
theorem dJ0_checkIndex_df160_0 : decode cJ0_checkIndex_df160 0 = .ok (.iload_n 0, 1) := by decide +kernel
theorem dJ0_checkIndex_df160_1 : decode cJ0_checkIndex_df160 1 = .ok (.iload_n 1, 1) := by decide +kernel
theorem dJ0_checkIndex_df160_2 : decode cJ0_checkIndex_df160 2 = .ok (.getstatic 1053, 3) := by decide +kernel
theorem dJ0_checkIndex_df160_5 : decode cJ0_checkIndex_df160 5 = .ok (.invokestatic 1059, 3) := by decide +kernel
theorem dJ0_checkIndex_df160_8 : decode cJ0_checkIndex_df160 8 = .ok (.pop, 1) := by decide +kernel
theorem dJ0_checkIndex_df160_9 : decode cJ0_checkIndex_df160 9 = .ok (.return_, 1) := by decide +kernel
theorem dJ1_charAt_3b067_0 : decode cJ1_charAt_3b067 0 = .ok (.iload_n 1, 1) := by decide +kernel
theorem dJ1_charAt_3b067_1 : decode cJ1_charAt_3b067 1 = .ok (.aload_n 0, 1) := by decide +kernel
theorem dJ1_charAt_3b067_2 : decode cJ1_charAt_3b067 2 = .ok (.arraylength, 1) := by decide +kernel
theorem dJ1_charAt_3b067_3 : decode cJ1_charAt_3b067 3 = .ok (.invokestatic 9, 3) := by decide +kernel
theorem dJ1_charAt_3b067_6 : decode cJ1_charAt_3b067 6 = .ok (.aload_n 0, 1) := by decide +kernel
theorem dJ1_charAt_3b067_7 : decode cJ1_charAt_3b067 7 = .ok (.iload_n 1, 1) := by decide +kernel
theorem dJ1_charAt_3b067_8 : decode cJ1_charAt_3b067 8 = .ok (.baload, 1) := by decide +kernel
theorem dJ1_charAt_3b067_9 : decode cJ1_charAt_3b067 9 = .ok (.sipush 255, 3) := by decide +kernel
theorem dJ1_charAt_3b067_12 : decode cJ1_charAt_3b067 12 = .ok (.iand, 1) := by decide +kernel
theorem dJ1_charAt_3b067_13 : decode cJ1_charAt_3b067 13 = .ok (.i2c, 1) := by decide +kernel
theorem dJ1_charAt_3b067_14 : decode cJ1_charAt_3b067 14 = .ok (.ireturn, 1) := by decide +kernel
theorem dJ2_getChar_3b067_0 : decode cJ2_getChar_3b067 0 = .ok (.getstatic 44, 3) := by decide +kernel
theorem dJ2_getChar_3b067_3 : decode cJ2_getChar_3b067 3 = .ok (.ifCond .ne 25, 3) := by decide +kernel
theorem dJ2_getChar_3b067_6 : decode cJ2_getChar_3b067 6 = .ok (.iload_n 1, 1) := by decide +kernel
theorem dJ2_getChar_3b067_7 : decode cJ2_getChar_3b067 7 = .ok (.ifCond .lt 11, 3) := by decide +kernel
theorem dJ2_getChar_3b067_10 : decode cJ2_getChar_3b067 10 = .ok (.iload_n 1, 1) := by decide +kernel
theorem dJ2_getChar_3b067_11 : decode cJ2_getChar_3b067 11 = .ok (.aload_n 0, 1) := by decide +kernel
theorem dJ2_getChar_3b067_12 : decode cJ2_getChar_3b067 12 = .ok (.invokestatic 48, 3) := by decide +kernel
theorem dJ2_getChar_3b067_15 : decode cJ2_getChar_3b067 15 = .ok (.if_icmp .lt 13, 3) := by decide +kernel
theorem dJ2_getChar_3b067_18 : decode cJ2_getChar_3b067 18 = .ok (.new 52, 3) := by decide +kernel
theorem dJ2_getChar_3b067_21 : decode cJ2_getChar_3b067 21 = .ok (.dup, 1) := by decide +kernel
theorem dJ2_getChar_3b067_22 : decode cJ2_getChar_3b067 22 = .ok (.ldc 54, 2) := by decide +kernel
theorem dJ2_getChar_3b067_24 : decode cJ2_getChar_3b067 24 = .ok (.invokespecial 56, 3) := by decide +kernel
theorem dJ2_getChar_3b067_27 : decode cJ2_getChar_3b067 27 = .ok (.athrow, 1) := by decide +kernel
theorem dJ2_getChar_3b067_28 : decode cJ2_getChar_3b067 28 = .ok (.iload_n 1, 1) := by decide +kernel
theorem dJ2_getChar_3b067_29 : decode cJ2_getChar_3b067 29 = .ok (.iconst 1, 1) := by decide +kernel
theorem dJ2_getChar_3b067_30 : decode cJ2_getChar_3b067 30 = .ok (.ishl, 1) := by decide +kernel
theorem dJ2_getChar_3b067_31 : decode cJ2_getChar_3b067 31 = .ok (.istore_n 1, 1) := by decide +kernel
theorem dJ2_getChar_3b067_32 : decode cJ2_getChar_3b067 32 = .ok (.aload_n 0, 1) := by decide +kernel
theorem dJ2_getChar_3b067_33 : decode cJ2_getChar_3b067 33 = .ok (.iload_n 1, 1) := by decide +kernel
theorem dJ2_getChar_3b067_34 : decode cJ2_getChar_3b067 34 = .ok (.iinc 1 1, 3) := by decide +kernel
theorem dJ2_getChar_3b067_37 : decode cJ2_getChar_3b067 37 = .ok (.baload, 1) := by decide +kernel
theorem dJ2_getChar_3b067_38 : decode cJ2_getChar_3b067 38 = .ok (.sipush 255, 3) := by decide +kernel
theorem dJ2_getChar_3b067_41 : decode cJ2_getChar_3b067 41 = .ok (.iand, 1) := by decide +kernel
theorem dJ2_getChar_3b067_42 : decode cJ2_getChar_3b067 42 = .ok (.getstatic 59, 3) := by decide +kernel
theorem dJ2_getChar_3b067_45 : decode cJ2_getChar_3b067 45 = .ok (.ishl, 1) := by decide +kernel
theorem dJ2_getChar_3b067_46 : decode cJ2_getChar_3b067 46 = .ok (.aload_n 0, 1) := by decide +kernel
theorem dJ2_getChar_3b067_47 : decode cJ2_getChar_3b067 47 = .ok (.iload_n 1, 1) := by decide +kernel
theorem dJ2_getChar_3b067_48 : decode cJ2_getChar_3b067 48 = .ok (.baload, 1) := by decide +kernel
theorem dJ2_getChar_3b067_49 : decode cJ2_getChar_3b067 49 = .ok (.sipush 255, 3) := by decide +kernel
theorem dJ2_getChar_3b067_52 : decode cJ2_getChar_3b067 52 = .ok (.iand, 1) := by decide +kernel
theorem dJ2_getChar_3b067_53 : decode cJ2_getChar_3b067 53 = .ok (.getstatic 63, 3) := by decide +kernel
theorem dJ2_getChar_3b067_56 : decode cJ2_getChar_3b067 56 = .ok (.ishl, 1) := by decide +kernel
theorem dJ2_getChar_3b067_57 : decode cJ2_getChar_3b067 57 = .ok (.ior, 1) := by decide +kernel
theorem dJ2_getChar_3b067_58 : decode cJ2_getChar_3b067 58 = .ok (.i2c, 1) := by decide +kernel
theorem dJ2_getChar_3b067_59 : decode cJ2_getChar_3b067 59 = .ok (.ireturn, 1) := by decide +kernel
theorem dJ2_length_9d52b_0 : decode cJ2_length_9d52b 0 = .ok (.aload_n 0, 1) := by decide +kernel
theorem dJ2_length_9d52b_1 : decode cJ2_length_9d52b 1 = .ok (.arraylength, 1) := by decide +kernel
theorem dJ2_length_9d52b_2 : decode cJ2_length_9d52b 2 = .ok (.iconst 1, 1) := by decide +kernel
theorem dJ2_length_9d52b_3 : decode cJ2_length_9d52b 3 = .ok (.ishr, 1) := by decide +kernel
theorem dJ2_length_9d52b_4 : decode cJ2_length_9d52b 4 = .ok (.ireturn, 1) := by decide +kernel
theorem dJ2_charAt_3b067_0 : decode cJ2_charAt_3b067 0 = .ok (.iload_n 1, 1) := by decide +kernel
theorem dJ2_charAt_3b067_1 : decode cJ2_charAt_3b067 1 = .ok (.aload_n 0, 1) := by decide +kernel
theorem dJ2_charAt_3b067_2 : decode cJ2_charAt_3b067 2 = .ok (.invokestatic 67, 3) := by decide +kernel
theorem dJ2_charAt_3b067_5 : decode cJ2_charAt_3b067 5 = .ok (.aload_n 0, 1) := by decide +kernel
theorem dJ2_charAt_3b067_6 : decode cJ2_charAt_3b067 6 = .ok (.iload_n 1, 1) := by decide +kernel
theorem dJ2_charAt_3b067_7 : decode cJ2_charAt_3b067 7 = .ok (.invokestatic 71, 3) := by decide +kernel
theorem dJ2_charAt_3b067_10 : decode cJ2_charAt_3b067 10 = .ok (.ireturn, 1) := by decide +kernel
theorem dJ2_checkIndex_2214a_0 : decode cJ2_checkIndex_2214a 0 = .ok (.iload_n 0, 1) := by decide +kernel
theorem dJ2_checkIndex_2214a_1 : decode cJ2_checkIndex_2214a 1 = .ok (.aload_n 1, 1) := by decide +kernel
theorem dJ2_checkIndex_2214a_2 : decode cJ2_checkIndex_2214a 2 = .ok (.invokestatic 48, 3) := by decide +kernel
theorem dJ2_checkIndex_2214a_5 : decode cJ2_checkIndex_2214a 5 = .ok (.invokestatic 414, 3) := by decide +kernel
theorem dJ2_checkIndex_2214a_8 : decode cJ2_checkIndex_2214a 8 = .ok (.return_, 1) := by decide +kernel
theorem dJ7_fill_53178_0 : decode cJ7_fill_53178 0 = .ok (.iconst 0, 1) := by decide +kernel
theorem dJ7_fill_53178_1 : decode cJ7_fill_53178 1 = .ok (.istore_n 2, 1) := by decide +kernel
theorem dJ7_fill_53178_2 : decode cJ7_fill_53178 2 = .ok (.aload_n 0, 1) := by decide +kernel
theorem dJ7_fill_53178_3 : decode cJ7_fill_53178 3 = .ok (.arraylength, 1) := by decide +kernel
theorem dJ7_fill_53178_4 : decode cJ7_fill_53178 4 = .ok (.istore_n 3, 1) := by decide +kernel
theorem dJ7_fill_53178_5 : decode cJ7_fill_53178 5 = .ok (.iload_n 2, 1) := by decide +kernel
theorem dJ7_fill_53178_6 : decode cJ7_fill_53178 6 = .ok (.iload_n 3, 1) := by decide +kernel
theorem dJ7_fill_53178_7 : decode cJ7_fill_53178 7 = .ok (.if_icmp .ge 13, 3) := by decide +kernel
theorem dJ7_fill_53178_10 : decode cJ7_fill_53178 10 = .ok (.aload_n 0, 1) := by decide +kernel
theorem dJ7_fill_53178_11 : decode cJ7_fill_53178 11 = .ok (.iload_n 2, 1) := by decide +kernel
theorem dJ7_fill_53178_12 : decode cJ7_fill_53178 12 = .ok (.iload_n 1, 1) := by decide +kernel
theorem dJ7_fill_53178_13 : decode cJ7_fill_53178 13 = .ok (.iastore, 1) := by decide +kernel
theorem dJ7_fill_53178_14 : decode cJ7_fill_53178 14 = .ok (.iinc 2 1, 3) := by decide +kernel
theorem dJ7_fill_53178_17 : decode cJ7_fill_53178 17 = .ok (.goto (-12), 3) := by decide +kernel
theorem dJ7_fill_53178_20 : decode cJ7_fill_53178 20 = .ok (.return_, 1) := by decide +kernel
theorem dJ3_checkIndex_8e157_0 : decode cJ3_checkIndex_8e157 0 = .ok (.iload_n 0, 1) := by decide +kernel
theorem dJ3_checkIndex_8e157_1 : decode cJ3_checkIndex_8e157 1 = .ok (.ifCond .lt 8, 3) := by decide +kernel
theorem dJ3_checkIndex_8e157_4 : decode cJ3_checkIndex_8e157 4 = .ok (.iload_n 0, 1) := by decide +kernel
theorem dJ3_checkIndex_8e157_5 : decode cJ3_checkIndex_8e157 5 = .ok (.iload_n 1, 1) := by decide +kernel
theorem dJ3_checkIndex_8e157_6 : decode cJ3_checkIndex_8e157 6 = .ok (.if_icmp .lt 10, 3) := by decide +kernel
theorem dJ3_checkIndex_8e157_9 : decode cJ3_checkIndex_8e157 9 = .ok (.aload_n 2, 1) := by decide +kernel
theorem dJ3_checkIndex_8e157_10 : decode cJ3_checkIndex_8e157 10 = .ok (.iload_n 0, 1) := by decide +kernel
theorem dJ3_checkIndex_8e157_11 : decode cJ3_checkIndex_8e157 11 = .ok (.iload_n 1, 1) := by decide +kernel
theorem dJ3_checkIndex_8e157_12 : decode cJ3_checkIndex_8e157 12 = .ok (.invokestatic 95, 3) := by decide +kernel
theorem dJ3_checkIndex_8e157_15 : decode cJ3_checkIndex_8e157 15 = .ok (.athrow, 1) := by decide +kernel
theorem dJ3_checkIndex_8e157_16 : decode cJ3_checkIndex_8e157 16 = .ok (.iload_n 0, 1) := by decide +kernel
theorem dJ3_checkIndex_8e157_17 : decode cJ3_checkIndex_8e157 17 = .ok (.ireturn, 1) := by decide +kernel
theorem dL_ball_0 : decode cL_ball 0 = .ok (.aload_n 2, 1) := by decide +kernel
theorem dL_ball_1 : decode cL_ball 1 = .ok (.iconst 0, 1) := by decide +kernel
theorem dL_ball_2 : decode cL_ball 2 = .ok (.aload_n 0, 1) := by decide +kernel
theorem dL_ball_3 : decode cL_ball 3 = .ok (.iload_n 1, 1) := by decide +kernel
theorem dL_ball_4 : decode cL_ball 4 = .ok (.invokevirtual 7, 3) := by decide +kernel
theorem dL_ball_7 : decode cL_ball 7 = .ok (.i2l, 1) := by decide +kernel
theorem dL_ball_8 : decode cL_ball 8 = .ok (.lastore, 1) := by decide +kernel
theorem dL_ball_9 : decode cL_ball 9 = .ok (.goto 6, 3) := by decide +kernel
theorem dL_ball_12 : decode cL_ball 12 = .ok (.astore_n 3, 1) := by decide +kernel
theorem dL_ball_13 : decode cL_ball 13 = .ok (.iconst 1, 1) := by decide +kernel
theorem dL_ball_14 : decode cL_ball 14 = .ok (.ireturn, 1) := by decide +kernel
theorem dL_ball_15 : decode cL_ball 15 = .ok (.iconst 0, 1) := by decide +kernel
theorem dL_ball_16 : decode cL_ball 16 = .ok (.ireturn, 1) := by decide +kernel
theorem dL_count_0 : decode cL_count 0 = .ok (.aload_n 2, 1) := by decide +kernel
theorem dL_count_1 : decode cL_count 1 = .ok (.iconst 0, 1) := by decide +kernel
theorem dL_count_2 : decode cL_count 2 = .ok (.aload_n 0, 1) := by decide +kernel
theorem dL_count_3 : decode cL_count 3 = .ok (.iload_n 1, 1) := by decide +kernel
theorem dL_count_4 : decode cL_count 4 = .ok (.invokevirtual 15, 3) := by decide +kernel
theorem dL_count_7 : decode cL_count 7 = .ok (.i2l, 1) := by decide +kernel
theorem dL_count_8 : decode cL_count 8 = .ok (.lastore, 1) := by decide +kernel
theorem dL_count_9 : decode cL_count 9 = .ok (.goto 6, 3) := by decide +kernel
theorem dL_count_12 : decode cL_count 12 = .ok (.astore_n 3, 1) := by decide +kernel
theorem dL_count_13 : decode cL_count 13 = .ok (.iconst 1, 1) := by decide +kernel
theorem dL_count_14 : decode cL_count 14 = .ok (.ireturn, 1) := by decide +kernel
theorem dL_count_15 : decode cL_count 15 = .ok (.iconst 0, 1) := by decide +kernel
theorem dL_count_16 : decode cL_count 16 = .ok (.ireturn, 1) := by decide +kernel
theorem dL_knees_0 : decode cL_knees 0 = .ok (.aload_n 2, 1) := by decide +kernel
theorem dL_knees_1 : decode cL_knees 1 = .ok (.iconst 0, 1) := by decide +kernel
theorem dL_knees_2 : decode cL_knees 2 = .ok (.aload_n 0, 1) := by decide +kernel
theorem dL_knees_3 : decode cL_knees 3 = .ok (.iload_n 1, 1) := by decide +kernel
theorem dL_knees_4 : decode cL_knees 4 = .ok (.invokevirtual 20, 3) := by decide +kernel
theorem dL_knees_7 : decode cL_knees 7 = .ok (.i2l, 1) := by decide +kernel
theorem dL_knees_8 : decode cL_knees 8 = .ok (.lastore, 1) := by decide +kernel
theorem dL_knees_9 : decode cL_knees 9 = .ok (.goto 6, 3) := by decide +kernel
theorem dL_knees_12 : decode cL_knees 12 = .ok (.astore_n 3, 1) := by decide +kernel
theorem dL_knees_13 : decode cL_knees 13 = .ok (.iconst 1, 1) := by decide +kernel
theorem dL_knees_14 : decode cL_knees 14 = .ok (.ireturn, 1) := by decide +kernel
theorem dL_knees_15 : decode cL_knees 15 = .ok (.iconst 0, 1) := by decide +kernel
theorem dL_knees_16 : decode cL_knees 16 = .ok (.ireturn, 1) := by decide +kernel
theorem dL_dance_0 : decode cL_dance 0 = .ok (.aload_n 3, 1) := by decide +kernel
theorem dL_dance_1 : decode cL_dance 1 = .ok (.iconst 0, 1) := by decide +kernel
theorem dL_dance_2 : decode cL_dance 2 = .ok (.aload_n 0, 1) := by decide +kernel
theorem dL_dance_3 : decode cL_dance 3 = .ok (.iload_n 1, 1) := by decide +kernel
theorem dL_dance_4 : decode cL_dance 4 = .ok (.iload_n 2, 1) := by decide +kernel
theorem dL_dance_5 : decode cL_dance 5 = .ok (.invokevirtual 23, 3) := by decide +kernel
theorem dL_dance_8 : decode cL_dance 8 = .ok (.i2l, 1) := by decide +kernel
theorem dL_dance_9 : decode cL_dance 9 = .ok (.lastore, 1) := by decide +kernel
theorem dL_dance_10 : decode cL_dance 10 = .ok (.goto 7, 3) := by decide +kernel
theorem dL_dance_13 : decode cL_dance 13 = .ok (.astore 4, 2) := by decide +kernel
theorem dL_dance_15 : decode cL_dance 15 = .ok (.iconst 1, 1) := by decide +kernel
theorem dL_dance_16 : decode cL_dance 16 = .ok (.ireturn, 1) := by decide +kernel
theorem dL_dance_17 : decode cL_dance 17 = .ok (.iconst 0, 1) := by decide +kernel
theorem dL_dance_18 : decode cL_dance 18 = .ok (.ireturn, 1) := by decide +kernel
theorem dL_step_0 : decode cL_step 0 = .ok (.aload 4, 2) := by decide +kernel
theorem dL_step_2 : decode cL_step 2 = .ok (.iconst 0, 1) := by decide +kernel
theorem dL_step_3 : decode cL_step 3 = .ok (.aload_n 0, 1) := by decide +kernel
theorem dL_step_4 : decode cL_step 4 = .ok (.iload_n 1, 1) := by decide +kernel
theorem dL_step_5 : decode cL_step 5 = .ok (.iload_n 2, 1) := by decide +kernel
theorem dL_step_6 : decode cL_step 6 = .ok (.iload_n 3, 1) := by decide +kernel
theorem dL_step_7 : decode cL_step 7 = .ok (.invokevirtual 27, 3) := by decide +kernel
theorem dL_step_10 : decode cL_step 10 = .ok (.i2l, 1) := by decide +kernel
theorem dL_step_11 : decode cL_step 11 = .ok (.lastore, 1) := by decide +kernel
theorem dL_step_12 : decode cL_step 12 = .ok (.goto 7, 3) := by decide +kernel
theorem dL_step_15 : decode cL_step 15 = .ok (.astore 5, 2) := by decide +kernel
theorem dL_step_17 : decode cL_step 17 = .ok (.iconst 1, 1) := by decide +kernel
theorem dL_step_18 : decode cL_step 18 = .ok (.ireturn, 1) := by decide +kernel
theorem dL_step_19 : decode cL_step 19 = .ok (.iconst 0, 1) := by decide +kernel
theorem dL_step_20 : decode cL_step 20 = .ok (.ireturn, 1) := by decide +kernel
theorem dL_where_0 : decode cL_where 0 = .ok (.aload 5, 2) := by decide +kernel
theorem dL_where_2 : decode cL_where 2 = .ok (.iconst 0, 1) := by decide +kernel
theorem dL_where_3 : decode cL_where 3 = .ok (.aload_n 0, 1) := by decide +kernel
theorem dL_where_4 : decode cL_where 4 = .ok (.iload_n 1, 1) := by decide +kernel
theorem dL_where_5 : decode cL_where 5 = .ok (.iload_n 2, 1) := by decide +kernel
theorem dL_where_6 : decode cL_where 6 = .ok (.iload_n 3, 1) := by decide +kernel
theorem dL_where_7 : decode cL_where 7 = .ok (.iload 4, 2) := by decide +kernel
theorem dL_where_9 : decode cL_where 9 = .ok (.invokevirtual 31, 3) := by decide +kernel
theorem dL_where_12 : decode cL_where 12 = .ok (.i2l, 1) := by decide +kernel
theorem dL_where_13 : decode cL_where 13 = .ok (.lastore, 1) := by decide +kernel
theorem dL_where_14 : decode cL_where 14 = .ok (.goto 7, 3) := by decide +kernel
theorem dL_where_17 : decode cL_where 17 = .ok (.astore 6, 2) := by decide +kernel
theorem dL_where_19 : decode cL_where 19 = .ok (.iconst 1, 1) := by decide +kernel
theorem dL_where_20 : decode cL_where 20 = .ok (.ireturn, 1) := by decide +kernel
theorem dL_where_21 : decode cL_where 21 = .ok (.iconst 0, 1) := by decide +kernel
theorem dL_where_22 : decode cL_where 22 = .ok (.ireturn, 1) := by decide +kernel
theorem dL_bound_0 : decode cL_bound 0 = .ok (.aload_n 3, 1) := by decide +kernel
theorem dL_bound_1 : decode cL_bound 1 = .ok (.iconst 0, 1) := by decide +kernel
theorem dL_bound_2 : decode cL_bound 2 = .ok (.aload_n 0, 1) := by decide +kernel
theorem dL_bound_3 : decode cL_bound 3 = .ok (.iload_n 1, 1) := by decide +kernel
theorem dL_bound_4 : decode cL_bound 4 = .ok (.iload_n 2, 1) := by decide +kernel
theorem dL_bound_5 : decode cL_bound 5 = .ok (.invokevirtual 35, 3) := by decide +kernel
theorem dL_bound_8 : decode cL_bound 8 = .ok (.i2l, 1) := by decide +kernel
theorem dL_bound_9 : decode cL_bound 9 = .ok (.lastore, 1) := by decide +kernel
theorem dL_bound_10 : decode cL_bound 10 = .ok (.goto 7, 3) := by decide +kernel
theorem dL_bound_13 : decode cL_bound 13 = .ok (.astore 4, 2) := by decide +kernel
theorem dL_bound_15 : decode cL_bound 15 = .ok (.iconst 1, 1) := by decide +kernel
theorem dL_bound_16 : decode cL_bound 16 = .ok (.ireturn, 1) := by decide +kernel
theorem dL_bound_17 : decode cL_bound 17 = .ok (.iconst 0, 1) := by decide +kernel
theorem dL_bound_18 : decode cL_bound 18 = .ok (.ireturn, 1) := by decide +kernel
theorem dL_clauses_0 : decode cL_clauses 0 = .ok (.aload_n 3, 1) := by decide +kernel
theorem dL_clauses_1 : decode cL_clauses 1 = .ok (.iconst 0, 1) := by decide +kernel
theorem dL_clauses_2 : decode cL_clauses 2 = .ok (.aload_n 0, 1) := by decide +kernel
theorem dL_clauses_3 : decode cL_clauses 3 = .ok (.iload_n 1, 1) := by decide +kernel
theorem dL_clauses_4 : decode cL_clauses 4 = .ok (.iload_n 2, 1) := by decide +kernel
theorem dL_clauses_5 : decode cL_clauses 5 = .ok (.invokevirtual 38, 3) := by decide +kernel
theorem dL_clauses_8 : decode cL_clauses 8 = .ok (.i2l, 1) := by decide +kernel
theorem dL_clauses_9 : decode cL_clauses 9 = .ok (.lastore, 1) := by decide +kernel
theorem dL_clauses_10 : decode cL_clauses 10 = .ok (.goto 7, 3) := by decide +kernel
theorem dL_clauses_13 : decode cL_clauses 13 = .ok (.astore 4, 2) := by decide +kernel
theorem dL_clauses_15 : decode cL_clauses 15 = .ok (.iconst 1, 1) := by decide +kernel
theorem dL_clauses_16 : decode cL_clauses 16 = .ok (.ireturn, 1) := by decide +kernel
theorem dL_clauses_17 : decode cL_clauses 17 = .ok (.iconst 0, 1) := by decide +kernel
theorem dL_clauses_18 : decode cL_clauses 18 = .ok (.ireturn, 1) := by decide +kernel
theorem dL_done_0 : decode cL_done 0 = .ok (.aload 4, 2) := by decide +kernel
theorem dL_done_2 : decode cL_done 2 = .ok (.iconst 0, 1) := by decide +kernel
theorem dL_done_3 : decode cL_done 3 = .ok (.aload_n 0, 1) := by decide +kernel
theorem dL_done_4 : decode cL_done 4 = .ok (.iload_n 1, 1) := by decide +kernel
theorem dL_done_5 : decode cL_done 5 = .ok (.iload_n 2, 1) := by decide +kernel
theorem dL_done_6 : decode cL_done 6 = .ok (.iload_n 3, 1) := by decide +kernel
theorem dL_done_7 : decode cL_done 7 = .ok (.invokevirtual 41, 3) := by decide +kernel
theorem dL_done_10 : decode cL_done 10 = .ok (.i2l, 1) := by decide +kernel
theorem dL_done_11 : decode cL_done 11 = .ok (.lastore, 1) := by decide +kernel
theorem dL_done_12 : decode cL_done 12 = .ok (.goto 7, 3) := by decide +kernel
theorem dL_done_15 : decode cL_done 15 = .ok (.astore 5, 2) := by decide +kernel
theorem dL_done_17 : decode cL_done 17 = .ok (.iconst 1, 1) := by decide +kernel
theorem dL_done_18 : decode cL_done 18 = .ok (.ireturn, 1) := by decide +kernel
theorem dL_done_19 : decode cL_done 19 = .ok (.iconst 0, 1) := by decide +kernel
theorem dL_done_20 : decode cL_done 20 = .ok (.ireturn, 1) := by decide +kernel
theorem dL_again_0 : decode cL_again 0 = .ok (.aload_n 2, 1) := by decide +kernel
theorem dL_again_1 : decode cL_again 1 = .ok (.iconst 0, 1) := by decide +kernel
theorem dL_again_2 : decode cL_again 2 = .ok (.aload_n 0, 1) := by decide +kernel
theorem dL_again_3 : decode cL_again 3 = .ok (.iload_n 1, 1) := by decide +kernel
theorem dL_again_4 : decode cL_again 4 = .ok (.invokevirtual 44, 3) := by decide +kernel
theorem dL_again_7 : decode cL_again 7 = .ok (.i2l, 1) := by decide +kernel
theorem dL_again_8 : decode cL_again 8 = .ok (.lastore, 1) := by decide +kernel
theorem dL_again_9 : decode cL_again 9 = .ok (.goto 6, 3) := by decide +kernel
theorem dL_again_12 : decode cL_again 12 = .ok (.astore_n 3, 1) := by decide +kernel
theorem dL_again_13 : decode cL_again 13 = .ok (.iconst 1, 1) := by decide +kernel
theorem dL_again_14 : decode cL_again 14 = .ok (.ireturn, 1) := by decide +kernel
theorem dL_again_15 : decode cL_again 15 = .ok (.iconst 0, 1) := by decide +kernel
theorem dL_again_16 : decode cL_again 16 = .ok (.ireturn, 1) := by decide +kernel
theorem dL_breaks_0 : decode cL_breaks 0 = .ok (.aload_n 2, 1) := by decide +kernel
theorem dL_breaks_1 : decode cL_breaks 1 = .ok (.iconst 0, 1) := by decide +kernel
theorem dL_breaks_2 : decode cL_breaks 2 = .ok (.aload_n 0, 1) := by decide +kernel
theorem dL_breaks_3 : decode cL_breaks 3 = .ok (.iload_n 1, 1) := by decide +kernel
theorem dL_breaks_4 : decode cL_breaks 4 = .ok (.invokevirtual 47, 3) := by decide +kernel
theorem dL_breaks_7 : decode cL_breaks 7 = .ok (.ifCond .eq 7, 3) := by decide +kernel
theorem dL_breaks_10 : decode cL_breaks 10 = .ok (.lconst 1, 1) := by decide +kernel
theorem dL_breaks_11 : decode cL_breaks 11 = .ok (.goto 4, 3) := by decide +kernel
theorem dL_breaks_14 : decode cL_breaks 14 = .ok (.lconst 0, 1) := by decide +kernel
theorem dL_breaks_15 : decode cL_breaks 15 = .ok (.lastore, 1) := by decide +kernel
theorem dL_breaks_16 : decode cL_breaks 16 = .ok (.goto 6, 3) := by decide +kernel
theorem dL_breaks_19 : decode cL_breaks 19 = .ok (.astore_n 3, 1) := by decide +kernel
theorem dL_breaks_20 : decode cL_breaks 20 = .ok (.iconst 1, 1) := by decide +kernel
theorem dL_breaks_21 : decode cL_breaks 21 = .ok (.ireturn, 1) := by decide +kernel
theorem dL_breaks_22 : decode cL_breaks 22 = .ok (.iconst 0, 1) := by decide +kernel
theorem dL_breaks_23 : decode cL_breaks 23 = .ok (.ireturn, 1) := by decide +kernel
theorem dL_stumble_0 : decode cL_stumble 0 = .ok (.aload 4, 2) := by decide +kernel
theorem dL_stumble_2 : decode cL_stumble 2 = .ok (.iconst 0, 1) := by decide +kernel
theorem dL_stumble_3 : decode cL_stumble 3 = .ok (.aload_n 0, 1) := by decide +kernel
theorem dL_stumble_4 : decode cL_stumble 4 = .ok (.iload_n 1, 1) := by decide +kernel
theorem dL_stumble_5 : decode cL_stumble 5 = .ok (.iload_n 2, 1) := by decide +kernel
theorem dL_stumble_6 : decode cL_stumble 6 = .ok (.iload_n 3, 1) := by decide +kernel
theorem dL_stumble_7 : decode cL_stumble 7 = .ok (.invokevirtual 51, 3) := by decide +kernel
theorem dL_stumble_10 : decode cL_stumble 10 = .ok (.i2l, 1) := by decide +kernel
theorem dL_stumble_11 : decode cL_stumble 11 = .ok (.lastore, 1) := by decide +kernel
theorem dL_stumble_12 : decode cL_stumble 12 = .ok (.goto 7, 3) := by decide +kernel
theorem dL_stumble_15 : decode cL_stumble 15 = .ok (.astore 5, 2) := by decide +kernel
theorem dL_stumble_17 : decode cL_stumble 17 = .ok (.iconst 1, 1) := by decide +kernel
theorem dL_stumble_18 : decode cL_stumble 18 = .ok (.ireturn, 1) := by decide +kernel
theorem dL_stumble_19 : decode cL_stumble 19 = .ok (.iconst 0, 1) := by decide +kernel
theorem dL_stumble_20 : decode cL_stumble 20 = .ok (.ireturn, 1) := by decide +kernel
theorem dL_act_0 : decode cL_act 0 = .ok (.aload 4, 2) := by decide +kernel
theorem dL_act_2 : decode cL_act 2 = .ok (.iconst 0, 1) := by decide +kernel
theorem dL_act_3 : decode cL_act 3 = .ok (.aload_n 0, 1) := by decide +kernel
theorem dL_act_4 : decode cL_act 4 = .ok (.iload_n 1, 1) := by decide +kernel
theorem dL_act_5 : decode cL_act 5 = .ok (.iload_n 2, 1) := by decide +kernel
theorem dL_act_6 : decode cL_act 6 = .ok (.iload_n 3, 1) := by decide +kernel
theorem dL_act_7 : decode cL_act 7 = .ok (.invokevirtual 54, 3) := by decide +kernel
theorem dL_act_10 : decode cL_act 10 = .ok (.i2l, 1) := by decide +kernel
theorem dL_act_11 : decode cL_act 11 = .ok (.lastore, 1) := by decide +kernel
theorem dL_act_12 : decode cL_act 12 = .ok (.goto 7, 3) := by decide +kernel
theorem dL_act_15 : decode cL_act 15 = .ok (.astore 5, 2) := by decide +kernel
theorem dL_act_17 : decode cL_act 17 = .ok (.iconst 1, 1) := by decide +kernel
theorem dL_act_18 : decode cL_act 18 = .ok (.ireturn, 1) := by decide +kernel
theorem dL_act_19 : decode cL_act 19 = .ok (.iconst 0, 1) := by decide +kernel
theorem dL_act_20 : decode cL_act 20 = .ok (.ireturn, 1) := by decide +kernel
theorem dL_mend_0 : decode cL_mend 0 = .ok (.aload_n 3, 1) := by decide +kernel
theorem dL_mend_1 : decode cL_mend 1 = .ok (.iconst 0, 1) := by decide +kernel
theorem dL_mend_2 : decode cL_mend 2 = .ok (.aload_n 0, 1) := by decide +kernel
theorem dL_mend_3 : decode cL_mend 3 = .ok (.iload_n 1, 1) := by decide +kernel
theorem dL_mend_4 : decode cL_mend 4 = .ok (.iload_n 2, 1) := by decide +kernel
theorem dL_mend_5 : decode cL_mend 5 = .ok (.invokevirtual 57, 3) := by decide +kernel
theorem dL_mend_8 : decode cL_mend 8 = .ok (.i2l, 1) := by decide +kernel
theorem dL_mend_9 : decode cL_mend 9 = .ok (.lastore, 1) := by decide +kernel
theorem dL_mend_10 : decode cL_mend 10 = .ok (.goto 7, 3) := by decide +kernel
theorem dL_mend_13 : decode cL_mend 13 = .ok (.astore 4, 2) := by decide +kernel
theorem dL_mend_15 : decode cL_mend 15 = .ok (.iconst 1, 1) := by decide +kernel
theorem dL_mend_16 : decode cL_mend 16 = .ok (.ireturn, 1) := by decide +kernel
theorem dL_mend_17 : decode cL_mend 17 = .ok (.iconst 0, 1) := by decide +kernel
theorem dL_mend_18 : decode cL_mend 18 = .ok (.ireturn, 1) := by decide +kernel
theorem dL_costly_0 : decode cL_costly 0 = .ok (.aload_n 2, 1) := by decide +kernel
theorem dL_costly_1 : decode cL_costly 1 = .ok (.iconst 0, 1) := by decide +kernel
theorem dL_costly_2 : decode cL_costly 2 = .ok (.aload_n 0, 1) := by decide +kernel
theorem dL_costly_3 : decode cL_costly 3 = .ok (.iload_n 1, 1) := by decide +kernel
theorem dL_costly_4 : decode cL_costly 4 = .ok (.invokevirtual 60, 3) := by decide +kernel
theorem dL_costly_7 : decode cL_costly 7 = .ok (.i2l, 1) := by decide +kernel
theorem dL_costly_8 : decode cL_costly 8 = .ok (.lastore, 1) := by decide +kernel
theorem dL_costly_9 : decode cL_costly 9 = .ok (.goto 6, 3) := by decide +kernel
theorem dL_costly_12 : decode cL_costly 12 = .ok (.astore_n 3, 1) := by decide +kernel
theorem dL_costly_13 : decode cL_costly 13 = .ok (.iconst 1, 1) := by decide +kernel
theorem dL_costly_14 : decode cL_costly 14 = .ok (.ireturn, 1) := by decide +kernel
theorem dL_costly_15 : decode cL_costly 15 = .ok (.iconst 0, 1) := by decide +kernel
theorem dL_costly_16 : decode cL_costly 16 = .ok (.ireturn, 1) := by decide +kernel
theorem dL_later_0 : decode cL_later 0 = .ok (.aload_n 2, 1) := by decide +kernel
theorem dL_later_1 : decode cL_later 1 = .ok (.iconst 0, 1) := by decide +kernel
theorem dL_later_2 : decode cL_later 2 = .ok (.aload_n 0, 1) := by decide +kernel
theorem dL_later_3 : decode cL_later 3 = .ok (.iload_n 1, 1) := by decide +kernel
theorem dL_later_4 : decode cL_later 4 = .ok (.invokevirtual 63, 3) := by decide +kernel
theorem dL_later_7 : decode cL_later 7 = .ok (.i2l, 1) := by decide +kernel
theorem dL_later_8 : decode cL_later 8 = .ok (.lastore, 1) := by decide +kernel
theorem dL_later_9 : decode cL_later 9 = .ok (.goto 6, 3) := by decide +kernel
theorem dL_later_12 : decode cL_later 12 = .ok (.astore_n 3, 1) := by decide +kernel
theorem dL_later_13 : decode cL_later 13 = .ok (.iconst 1, 1) := by decide +kernel
theorem dL_later_14 : decode cL_later 14 = .ok (.ireturn, 1) := by decide +kernel
theorem dL_later_15 : decode cL_later 15 = .ok (.iconst 0, 1) := by decide +kernel
theorem dL_later_16 : decode cL_later 16 = .ok (.ireturn, 1) := by decide +kernel
theorem dL_inTime_0 : decode cL_inTime 0 = .ok (.aload_n 3, 1) := by decide +kernel
theorem dL_inTime_1 : decode cL_inTime 1 = .ok (.iconst 0, 1) := by decide +kernel
theorem dL_inTime_2 : decode cL_inTime 2 = .ok (.aload_n 0, 1) := by decide +kernel
theorem dL_inTime_3 : decode cL_inTime 3 = .ok (.iload_n 1, 1) := by decide +kernel
theorem dL_inTime_4 : decode cL_inTime 4 = .ok (.iload_n 2, 1) := by decide +kernel
theorem dL_inTime_5 : decode cL_inTime 5 = .ok (.invokevirtual 66, 3) := by decide +kernel
theorem dL_inTime_8 : decode cL_inTime 8 = .ok (.i2l, 1) := by decide +kernel
theorem dL_inTime_9 : decode cL_inTime 9 = .ok (.lastore, 1) := by decide +kernel
theorem dL_inTime_10 : decode cL_inTime 10 = .ok (.goto 11, 3) := by decide +kernel
theorem dL_inTime_13 : decode cL_inTime 13 = .ok (.astore 4, 2) := by decide +kernel
theorem dL_inTime_15 : decode cL_inTime 15 = .ok (.iconst 1, 1) := by decide +kernel
theorem dL_inTime_16 : decode cL_inTime 16 = .ok (.ireturn, 1) := by decide +kernel
theorem dL_inTime_17 : decode cL_inTime 17 = .ok (.astore 4, 2) := by decide +kernel
theorem dL_inTime_19 : decode cL_inTime 19 = .ok (.iconst 2, 1) := by decide +kernel
theorem dL_inTime_20 : decode cL_inTime 20 = .ok (.ireturn, 1) := by decide +kernel
theorem dL_inTime_21 : decode cL_inTime 21 = .ok (.iconst 0, 1) := by decide +kernel
theorem dL_inTime_22 : decode cL_inTime 22 = .ok (.ireturn, 1) := by decide +kernel
theorem dL_apart_0 : decode cL_apart 0 = .ok (.aload_n 2, 1) := by decide +kernel
theorem dL_apart_1 : decode cL_apart 1 = .ok (.iconst 0, 1) := by decide +kernel
theorem dL_apart_2 : decode cL_apart 2 = .ok (.aload_n 0, 1) := by decide +kernel
theorem dL_apart_3 : decode cL_apart 3 = .ok (.iload_n 1, 1) := by decide +kernel
theorem dL_apart_4 : decode cL_apart 4 = .ok (.invokevirtual 69, 3) := by decide +kernel
theorem dL_apart_7 : decode cL_apart 7 = .ok (.i2l, 1) := by decide +kernel
theorem dL_apart_8 : decode cL_apart 8 = .ok (.lastore, 1) := by decide +kernel
theorem dL_apart_9 : decode cL_apart 9 = .ok (.goto 6, 3) := by decide +kernel
theorem dL_apart_12 : decode cL_apart 12 = .ok (.astore_n 3, 1) := by decide +kernel
theorem dL_apart_13 : decode cL_apart 13 = .ok (.iconst 1, 1) := by decide +kernel
theorem dL_apart_14 : decode cL_apart 14 = .ok (.ireturn, 1) := by decide +kernel
theorem dL_apart_15 : decode cL_apart 15 = .ok (.iconst 0, 1) := by decide +kernel
theorem dL_apart_16 : decode cL_apart 16 = .ok (.ireturn, 1) := by decide +kernel
theorem dL_against_0 : decode cL_against 0 = .ok (.aload_n 2, 1) := by decide +kernel
theorem dL_against_1 : decode cL_against 1 = .ok (.iconst 0, 1) := by decide +kernel
theorem dL_against_2 : decode cL_against 2 = .ok (.aload_n 0, 1) := by decide +kernel
theorem dL_against_3 : decode cL_against 3 = .ok (.iload_n 1, 1) := by decide +kernel
theorem dL_against_4 : decode cL_against 4 = .ok (.invokevirtual 72, 3) := by decide +kernel
theorem dL_against_7 : decode cL_against 7 = .ok (.i2l, 1) := by decide +kernel
theorem dL_against_8 : decode cL_against 8 = .ok (.lastore, 1) := by decide +kernel
theorem dL_against_9 : decode cL_against 9 = .ok (.goto 6, 3) := by decide +kernel
theorem dL_against_12 : decode cL_against 12 = .ok (.astore_n 3, 1) := by decide +kernel
theorem dL_against_13 : decode cL_against 13 = .ok (.iconst 1, 1) := by decide +kernel
theorem dL_against_14 : decode cL_against 14 = .ok (.ireturn, 1) := by decide +kernel
theorem dL_against_15 : decode cL_against 15 = .ok (.iconst 0, 1) := by decide +kernel
theorem dL_against_16 : decode cL_against 16 = .ok (.ireturn, 1) := by decide +kernel
theorem dL_help_0 : decode cL_help 0 = .ok (.aload_n 2, 1) := by decide +kernel
theorem dL_help_1 : decode cL_help 1 = .ok (.iconst 0, 1) := by decide +kernel
theorem dL_help_2 : decode cL_help 2 = .ok (.aload_n 0, 1) := by decide +kernel
theorem dL_help_3 : decode cL_help 3 = .ok (.iload_n 1, 1) := by decide +kernel
theorem dL_help_4 : decode cL_help 4 = .ok (.invokevirtual 75, 3) := by decide +kernel
theorem dL_help_7 : decode cL_help 7 = .ok (.i2l, 1) := by decide +kernel
theorem dL_help_8 : decode cL_help 8 = .ok (.lastore, 1) := by decide +kernel
theorem dL_help_9 : decode cL_help 9 = .ok (.goto 6, 3) := by decide +kernel
theorem dL_help_12 : decode cL_help 12 = .ok (.astore_n 3, 1) := by decide +kernel
theorem dL_help_13 : decode cL_help 13 = .ok (.iconst 1, 1) := by decide +kernel
theorem dL_help_14 : decode cL_help 14 = .ok (.ireturn, 1) := by decide +kernel
theorem dL_help_15 : decode cL_help 15 = .ok (.iconst 0, 1) := by decide +kernel
theorem dL_help_16 : decode cL_help 16 = .ok (.ireturn, 1) := by decide +kernel
theorem dL_evenings_0 : decode cL_evenings 0 = .ok (.aload_n 2, 1) := by decide +kernel
theorem dL_evenings_1 : decode cL_evenings 1 = .ok (.iconst 0, 1) := by decide +kernel
theorem dL_evenings_2 : decode cL_evenings 2 = .ok (.aload_n 0, 1) := by decide +kernel
theorem dL_evenings_3 : decode cL_evenings 3 = .ok (.iload_n 1, 1) := by decide +kernel
theorem dL_evenings_4 : decode cL_evenings 4 = .ok (.invokevirtual 78, 3) := by decide +kernel
theorem dL_evenings_7 : decode cL_evenings 7 = .ok (.i2l, 1) := by decide +kernel
theorem dL_evenings_8 : decode cL_evenings 8 = .ok (.lastore, 1) := by decide +kernel
theorem dL_evenings_9 : decode cL_evenings 9 = .ok (.goto 6, 3) := by decide +kernel
theorem dL_evenings_12 : decode cL_evenings 12 = .ok (.astore_n 3, 1) := by decide +kernel
theorem dL_evenings_13 : decode cL_evenings 13 = .ok (.iconst 1, 1) := by decide +kernel
theorem dL_evenings_14 : decode cL_evenings 14 = .ok (.ireturn, 1) := by decide +kernel
theorem dL_evenings_15 : decode cL_evenings 15 = .ok (.iconst 0, 1) := by decide +kernel
theorem dL_evenings_16 : decode cL_evenings 16 = .ok (.ireturn, 1) := by decide +kernel
theorem dL_see_0 : decode cL_see 0 = .ok (.aload 6, 2) := by decide +kernel
theorem dL_see_2 : decode cL_see 2 = .ok (.iconst 0, 1) := by decide +kernel
theorem dL_see_3 : decode cL_see 3 = .ok (.aload_n 0, 1) := by decide +kernel
theorem dL_see_4 : decode cL_see 4 = .ok (.iload_n 1, 1) := by decide +kernel
theorem dL_see_5 : decode cL_see 5 = .ok (.iload_n 2, 1) := by decide +kernel
theorem dL_see_6 : decode cL_see 6 = .ok (.iload_n 3, 1) := by decide +kernel
theorem dL_see_7 : decode cL_see 7 = .ok (.iload 4, 2) := by decide +kernel
theorem dL_see_9 : decode cL_see 9 = .ok (.iload 5, 2) := by decide +kernel
theorem dL_see_11 : decode cL_see 11 = .ok (.invokevirtual 81, 3) := by decide +kernel
theorem dL_see_14 : decode cL_see 14 = .ok (.i2l, 1) := by decide +kernel
theorem dL_see_15 : decode cL_see 15 = .ok (.lastore, 1) := by decide +kernel
theorem dL_see_16 : decode cL_see 16 = .ok (.goto 7, 3) := by decide +kernel
theorem dL_see_19 : decode cL_see 19 = .ok (.astore 7, 2) := by decide +kernel
theorem dL_see_21 : decode cL_see 21 = .ok (.iconst 1, 1) := by decide +kernel
theorem dL_see_22 : decode cL_see 22 = .ok (.ireturn, 1) := by decide +kernel
theorem dL_see_23 : decode cL_see 23 = .ok (.iconst 0, 1) := by decide +kernel
theorem dL_see_24 : decode cL_see 24 = .ok (.ireturn, 1) := by decide +kernel
theorem dL_limp_0 : decode cL_limp 0 = .ok (.aload_n 3, 1) := by decide +kernel
theorem dL_limp_1 : decode cL_limp 1 = .ok (.iconst 0, 1) := by decide +kernel
theorem dL_limp_2 : decode cL_limp 2 = .ok (.aload_n 0, 1) := by decide +kernel
theorem dL_limp_3 : decode cL_limp 3 = .ok (.iload_n 1, 1) := by decide +kernel
theorem dL_limp_4 : decode cL_limp 4 = .ok (.iload_n 2, 1) := by decide +kernel
theorem dL_limp_5 : decode cL_limp 5 = .ok (.invokevirtual 85, 3) := by decide +kernel
theorem dL_limp_8 : decode cL_limp 8 = .ok (.i2l, 1) := by decide +kernel
theorem dL_limp_9 : decode cL_limp 9 = .ok (.lastore, 1) := by decide +kernel
theorem dL_limp_10 : decode cL_limp 10 = .ok (.goto 7, 3) := by decide +kernel
theorem dL_limp_13 : decode cL_limp 13 = .ok (.astore 4, 2) := by decide +kernel
theorem dL_limp_15 : decode cL_limp 15 = .ok (.iconst 1, 1) := by decide +kernel
theorem dL_limp_16 : decode cL_limp 16 = .ok (.ireturn, 1) := by decide +kernel
theorem dL_limp_17 : decode cL_limp 17 = .ok (.iconst 0, 1) := by decide +kernel
theorem dL_limp_18 : decode cL_limp 18 = .ok (.ireturn, 1) := by decide +kernel
theorem dL_game_0 : decode cL_game 0 = .ok (.aload 5, 2) := by decide +kernel
theorem dL_game_2 : decode cL_game 2 = .ok (.iconst 0, 1) := by decide +kernel
theorem dL_game_3 : decode cL_game 3 = .ok (.aload_n 0, 1) := by decide +kernel
theorem dL_game_4 : decode cL_game 4 = .ok (.iload_n 1, 1) := by decide +kernel
theorem dL_game_5 : decode cL_game 5 = .ok (.iload_n 2, 1) := by decide +kernel
theorem dL_game_6 : decode cL_game 6 = .ok (.iload_n 3, 1) := by decide +kernel
theorem dL_game_7 : decode cL_game 7 = .ok (.iload 4, 2) := by decide +kernel
theorem dL_game_9 : decode cL_game 9 = .ok (.invokevirtual 88, 3) := by decide +kernel
theorem dL_game_12 : decode cL_game 12 = .ok (.i2l, 1) := by decide +kernel
theorem dL_game_13 : decode cL_game 13 = .ok (.lastore, 1) := by decide +kernel
theorem dL_game_14 : decode cL_game 14 = .ok (.goto 11, 3) := by decide +kernel
theorem dL_game_17 : decode cL_game 17 = .ok (.astore 6, 2) := by decide +kernel
theorem dL_game_19 : decode cL_game 19 = .ok (.iconst 1, 1) := by decide +kernel
theorem dL_game_20 : decode cL_game 20 = .ok (.ireturn, 1) := by decide +kernel
theorem dL_game_21 : decode cL_game 21 = .ok (.astore 6, 2) := by decide +kernel
theorem dL_game_23 : decode cL_game 23 = .ok (.iconst 2, 1) := by decide +kernel
theorem dL_game_24 : decode cL_game 24 = .ok (.ireturn, 1) := by decide +kernel
theorem dL_game_25 : decode cL_game 25 = .ok (.iconst 0, 1) := by decide +kernel
theorem dL_game_26 : decode cL_game 26 = .ok (.ireturn, 1) := by decide +kernel
theorem dL_century_0 : decode cL_century 0 = .ok (.aload 4, 2) := by decide +kernel
theorem dL_century_2 : decode cL_century 2 = .ok (.iconst 0, 1) := by decide +kernel
theorem dL_century_3 : decode cL_century 3 = .ok (.aload_n 0, 1) := by decide +kernel
theorem dL_century_4 : decode cL_century 4 = .ok (.iload_n 1, 1) := by decide +kernel
theorem dL_century_5 : decode cL_century 5 = .ok (.iload_n 2, 1) := by decide +kernel
theorem dL_century_6 : decode cL_century 6 = .ok (.iload_n 3, 1) := by decide +kernel
theorem dL_century_7 : decode cL_century 7 = .ok (.invokevirtual 91, 3) := by decide +kernel
theorem dL_century_10 : decode cL_century 10 = .ok (.i2l, 1) := by decide +kernel
theorem dL_century_11 : decode cL_century 11 = .ok (.lastore, 1) := by decide +kernel
theorem dL_century_12 : decode cL_century 12 = .ok (.goto 11, 3) := by decide +kernel
theorem dL_century_15 : decode cL_century 15 = .ok (.astore 5, 2) := by decide +kernel
theorem dL_century_17 : decode cL_century 17 = .ok (.iconst 1, 1) := by decide +kernel
theorem dL_century_18 : decode cL_century 18 = .ok (.ireturn, 1) := by decide +kernel
theorem dL_century_19 : decode cL_century 19 = .ok (.astore 5, 2) := by decide +kernel
theorem dL_century_21 : decode cL_century 21 = .ok (.iconst 2, 1) := by decide +kernel
theorem dL_century_22 : decode cL_century 22 = .ok (.ireturn, 1) := by decide +kernel
theorem dL_century_23 : decode cL_century 23 = .ok (.iconst 0, 1) := by decide +kernel
theorem dL_century_24 : decode cL_century 24 = .ok (.ireturn, 1) := by decide +kernel
