theorem dX0_init_0 : decode cX0_init 0 = .ok (.aload_n 0, 1) := by decide +kernel
theorem dX0_init_1 : decode cX0_init 1 = .ok (.invokespecial 3, 3) := by decide +kernel
theorem dX0_init_4 : decode cX0_init 4 = .ok (.aload_n 0, 1) := by decide +kernel
theorem dX0_init_5 : decode cX0_init 5 = .ok (.iconst 0, 1) := by decide +kernel
theorem dX0_init_6 : decode cX0_init 6 = .ok (.putfield 9, 3) := by decide +kernel
theorem dX0_init_9 : decode cX0_init 9 = .ok (.aload_n 0, 1) := by decide +kernel
theorem dX0_init_10 : decode cX0_init 10 = .ok (.iconst 0, 1) := by decide +kernel
theorem dX0_init_11 : decode cX0_init 11 = .ok (.putfield 15, 3) := by decide +kernel
theorem dX0_init_14 : decode cX0_init 14 = .ok (.aload_n 0, 1) := by decide +kernel
theorem dX0_init_15 : decode cX0_init 15 = .ok (.bipush 12, 2) := by decide +kernel
theorem dX0_init_17 : decode cX0_init 17 = .ok (.putfield 18, 3) := by decide +kernel
theorem dX0_init_20 : decode cX0_init 20 = .ok (.aload_n 0, 1) := by decide +kernel
theorem dX0_init_21 : decode cX0_init 21 = .ok (.iconst 0, 1) := by decide +kernel
theorem dX0_init_22 : decode cX0_init 22 = .ok (.putfield 21, 3) := by decide +kernel
theorem dX0_init_25 : decode cX0_init 25 = .ok (.aload_n 0, 1) := by decide +kernel
theorem dX0_init_26 : decode cX0_init 26 = .ok (.iconst 0, 1) := by decide +kernel
theorem dX0_init_27 : decode cX0_init 27 = .ok (.putfield 25, 3) := by decide +kernel
theorem dX0_init_30 : decode cX0_init 30 = .ok (.aload_n 0, 1) := by decide +kernel
theorem dX0_init_31 : decode cX0_init 31 = .ok (.bipush 6, 2) := by decide +kernel
theorem dX0_init_33 : decode cX0_init 33 = .ok (.newarray .int, 2) := by decide +kernel
theorem dX0_init_35 : decode cX0_init 35 = .ok (.putfield 28, 3) := by decide +kernel
theorem dX0_init_38 : decode cX0_init 38 = .ok (.aload_n 0, 1) := by decide +kernel
theorem dX0_init_39 : decode cX0_init 39 = .ok (.bipush 8, 2) := by decide +kernel
theorem dX0_init_41 : decode cX0_init 41 = .ok (.newarray .int, 2) := by decide +kernel
theorem dX0_init_43 : decode cX0_init 43 = .ok (.putfield 32, 3) := by decide +kernel
theorem dX0_init_46 : decode cX0_init 46 = .ok (.aload_n 0, 1) := by decide +kernel
theorem dX0_init_47 : decode cX0_init 47 = .ok (.bipush 8, 2) := by decide +kernel
theorem dX0_init_49 : decode cX0_init 49 = .ok (.newarray .int, 2) := by decide +kernel
theorem dX0_init_51 : decode cX0_init 51 = .ok (.putfield 35, 3) := by decide +kernel
theorem dX0_init_54 : decode cX0_init 54 = .ok (.aload_n 0, 1) := by decide +kernel
theorem dX0_init_55 : decode cX0_init 55 = .ok (.bipush 8, 2) := by decide +kernel
theorem dX0_init_57 : decode cX0_init 57 = .ok (.newarray .int, 2) := by decide +kernel
theorem dX0_init_59 : decode cX0_init 59 = .ok (.putfield 38, 3) := by decide +kernel
theorem dX0_init_62 : decode cX0_init 62 = .ok (.aload_n 0, 1) := by decide +kernel
theorem dX0_init_63 : decode cX0_init 63 = .ok (.bipush 8, 2) := by decide +kernel
theorem dX0_init_65 : decode cX0_init 65 = .ok (.newarray .int, 2) := by decide +kernel
theorem dX0_init_67 : decode cX0_init 67 = .ok (.putfield 41, 3) := by decide +kernel
theorem dX0_init_70 : decode cX0_init 70 = .ok (.aload_n 0, 1) := by decide +kernel
theorem dX0_init_71 : decode cX0_init 71 = .ok (.bipush 80, 2) := by decide +kernel
theorem dX0_init_73 : decode cX0_init 73 = .ok (.newarray .int, 2) := by decide +kernel
theorem dX0_init_75 : decode cX0_init 75 = .ok (.putfield 44, 3) := by decide +kernel
theorem dX0_init_78 : decode cX0_init 78 = .ok (.aload_n 0, 1) := by decide +kernel
theorem dX0_init_79 : decode cX0_init 79 = .ok (.bipush 80, 2) := by decide +kernel
theorem dX0_init_81 : decode cX0_init 81 = .ok (.newarray .int, 2) := by decide +kernel
theorem dX0_init_83 : decode cX0_init 83 = .ok (.putfield 47, 3) := by decide +kernel
theorem dX0_init_86 : decode cX0_init 86 = .ok (.aload_n 0, 1) := by decide +kernel
theorem dX0_init_87 : decode cX0_init 87 = .ok (.bipush 80, 2) := by decide +kernel
theorem dX0_init_89 : decode cX0_init 89 = .ok (.newarray .int, 2) := by decide +kernel
theorem dX0_init_91 : decode cX0_init 91 = .ok (.putfield 50, 3) := by decide +kernel
theorem dX0_init_94 : decode cX0_init 94 = .ok (.aload_n 0, 1) := by decide +kernel
theorem dX0_init_95 : decode cX0_init 95 = .ok (.bipush 80, 2) := by decide +kernel
theorem dX0_init_97 : decode cX0_init 97 = .ok (.newarray .int, 2) := by decide +kernel
theorem dX0_init_99 : decode cX0_init 99 = .ok (.putfield 53, 3) := by decide +kernel
theorem dX0_init_102 : decode cX0_init 102 = .ok (.aload_n 0, 1) := by decide +kernel
theorem dX0_init_103 : decode cX0_init 103 = .ok (.new 56, 3) := by decide +kernel
theorem dX0_init_106 : decode cX0_init 106 = .ok (.dup, 1) := by decide +kernel
theorem dX0_init_107 : decode cX0_init 107 = .ok (.invokespecial 58, 3) := by decide +kernel
theorem dX0_init_110 : decode cX0_init 110 = .ok (.putfield 59, 3) := by decide +kernel
theorem dX0_init_113 : decode cX0_init 113 = .ok (.return_, 1) := by decide +kernel
theorem dX0_empty_0 : decode cX0_empty 0 = .ok (.aload_n 0, 1) := by decide +kernel
theorem dX0_empty_1 : decode cX0_empty 1 = .ok (.iconst 0, 1) := by decide +kernel
theorem dX0_empty_2 : decode cX0_empty 2 = .ok (.putfield 9, 3) := by decide +kernel
theorem dX0_empty_5 : decode cX0_empty 5 = .ok (.aload_n 0, 1) := by decide +kernel
theorem dX0_empty_6 : decode cX0_empty 6 = .ok (.iconst 0, 1) := by decide +kernel
theorem dX0_empty_7 : decode cX0_empty 7 = .ok (.putfield 15, 3) := by decide +kernel
theorem dX0_empty_10 : decode cX0_empty 10 = .ok (.aload_n 0, 1) := by decide +kernel
theorem dX0_empty_11 : decode cX0_empty 11 = .ok (.bipush 12, 2) := by decide +kernel
theorem dX0_empty_13 : decode cX0_empty 13 = .ok (.putfield 18, 3) := by decide +kernel
theorem dX0_empty_16 : decode cX0_empty 16 = .ok (.aload_n 0, 1) := by decide +kernel
theorem dX0_empty_17 : decode cX0_empty 17 = .ok (.iconst 0, 1) := by decide +kernel
theorem dX0_empty_18 : decode cX0_empty 18 = .ok (.putfield 21, 3) := by decide +kernel
theorem dX0_empty_21 : decode cX0_empty 21 = .ok (.aload_n 0, 1) := by decide +kernel
theorem dX0_empty_22 : decode cX0_empty 22 = .ok (.iconst 0, 1) := by decide +kernel
theorem dX0_empty_23 : decode cX0_empty 23 = .ok (.putfield 25, 3) := by decide +kernel
theorem dX0_empty_26 : decode cX0_empty 26 = .ok (.aload_n 0, 1) := by decide +kernel
theorem dX0_empty_27 : decode cX0_empty 27 = .ok (.getfield 59, 3) := by decide +kernel
theorem dX0_empty_30 : decode cX0_empty 30 = .ok (.iconst 0, 1) := by decide +kernel
theorem dX0_empty_31 : decode cX0_empty 31 = .ok (.putfield 63, 3) := by decide +kernel
theorem dX0_empty_34 : decode cX0_empty 34 = .ok (.return_, 1) := by decide +kernel
theorem dX0_become_0 : decode cX0_become 0 = .ok (.aload_n 0, 1) := by decide +kernel
theorem dX0_become_1 : decode cX0_become 1 = .ok (.aload_n 1, 1) := by decide +kernel
theorem dX0_become_2 : decode cX0_become 2 = .ok (.getfield 9, 3) := by decide +kernel
theorem dX0_become_5 : decode cX0_become 5 = .ok (.putfield 9, 3) := by decide +kernel
theorem dX0_become_8 : decode cX0_become 8 = .ok (.aload_n 0, 1) := by decide +kernel
theorem dX0_become_9 : decode cX0_become 9 = .ok (.aload_n 1, 1) := by decide +kernel
theorem dX0_become_10 : decode cX0_become 10 = .ok (.getfield 15, 3) := by decide +kernel
theorem dX0_become_13 : decode cX0_become 13 = .ok (.putfield 15, 3) := by decide +kernel
theorem dX0_become_16 : decode cX0_become 16 = .ok (.aload_n 0, 1) := by decide +kernel
theorem dX0_become_17 : decode cX0_become 17 = .ok (.aload_n 1, 1) := by decide +kernel
theorem dX0_become_18 : decode cX0_become 18 = .ok (.getfield 18, 3) := by decide +kernel
theorem dX0_become_21 : decode cX0_become 21 = .ok (.putfield 18, 3) := by decide +kernel
theorem dX0_become_24 : decode cX0_become 24 = .ok (.aload_n 0, 1) := by decide +kernel
theorem dX0_become_25 : decode cX0_become 25 = .ok (.aload_n 1, 1) := by decide +kernel
theorem dX0_become_26 : decode cX0_become 26 = .ok (.getfield 21, 3) := by decide +kernel
theorem dX0_become_29 : decode cX0_become 29 = .ok (.putfield 21, 3) := by decide +kernel
theorem dX0_become_32 : decode cX0_become 32 = .ok (.aload_n 0, 1) := by decide +kernel
theorem dX0_become_33 : decode cX0_become 33 = .ok (.aload_n 1, 1) := by decide +kernel
theorem dX0_become_34 : decode cX0_become 34 = .ok (.getfield 25, 3) := by decide +kernel
theorem dX0_become_37 : decode cX0_become 37 = .ok (.putfield 25, 3) := by decide +kernel
theorem dX0_become_40 : decode cX0_become 40 = .ok (.aload_n 1, 1) := by decide +kernel
theorem dX0_become_41 : decode cX0_become 41 = .ok (.getfield 28, 3) := by decide +kernel
theorem dX0_become_44 : decode cX0_become 44 = .ok (.iconst 0, 1) := by decide +kernel
theorem dX0_become_45 : decode cX0_become 45 = .ok (.aload_n 0, 1) := by decide +kernel
theorem dX0_become_46 : decode cX0_become 46 = .ok (.getfield 28, 3) := by decide +kernel
theorem dX0_become_49 : decode cX0_become 49 = .ok (.iconst 0, 1) := by decide +kernel
theorem dX0_become_50 : decode cX0_become 50 = .ok (.bipush 6, 2) := by decide +kernel
theorem dX0_become_52 : decode cX0_become 52 = .ok (.invokestatic 66, 3) := by decide +kernel
theorem dX0_become_55 : decode cX0_become 55 = .ok (.aload_n 1, 1) := by decide +kernel
theorem dX0_become_56 : decode cX0_become 56 = .ok (.getfield 32, 3) := by decide +kernel
theorem dX0_become_59 : decode cX0_become 59 = .ok (.iconst 0, 1) := by decide +kernel
theorem dX0_become_60 : decode cX0_become 60 = .ok (.aload_n 0, 1) := by decide +kernel
theorem dX0_become_61 : decode cX0_become 61 = .ok (.getfield 32, 3) := by decide +kernel
theorem dX0_become_64 : decode cX0_become 64 = .ok (.iconst 0, 1) := by decide +kernel
theorem dX0_become_65 : decode cX0_become 65 = .ok (.bipush 8, 2) := by decide +kernel
theorem dX0_become_67 : decode cX0_become 67 = .ok (.invokestatic 66, 3) := by decide +kernel
theorem dX0_become_70 : decode cX0_become 70 = .ok (.aload_n 1, 1) := by decide +kernel
theorem dX0_become_71 : decode cX0_become 71 = .ok (.getfield 35, 3) := by decide +kernel
theorem dX0_become_74 : decode cX0_become 74 = .ok (.iconst 0, 1) := by decide +kernel
theorem dX0_become_75 : decode cX0_become 75 = .ok (.aload_n 0, 1) := by decide +kernel
theorem dX0_become_76 : decode cX0_become 76 = .ok (.getfield 35, 3) := by decide +kernel
theorem dX0_become_79 : decode cX0_become 79 = .ok (.iconst 0, 1) := by decide +kernel
theorem dX0_become_80 : decode cX0_become 80 = .ok (.bipush 8, 2) := by decide +kernel
theorem dX0_become_82 : decode cX0_become 82 = .ok (.invokestatic 66, 3) := by decide +kernel
theorem dX0_become_85 : decode cX0_become 85 = .ok (.aload_n 1, 1) := by decide +kernel
theorem dX0_become_86 : decode cX0_become 86 = .ok (.getfield 38, 3) := by decide +kernel
theorem dX0_become_89 : decode cX0_become 89 = .ok (.iconst 0, 1) := by decide +kernel
theorem dX0_become_90 : decode cX0_become 90 = .ok (.aload_n 0, 1) := by decide +kernel
theorem dX0_become_91 : decode cX0_become 91 = .ok (.getfield 38, 3) := by decide +kernel
theorem dX0_become_94 : decode cX0_become 94 = .ok (.iconst 0, 1) := by decide +kernel
theorem dX0_become_95 : decode cX0_become 95 = .ok (.bipush 8, 2) := by decide +kernel
theorem dX0_become_97 : decode cX0_become 97 = .ok (.invokestatic 66, 3) := by decide +kernel
theorem dX0_become_100 : decode cX0_become 100 = .ok (.aload_n 1, 1) := by decide +kernel
theorem dX0_become_101 : decode cX0_become 101 = .ok (.getfield 41, 3) := by decide +kernel
theorem dX0_become_104 : decode cX0_become 104 = .ok (.iconst 0, 1) := by decide +kernel
theorem dX0_become_105 : decode cX0_become 105 = .ok (.aload_n 0, 1) := by decide +kernel
theorem dX0_become_106 : decode cX0_become 106 = .ok (.getfield 41, 3) := by decide +kernel
theorem dX0_become_109 : decode cX0_become 109 = .ok (.iconst 0, 1) := by decide +kernel
theorem dX0_become_110 : decode cX0_become 110 = .ok (.bipush 8, 2) := by decide +kernel
theorem dX0_become_112 : decode cX0_become 112 = .ok (.invokestatic 66, 3) := by decide +kernel
theorem dX0_become_115 : decode cX0_become 115 = .ok (.aload_n 1, 1) := by decide +kernel
theorem dX0_become_116 : decode cX0_become 116 = .ok (.getfield 44, 3) := by decide +kernel
theorem dX0_become_119 : decode cX0_become 119 = .ok (.iconst 0, 1) := by decide +kernel
theorem dX0_become_120 : decode cX0_become 120 = .ok (.aload_n 0, 1) := by decide +kernel
theorem dX0_become_121 : decode cX0_become 121 = .ok (.getfield 44, 3) := by decide +kernel
theorem dX0_become_124 : decode cX0_become 124 = .ok (.iconst 0, 1) := by decide +kernel
theorem dX0_become_125 : decode cX0_become 125 = .ok (.bipush 80, 2) := by decide +kernel
theorem dX0_become_127 : decode cX0_become 127 = .ok (.invokestatic 66, 3) := by decide +kernel
theorem dX0_become_130 : decode cX0_become 130 = .ok (.aload_n 1, 1) := by decide +kernel
theorem dX0_become_131 : decode cX0_become 131 = .ok (.getfield 47, 3) := by decide +kernel
theorem dX0_become_134 : decode cX0_become 134 = .ok (.iconst 0, 1) := by decide +kernel
theorem dX0_become_135 : decode cX0_become 135 = .ok (.aload_n 0, 1) := by decide +kernel
theorem dX0_become_136 : decode cX0_become 136 = .ok (.getfield 47, 3) := by decide +kernel
theorem dX0_become_139 : decode cX0_become 139 = .ok (.iconst 0, 1) := by decide +kernel
theorem dX0_become_140 : decode cX0_become 140 = .ok (.bipush 80, 2) := by decide +kernel
theorem dX0_become_142 : decode cX0_become 142 = .ok (.invokestatic 66, 3) := by decide +kernel
theorem dX0_become_145 : decode cX0_become 145 = .ok (.aload_n 1, 1) := by decide +kernel
theorem dX0_become_146 : decode cX0_become 146 = .ok (.getfield 50, 3) := by decide +kernel
theorem dX0_become_149 : decode cX0_become 149 = .ok (.iconst 0, 1) := by decide +kernel
theorem dX0_become_150 : decode cX0_become 150 = .ok (.aload_n 0, 1) := by decide +kernel
theorem dX0_become_151 : decode cX0_become 151 = .ok (.getfield 50, 3) := by decide +kernel
theorem dX0_become_154 : decode cX0_become 154 = .ok (.iconst 0, 1) := by decide +kernel
theorem dX0_become_155 : decode cX0_become 155 = .ok (.bipush 80, 2) := by decide +kernel
theorem dX0_become_157 : decode cX0_become 157 = .ok (.invokestatic 66, 3) := by decide +kernel
theorem dX0_become_160 : decode cX0_become 160 = .ok (.aload_n 1, 1) := by decide +kernel
theorem dX0_become_161 : decode cX0_become 161 = .ok (.getfield 53, 3) := by decide +kernel
theorem dX0_become_164 : decode cX0_become 164 = .ok (.iconst 0, 1) := by decide +kernel
theorem dX0_become_165 : decode cX0_become 165 = .ok (.aload_n 0, 1) := by decide +kernel
theorem dX0_become_166 : decode cX0_become 166 = .ok (.getfield 53, 3) := by decide +kernel
theorem dX0_become_169 : decode cX0_become 169 = .ok (.iconst 0, 1) := by decide +kernel
theorem dX0_become_170 : decode cX0_become 170 = .ok (.bipush 80, 2) := by decide +kernel
theorem dX0_become_172 : decode cX0_become 172 = .ok (.invokestatic 66, 3) := by decide +kernel
theorem dX0_become_175 : decode cX0_become 175 = .ok (.aload_n 0, 1) := by decide +kernel
theorem dX0_become_176 : decode cX0_become 176 = .ok (.getfield 59, 3) := by decide +kernel
theorem dX0_become_179 : decode cX0_become 179 = .ok (.aload_n 1, 1) := by decide +kernel
theorem dX0_become_180 : decode cX0_become 180 = .ok (.getfield 59, 3) := by decide +kernel
theorem dX0_become_183 : decode cX0_become 183 = .ok (.invokevirtual 72, 3) := by decide +kernel
theorem dX0_become_186 : decode cX0_become 186 = .ok (.return_, 1) := by decide +kernel
theorem dX0_envoy_0 : decode cX0_envoy 0 = .ok (.iload_n 2, 1) := by decide +kernel
theorem dX0_envoy_1 : decode cX0_envoy 1 = .ok (.ifCond .ne 12, 3) := by decide +kernel
theorem dX0_envoy_4 : decode cX0_envoy 4 = .ok (.aload_n 0, 1) := by decide +kernel
theorem dX0_envoy_5 : decode cX0_envoy 5 = .ok (.getfield 32, 3) := by decide +kernel
theorem dX0_envoy_8 : decode cX0_envoy 8 = .ok (.iload_n 1, 1) := by decide +kernel
theorem dX0_envoy_9 : decode cX0_envoy 9 = .ok (.iaload, 1) := by decide +kernel
theorem dX0_envoy_10 : decode cX0_envoy 10 = .ok (.goto 9, 3) := by decide +kernel
theorem dX0_envoy_13 : decode cX0_envoy 13 = .ok (.aload_n 0, 1) := by decide +kernel
theorem dX0_envoy_14 : decode cX0_envoy 14 = .ok (.getfield 35, 3) := by decide +kernel
theorem dX0_envoy_17 : decode cX0_envoy 17 = .ok (.iload_n 1, 1) := by decide +kernel
theorem dX0_envoy_18 : decode cX0_envoy 18 = .ok (.iaload, 1) := by decide +kernel
theorem dX0_envoy_19 : decode cX0_envoy 19 = .ok (.ireturn, 1) := by decide +kernel
theorem dX0_kneesOf_0 : decode cX0_kneesOf 0 = .ok (.aload_n 0, 1) := by decide +kernel
theorem dX0_kneesOf_1 : decode cX0_kneesOf 1 = .ok (.getfield 28, 3) := by decide +kernel
theorem dX0_kneesOf_4 : decode cX0_kneesOf 4 = .ok (.aload_n 0, 1) := by decide +kernel
theorem dX0_kneesOf_5 : decode cX0_kneesOf 5 = .ok (.iload_n 1, 1) := by decide +kernel
theorem dX0_kneesOf_6 : decode cX0_kneesOf 6 = .ok (.iload_n 2, 1) := by decide +kernel
theorem dX0_kneesOf_7 : decode cX0_kneesOf 7 = .ok (.invokevirtual 76, 3) := by decide +kernel
theorem dX0_kneesOf_10 : decode cX0_kneesOf 10 = .ok (.iaload, 1) := by decide +kernel
theorem dX0_kneesOf_11 : decode cX0_kneesOf 11 = .ok (.ireturn, 1) := by decide +kernel
theorem dX0_joins_0 : decode cX0_joins 0 = .ok (.aload_n 0, 1) := by decide +kernel
theorem dX0_joins_1 : decode cX0_joins 1 = .ok (.getfield 32, 3) := by decide +kernel
theorem dX0_joins_4 : decode cX0_joins 4 = .ok (.iload_n 1, 1) := by decide +kernel
theorem dX0_joins_5 : decode cX0_joins 5 = .ok (.iaload, 1) := by decide +kernel
theorem dX0_joins_6 : decode cX0_joins 6 = .ok (.iload_n 2, 1) := by decide +kernel
theorem dX0_joins_7 : decode cX0_joins 7 = .ok (.if_icmp .ne 13, 3) := by decide +kernel
theorem dX0_joins_10 : decode cX0_joins 10 = .ok (.aload_n 0, 1) := by decide +kernel
theorem dX0_joins_11 : decode cX0_joins 11 = .ok (.getfield 35, 3) := by decide +kernel
theorem dX0_joins_14 : decode cX0_joins 14 = .ok (.iload_n 1, 1) := by decide +kernel
theorem dX0_joins_15 : decode cX0_joins 15 = .ok (.iaload, 1) := by decide +kernel
theorem dX0_joins_16 : decode cX0_joins 16 = .ok (.iload_n 3, 1) := by decide +kernel
theorem dX0_joins_17 : decode cX0_joins 17 = .ok (.if_icmp .eq 23, 3) := by decide +kernel
theorem dX0_joins_20 : decode cX0_joins 20 = .ok (.aload_n 0, 1) := by decide +kernel
theorem dX0_joins_21 : decode cX0_joins 21 = .ok (.getfield 32, 3) := by decide +kernel
theorem dX0_joins_24 : decode cX0_joins 24 = .ok (.iload_n 1, 1) := by decide +kernel
theorem dX0_joins_25 : decode cX0_joins 25 = .ok (.iaload, 1) := by decide +kernel
theorem dX0_joins_26 : decode cX0_joins 26 = .ok (.iload_n 3, 1) := by decide +kernel
theorem dX0_joins_27 : decode cX0_joins 27 = .ok (.if_icmp .ne 17, 3) := by decide +kernel
theorem dX0_joins_30 : decode cX0_joins 30 = .ok (.aload_n 0, 1) := by decide +kernel
theorem dX0_joins_31 : decode cX0_joins 31 = .ok (.getfield 35, 3) := by decide +kernel
theorem dX0_joins_34 : decode cX0_joins 34 = .ok (.iload_n 1, 1) := by decide +kernel
theorem dX0_joins_35 : decode cX0_joins 35 = .ok (.iaload, 1) := by decide +kernel
theorem dX0_joins_36 : decode cX0_joins 36 = .ok (.iload_n 2, 1) := by decide +kernel
theorem dX0_joins_37 : decode cX0_joins 37 = .ok (.if_icmp .ne 7, 3) := by decide +kernel
theorem dX0_joins_40 : decode cX0_joins 40 = .ok (.iconst 1, 1) := by decide +kernel
theorem dX0_joins_41 : decode cX0_joins 41 = .ok (.goto 4, 3) := by decide +kernel
theorem dX0_joins_44 : decode cX0_joins 44 = .ok (.iconst 0, 1) := by decide +kernel
theorem dX0_joins_45 : decode cX0_joins 45 = .ok (.ireturn, 1) := by decide +kernel
theorem dX0_changes_0 : decode cX0_changes 0 = .ok (.aload_n 0, 1) := by decide +kernel
theorem dX0_changes_1 : decode cX0_changes 1 = .ok (.getfield 44, 3) := by decide +kernel
theorem dX0_changes_4 : decode cX0_changes 4 = .ok (.iload_n 1, 1) := by decide +kernel
theorem dX0_changes_5 : decode cX0_changes 5 = .ok (.iload_n 2, 1) := by decide +kernel
theorem dX0_changes_6 : decode cX0_changes 6 = .ok (.invokestatic 80, 3) := by decide +kernel
theorem dX0_changes_9 : decode cX0_changes 9 = .ok (.iaload, 1) := by decide +kernel
theorem dX0_changes_10 : decode cX0_changes 10 = .ok (.istore_n 3, 1) := by decide +kernel
theorem dX0_changes_11 : decode cX0_changes 11 = .ok (.iload_n 3, 1) := by decide +kernel
theorem dX0_changes_12 : decode cX0_changes 12 = .ok (.iconst 3, 1) := by decide +kernel
theorem dX0_changes_13 : decode cX0_changes 13 = .ok (.if_icmp .eq 12, 3) := by decide +kernel
theorem dX0_changes_16 : decode cX0_changes 16 = .ok (.iload_n 3, 1) := by decide +kernel
theorem dX0_changes_17 : decode cX0_changes 17 = .ok (.iconst 4, 1) := by decide +kernel
theorem dX0_changes_18 : decode cX0_changes 18 = .ok (.if_icmp .eq 7, 3) := by decide +kernel
theorem dX0_changes_21 : decode cX0_changes 21 = .ok (.iconst 1, 1) := by decide +kernel
theorem dX0_changes_22 : decode cX0_changes 22 = .ok (.goto 4, 3) := by decide +kernel
theorem dX0_changes_25 : decode cX0_changes 25 = .ok (.iconst 0, 1) := by decide +kernel
theorem dX0_changes_26 : decode cX0_changes 26 = .ok (.ireturn, 1) := by decide +kernel
theorem dX0_goes_0 : decode cX0_goes 0 = .ok (.aload_n 0, 1) := by decide +kernel
theorem dX0_goes_1 : decode cX0_goes 1 = .ok (.getfield 44, 3) := by decide +kernel
theorem dX0_goes_4 : decode cX0_goes 4 = .ok (.iload_n 1, 1) := by decide +kernel
theorem dX0_goes_5 : decode cX0_goes 5 = .ok (.iload_n 2, 1) := by decide +kernel
theorem dX0_goes_6 : decode cX0_goes 6 = .ok (.invokestatic 80, 3) := by decide +kernel
theorem dX0_goes_9 : decode cX0_goes 9 = .ok (.iaload, 1) := by decide +kernel
theorem dX0_goes_10 : decode cX0_goes 10 = .ok (.istore_n 3, 1) := by decide +kernel
theorem dX0_goes_11 : decode cX0_goes 11 = .ok (.iload_n 3, 1) := by decide +kernel
theorem dX0_goes_12 : decode cX0_goes 12 = .ok (.ifCond .eq 8, 3) := by decide +kernel
theorem dX0_goes_15 : decode cX0_goes 15 = .ok (.iload_n 3, 1) := by decide +kernel
theorem dX0_goes_16 : decode cX0_goes 16 = .ok (.iconst 2, 1) := by decide +kernel
theorem dX0_goes_17 : decode cX0_goes 17 = .ok (.if_icmp .ne 7, 3) := by decide +kernel
theorem dX0_goes_20 : decode cX0_goes 20 = .ok (.iconst 1, 1) := by decide +kernel
theorem dX0_goes_21 : decode cX0_goes 21 = .ok (.goto 4, 3) := by decide +kernel
theorem dX0_goes_24 : decode cX0_goes 24 = .ok (.iconst 0, 1) := by decide +kernel
theorem dX0_goes_25 : decode cX0_goes 25 = .ok (.ireturn, 1) := by decide +kernel
theorem dX0_isOf_0 : decode cX0_isOf 0 = .ok (.aload_n 0, 1) := by decide +kernel
theorem dX0_isOf_1 : decode cX0_isOf 1 = .ok (.getfield 47, 3) := by decide +kernel
theorem dX0_isOf_4 : decode cX0_isOf 4 = .ok (.iload_n 1, 1) := by decide +kernel
theorem dX0_isOf_5 : decode cX0_isOf 5 = .ok (.iload_n 2, 1) := by decide +kernel
theorem dX0_isOf_6 : decode cX0_isOf 6 = .ok (.invokestatic 80, 3) := by decide +kernel
theorem dX0_isOf_9 : decode cX0_isOf 9 = .ok (.iaload, 1) := by decide +kernel
theorem dX0_isOf_10 : decode cX0_isOf 10 = .ok (.istore 4, 2) := by decide +kernel
theorem dX0_isOf_12 : decode cX0_isOf 12 = .ok (.iload 4, 2) := by decide +kernel
theorem dX0_isOf_14 : decode cX0_isOf 14 = .ok (.iconst 2, 1) := by decide +kernel
theorem dX0_isOf_15 : decode cX0_isOf 15 = .ok (.if_icmp .eq 9, 3) := by decide +kernel
theorem dX0_isOf_18 : decode cX0_isOf 18 = .ok (.iload 4, 2) := by decide +kernel
theorem dX0_isOf_20 : decode cX0_isOf 20 = .ok (.iload_n 3, 1) := by decide +kernel
theorem dX0_isOf_21 : decode cX0_isOf 21 = .ok (.if_icmp .ne 7, 3) := by decide +kernel
theorem dX0_isOf_24 : decode cX0_isOf 24 = .ok (.iconst 1, 1) := by decide +kernel
theorem dX0_isOf_25 : decode cX0_isOf 25 = .ok (.goto 4, 3) := by decide +kernel
theorem dX0_isOf_28 : decode cX0_isOf 28 = .ok (.iconst 0, 1) := by decide +kernel
theorem dX0_isOf_29 : decode cX0_isOf 29 = .ok (.ireturn, 1) := by decide +kernel
theorem dX0_hasPlace_0 : decode cX0_hasPlace 0 = .ok (.iload_n 1, 1) := by decide +kernel
theorem dX0_hasPlace_1 : decode cX0_hasPlace 1 = .ok (.ifCond .lt 27, 3) := by decide +kernel
theorem dX0_hasPlace_4 : decode cX0_hasPlace 4 = .ok (.iload_n 1, 1) := by decide +kernel
theorem dX0_hasPlace_5 : decode cX0_hasPlace 5 = .ok (.aload_n 0, 1) := by decide +kernel
theorem dX0_hasPlace_6 : decode cX0_hasPlace 6 = .ok (.getfield 18, 3) := by decide +kernel
theorem dX0_hasPlace_9 : decode cX0_hasPlace 9 = .ok (.if_icmp .ge 19, 3) := by decide +kernel
theorem dX0_hasPlace_12 : decode cX0_hasPlace 12 = .ok (.iload_n 2, 1) := by decide +kernel
theorem dX0_hasPlace_13 : decode cX0_hasPlace 13 = .ok (.ifCond .lt 15, 3) := by decide +kernel
theorem dX0_hasPlace_16 : decode cX0_hasPlace 16 = .ok (.iload_n 2, 1) := by decide +kernel
theorem dX0_hasPlace_17 : decode cX0_hasPlace 17 = .ok (.aload_n 0, 1) := by decide +kernel
theorem dX0_hasPlace_18 : decode cX0_hasPlace 18 = .ok (.getfield 18, 3) := by decide +kernel
theorem dX0_hasPlace_21 : decode cX0_hasPlace 21 = .ok (.if_icmp .ge 7, 3) := by decide +kernel
theorem dX0_hasPlace_24 : decode cX0_hasPlace 24 = .ok (.iconst 1, 1) := by decide +kernel
theorem dX0_hasPlace_25 : decode cX0_hasPlace 25 = .ok (.goto 4, 3) := by decide +kernel
theorem dX0_hasPlace_28 : decode cX0_hasPlace 28 = .ok (.iconst 0, 1) := by decide +kernel
theorem dX0_hasPlace_29 : decode cX0_hasPlace 29 = .ok (.ireturn, 1) := by decide +kernel
theorem dX1_init_0 : decode cX1_init 0 = .ok (.aload_n 0, 1) := by decide +kernel
theorem dX1_init_1 : decode cX1_init 1 = .ok (.invokespecial 3, 3) := by decide +kernel
theorem dX1_init_4 : decode cX1_init 4 = .ok (.aload_n 0, 1) := by decide +kernel
theorem dX1_init_5 : decode cX1_init 5 = .ok (.bipush 8, 2) := by decide +kernel
theorem dX1_init_7 : decode cX1_init 7 = .ok (.newarray .int, 2) := by decide +kernel
theorem dX1_init_9 : decode cX1_init 9 = .ok (.putfield 9, 3) := by decide +kernel
theorem dX1_init_12 : decode cX1_init 12 = .ok (.aload_n 0, 1) := by decide +kernel
theorem dX1_init_13 : decode cX1_init 13 = .ok (.sipush 256, 3) := by decide +kernel
theorem dX1_init_16 : decode cX1_init 16 = .ok (.newarray .int, 2) := by decide +kernel
theorem dX1_init_18 : decode cX1_init 18 = .ok (.putfield 15, 3) := by decide +kernel
theorem dX1_init_21 : decode cX1_init 21 = .ok (.aload_n 0, 1) := by decide +kernel
theorem dX1_init_22 : decode cX1_init 22 = .ok (.aload_n 1, 1) := by decide +kernel
theorem dX1_init_23 : decode cX1_init 23 = .ok (.putfield 18, 3) := by decide +kernel
theorem dX1_init_26 : decode cX1_init 26 = .ok (.aload_n 0, 1) := by decide +kernel
theorem dX1_init_27 : decode cX1_init 27 = .ok (.aload_n 2, 1) := by decide +kernel
theorem dX1_init_28 : decode cX1_init 28 = .ok (.putfield 22, 3) := by decide +kernel
theorem dX1_init_31 : decode cX1_init 31 = .ok (.return_, 1) := by decide +kernel
theorem dX1_findContradictions_0 : decode cX1_findContradictions 0 = .ok (.aload_n 0, 1) := by decide +kernel
theorem dX1_findContradictions_1 : decode cX1_findContradictions 1 = .ok (.getfield 9, 3) := by decide +kernel
theorem dX1_findContradictions_4 : decode cX1_findContradictions 4 = .ok (.iconst 0, 1) := by decide +kernel
theorem dX1_findContradictions_5 : decode cX1_findContradictions 5 = .ok (.invokestatic 26, 3) := by decide +kernel
theorem dX1_findContradictions_8 : decode cX1_findContradictions 8 = .ok (.iconst 0, 1) := by decide +kernel
theorem dX1_findContradictions_9 : decode cX1_findContradictions 9 = .ok (.istore_n 1, 1) := by decide +kernel
theorem dX1_findContradictions_10 : decode cX1_findContradictions 10 = .ok (.iload_n 1, 1) := by decide +kernel
theorem dX1_findContradictions_11 : decode cX1_findContradictions 11 = .ok (.aload_n 0, 1) := by decide +kernel
theorem dX1_findContradictions_12 : decode cX1_findContradictions 12 = .ok (.getfield 18, 3) := by decide +kernel
theorem dX1_findContradictions_15 : decode cX1_findContradictions 15 = .ok (.getfield 32, 3) := by decide +kernel
theorem dX1_findContradictions_18 : decode cX1_findContradictions 18 = .ok (.if_icmp .ge 51, 3) := by decide +kernel
theorem dX1_findContradictions_21 : decode cX1_findContradictions 21 = .ok (.iload_n 1, 1) := by decide +kernel
theorem dX1_findContradictions_22 : decode cX1_findContradictions 22 = .ok (.iconst 1, 1) := by decide +kernel
theorem dX1_findContradictions_23 : decode cX1_findContradictions 23 = .ok (.iadd, 1) := by decide +kernel
theorem dX1_findContradictions_24 : decode cX1_findContradictions 24 = .ok (.istore_n 2, 1) := by decide +kernel
theorem dX1_findContradictions_25 : decode cX1_findContradictions 25 = .ok (.iload_n 2, 1) := by decide +kernel
theorem dX1_findContradictions_26 : decode cX1_findContradictions 26 = .ok (.aload_n 0, 1) := by decide +kernel
theorem dX1_findContradictions_27 : decode cX1_findContradictions 27 = .ok (.getfield 18, 3) := by decide +kernel
theorem dX1_findContradictions_30 : decode cX1_findContradictions 30 = .ok (.getfield 32, 3) := by decide +kernel
theorem dX1_findContradictions_33 : decode cX1_findContradictions 33 = .ok (.if_icmp .ge 30, 3) := by decide +kernel
theorem dX1_findContradictions_36 : decode cX1_findContradictions 36 = .ok (.aload_n 0, 1) := by decide +kernel
theorem dX1_findContradictions_37 : decode cX1_findContradictions 37 = .ok (.iload_n 1, 1) := by decide +kernel
theorem dX1_findContradictions_38 : decode cX1_findContradictions 38 = .ok (.iload_n 2, 1) := by decide +kernel
theorem dX1_findContradictions_39 : decode cX1_findContradictions 39 = .ok (.invokevirtual 38, 3) := by decide +kernel
theorem dX1_findContradictions_42 : decode cX1_findContradictions 42 = .ok (.ifCond .eq 15, 3) := by decide +kernel
theorem dX1_findContradictions_45 : decode cX1_findContradictions 45 = .ok (.aload_n 0, 1) := by decide +kernel
theorem dX1_findContradictions_46 : decode cX1_findContradictions 46 = .ok (.getfield 9, 3) := by decide +kernel
theorem dX1_findContradictions_49 : decode cX1_findContradictions 49 = .ok (.iload_n 1, 1) := by decide +kernel
theorem dX1_findContradictions_50 : decode cX1_findContradictions 50 = .ok (.dup2, 1) := by decide +kernel
theorem dX1_findContradictions_51 : decode cX1_findContradictions 51 = .ok (.iaload, 1) := by decide +kernel
theorem dX1_findContradictions_52 : decode cX1_findContradictions 52 = .ok (.iconst 1, 1) := by decide +kernel
theorem dX1_findContradictions_53 : decode cX1_findContradictions 53 = .ok (.iload_n 2, 1) := by decide +kernel
theorem dX1_findContradictions_54 : decode cX1_findContradictions 54 = .ok (.ishl, 1) := by decide +kernel
theorem dX1_findContradictions_55 : decode cX1_findContradictions 55 = .ok (.ior, 1) := by decide +kernel
theorem dX1_findContradictions_56 : decode cX1_findContradictions 56 = .ok (.iastore, 1) := by decide +kernel
theorem dX1_findContradictions_57 : decode cX1_findContradictions 57 = .ok (.iinc 2 1, 3) := by decide +kernel
theorem dX1_findContradictions_60 : decode cX1_findContradictions 60 = .ok (.goto (-35), 3) := by decide +kernel
theorem dX1_findContradictions_63 : decode cX1_findContradictions 63 = .ok (.iinc 1 1, 3) := by decide +kernel
theorem dX1_findContradictions_66 : decode cX1_findContradictions 66 = .ok (.goto (-56), 3) := by decide +kernel
theorem dX1_findContradictions_69 : decode cX1_findContradictions 69 = .ok (.return_, 1) := by decide +kernel
theorem dX1_contradict_0 : decode cX1_contradict 0 = .ok (.iconst 0, 1) := by decide +kernel
theorem dX1_contradict_1 : decode cX1_contradict 1 = .ok (.istore_n 3, 1) := by decide +kernel
theorem dX1_contradict_2 : decode cX1_contradict 2 = .ok (.iload_n 3, 1) := by decide +kernel
theorem dX1_contradict_3 : decode cX1_contradict 3 = .ok (.iconst 4, 1) := by decide +kernel
theorem dX1_contradict_4 : decode cX1_contradict 4 = .ok (.if_icmp .ge 107, 3) := by decide +kernel
theorem dX1_contradict_7 : decode cX1_contradict 7 = .ok (.iload_n 3, 1) := by decide +kernel
theorem dX1_contradict_8 : decode cX1_contradict 8 = .ok (.iconst 1, 1) := by decide +kernel
theorem dX1_contradict_9 : decode cX1_contradict 9 = .ok (.ishr, 1) := by decide +kernel
theorem dX1_contradict_10 : decode cX1_contradict 10 = .ok (.istore 4, 2) := by decide +kernel
theorem dX1_contradict_12 : decode cX1_contradict 12 = .ok (.iload_n 3, 1) := by decide +kernel
theorem dX1_contradict_13 : decode cX1_contradict 13 = .ok (.iconst 1, 1) := by decide +kernel
theorem dX1_contradict_14 : decode cX1_contradict 14 = .ok (.iand, 1) := by decide +kernel
theorem dX1_contradict_15 : decode cX1_contradict 15 = .ok (.istore 5, 2) := by decide +kernel
theorem dX1_contradict_17 : decode cX1_contradict 17 = .ok (.aload_n 0, 1) := by decide +kernel
theorem dX1_contradict_18 : decode cX1_contradict 18 = .ok (.getfield 18, 3) := by decide +kernel
theorem dX1_contradict_21 : decode cX1_contradict 21 = .ok (.iload_n 1, 1) := by decide +kernel
theorem dX1_contradict_22 : decode cX1_contradict 22 = .ok (.iload 4, 2) := by decide +kernel
theorem dX1_contradict_24 : decode cX1_contradict 24 = .ok (.invokevirtual 42, 3) := by decide +kernel
theorem dX1_contradict_27 : decode cX1_contradict 27 = .ok (.aload_n 0, 1) := by decide +kernel
theorem dX1_contradict_28 : decode cX1_contradict 28 = .ok (.getfield 18, 3) := by decide +kernel
theorem dX1_contradict_31 : decode cX1_contradict 31 = .ok (.iload_n 2, 1) := by decide +kernel
theorem dX1_contradict_32 : decode cX1_contradict 32 = .ok (.iload 5, 2) := by decide +kernel
theorem dX1_contradict_34 : decode cX1_contradict 34 = .ok (.invokevirtual 42, 3) := by decide +kernel
theorem dX1_contradict_37 : decode cX1_contradict 37 = .ok (.if_icmp .ne 68, 3) := by decide +kernel
theorem dX1_contradict_40 : decode cX1_contradict 40 = .ok (.iconst 0, 1) := by decide +kernel
theorem dX1_contradict_41 : decode cX1_contradict 41 = .ok (.istore 6, 2) := by decide +kernel
theorem dX1_contradict_43 : decode cX1_contradict 43 = .ok (.iload 6, 2) := by decide +kernel
theorem dX1_contradict_45 : decode cX1_contradict 45 = .ok (.bipush 8, 2) := by decide +kernel
theorem dX1_contradict_47 : decode cX1_contradict 47 = .ok (.if_icmp .ge 58, 3) := by decide +kernel
theorem dX1_contradict_50 : decode cX1_contradict 50 = .ok (.aload_n 0, 1) := by decide +kernel
theorem dX1_contradict_51 : decode cX1_contradict 51 = .ok (.getfield 22, 3) := by decide +kernel
theorem dX1_contradict_54 : decode cX1_contradict 54 = .ok (.iload_n 1, 1) := by decide +kernel
theorem dX1_contradict_55 : decode cX1_contradict 55 = .ok (.iload 4, 2) := by decide +kernel
theorem dX1_contradict_57 : decode cX1_contradict 57 = .ok (.iload 6, 2) := by decide +kernel
theorem dX1_contradict_59 : decode cX1_contradict 59 = .ok (.invokevirtual 46, 3) := by decide +kernel
theorem dX1_contradict_62 : decode cX1_contradict 62 = .ok (.istore 7, 2) := by decide +kernel
theorem dX1_contradict_64 : decode cX1_contradict 64 = .ok (.aload_n 0, 1) := by decide +kernel
theorem dX1_contradict_65 : decode cX1_contradict 65 = .ok (.getfield 22, 3) := by decide +kernel
theorem dX1_contradict_68 : decode cX1_contradict 68 = .ok (.iload_n 2, 1) := by decide +kernel
theorem dX1_contradict_69 : decode cX1_contradict 69 = .ok (.iload 5, 2) := by decide +kernel
theorem dX1_contradict_71 : decode cX1_contradict 71 = .ok (.iload 6, 2) := by decide +kernel
theorem dX1_contradict_73 : decode cX1_contradict 73 = .ok (.invokevirtual 46, 3) := by decide +kernel
theorem dX1_contradict_76 : decode cX1_contradict 76 = .ok (.istore 8, 2) := by decide +kernel
theorem dX1_contradict_78 : decode cX1_contradict 78 = .ok (.iload 7, 2) := by decide +kernel
theorem dX1_contradict_80 : decode cX1_contradict 80 = .ok (.iconst (-1), 1) := by decide +kernel
theorem dX1_contradict_81 : decode cX1_contradict 81 = .ok (.if_icmp .eq 18, 3) := by decide +kernel
theorem dX1_contradict_84 : decode cX1_contradict 84 = .ok (.iload 8, 2) := by decide +kernel
theorem dX1_contradict_86 : decode cX1_contradict 86 = .ok (.iconst (-1), 1) := by decide +kernel
theorem dX1_contradict_87 : decode cX1_contradict 87 = .ok (.if_icmp .eq 12, 3) := by decide +kernel
theorem dX1_contradict_90 : decode cX1_contradict 90 = .ok (.iload 7, 2) := by decide +kernel
theorem dX1_contradict_92 : decode cX1_contradict 92 = .ok (.iload 8, 2) := by decide +kernel
theorem dX1_contradict_94 : decode cX1_contradict 94 = .ok (.if_icmp .eq 5, 3) := by decide +kernel
theorem dX1_contradict_97 : decode cX1_contradict 97 = .ok (.iconst 1, 1) := by decide +kernel
theorem dX1_contradict_98 : decode cX1_contradict 98 = .ok (.ireturn, 1) := by decide +kernel
theorem dX1_contradict_99 : decode cX1_contradict 99 = .ok (.iinc 6 1, 3) := by decide +kernel
theorem dX1_contradict_102 : decode cX1_contradict 102 = .ok (.goto (-59), 3) := by decide +kernel
theorem dX1_contradict_105 : decode cX1_contradict 105 = .ok (.iinc 3 1, 3) := by decide +kernel
theorem dX1_contradict_108 : decode cX1_contradict 108 = .ok (.goto (-106), 3) := by decide +kernel
theorem dX1_contradict_111 : decode cX1_contradict 111 = .ok (.iconst 0, 1) := by decide +kernel
theorem dX1_contradict_112 : decode cX1_contradict 112 = .ok (.ireturn, 1) := by decide +kernel
theorem dX1_countContradictions_0 : decode cX1_countContradictions 0 = .ok (.iconst 0, 1) := by decide +kernel
theorem dX1_countContradictions_1 : decode cX1_countContradictions 1 = .ok (.istore_n 1, 1) := by decide +kernel
theorem dX1_countContradictions_2 : decode cX1_countContradictions 2 = .ok (.iconst 0, 1) := by decide +kernel
theorem dX1_countContradictions_3 : decode cX1_countContradictions 3 = .ok (.istore_n 2, 1) := by decide +kernel
theorem dX1_countContradictions_4 : decode cX1_countContradictions 4 = .ok (.iload_n 2, 1) := by decide +kernel
theorem dX1_countContradictions_5 : decode cX1_countContradictions 5 = .ok (.aload_n 0, 1) := by decide +kernel
theorem dX1_countContradictions_6 : decode cX1_countContradictions 6 = .ok (.getfield 18, 3) := by decide +kernel
theorem dX1_countContradictions_9 : decode cX1_countContradictions 9 = .ok (.getfield 32, 3) := by decide +kernel
theorem dX1_countContradictions_12 : decode cX1_countContradictions 12 = .ok (.if_icmp .ge 21, 3) := by decide +kernel
theorem dX1_countContradictions_15 : decode cX1_countContradictions 15 = .ok (.iload_n 1, 1) := by decide +kernel
theorem dX1_countContradictions_16 : decode cX1_countContradictions 16 = .ok (.aload_n 0, 1) := by decide +kernel
theorem dX1_countContradictions_17 : decode cX1_countContradictions 17 = .ok (.getfield 9, 3) := by decide +kernel
theorem dX1_countContradictions_20 : decode cX1_countContradictions 20 = .ok (.iload_n 2, 1) := by decide +kernel
theorem dX1_countContradictions_21 : decode cX1_countContradictions 21 = .ok (.iaload, 1) := by decide +kernel
theorem dX1_countContradictions_22 : decode cX1_countContradictions 22 = .ok (.invokestatic 52, 3) := by decide +kernel
theorem dX1_countContradictions_25 : decode cX1_countContradictions 25 = .ok (.iadd, 1) := by decide +kernel
theorem dX1_countContradictions_26 : decode cX1_countContradictions 26 = .ok (.istore_n 1, 1) := by decide +kernel
theorem dX1_countContradictions_27 : decode cX1_countContradictions 27 = .ok (.iinc 2 1, 3) := by decide +kernel
theorem dX1_countContradictions_30 : decode cX1_countContradictions 30 = .ok (.goto (-26), 3) := by decide +kernel
theorem dX1_countContradictions_33 : decode cX1_countContradictions 33 = .ok (.iload_n 1, 1) := by decide +kernel
theorem dX1_countContradictions_34 : decode cX1_countContradictions 34 = .ok (.ireturn, 1) := by decide +kernel
theorem dX1_fewestToBreak_0 : decode cX1_fewestToBreak 0 = .ok (.iconst 1, 1) := by decide +kernel
theorem dX1_fewestToBreak_1 : decode cX1_fewestToBreak 1 = .ok (.aload_n 0, 1) := by decide +kernel
theorem dX1_fewestToBreak_2 : decode cX1_fewestToBreak 2 = .ok (.getfield 18, 3) := by decide +kernel
theorem dX1_fewestToBreak_5 : decode cX1_fewestToBreak 5 = .ok (.getfield 32, 3) := by decide +kernel
theorem dX1_fewestToBreak_8 : decode cX1_fewestToBreak 8 = .ok (.ishl, 1) := by decide +kernel
theorem dX1_fewestToBreak_9 : decode cX1_fewestToBreak 9 = .ok (.iconst 1, 1) := by decide +kernel
theorem dX1_fewestToBreak_10 : decode cX1_fewestToBreak 10 = .ok (.isub, 1) := by decide +kernel
theorem dX1_fewestToBreak_11 : decode cX1_fewestToBreak 11 = .ok (.istore_n 1, 1) := by decide +kernel
theorem dX1_fewestToBreak_12 : decode cX1_fewestToBreak 12 = .ok (.iload_n 1, 1) := by decide +kernel
theorem dX1_fewestToBreak_13 : decode cX1_fewestToBreak 13 = .ok (.istore_n 2, 1) := by decide +kernel
theorem dX1_fewestToBreak_14 : decode cX1_fewestToBreak 14 = .ok (.iconst 0, 1) := by decide +kernel
theorem dX1_fewestToBreak_15 : decode cX1_fewestToBreak 15 = .ok (.istore_n 3, 1) := by decide +kernel
theorem dX1_fewestToBreak_16 : decode cX1_fewestToBreak 16 = .ok (.iload_n 3, 1) := by decide +kernel
theorem dX1_fewestToBreak_17 : decode cX1_fewestToBreak 17 = .ok (.iload_n 1, 1) := by decide +kernel
theorem dX1_fewestToBreak_18 : decode cX1_fewestToBreak 18 = .ok (.if_icmp .gt 30, 3) := by decide +kernel
theorem dX1_fewestToBreak_21 : decode cX1_fewestToBreak 21 = .ok (.iload_n 3, 1) := by decide +kernel
theorem dX1_fewestToBreak_22 : decode cX1_fewestToBreak 22 = .ok (.invokestatic 52, 3) := by decide +kernel
theorem dX1_fewestToBreak_25 : decode cX1_fewestToBreak 25 = .ok (.iload_n 2, 1) := by decide +kernel
theorem dX1_fewestToBreak_26 : decode cX1_fewestToBreak 26 = .ok (.invokestatic 52, 3) := by decide +kernel
theorem dX1_fewestToBreak_29 : decode cX1_fewestToBreak 29 = .ok (.if_icmp .ge 13, 3) := by decide +kernel
theorem dX1_fewestToBreak_32 : decode cX1_fewestToBreak 32 = .ok (.aload_n 0, 1) := by decide +kernel
theorem dX1_fewestToBreak_33 : decode cX1_fewestToBreak 33 = .ok (.iload_n 3, 1) := by decide +kernel
theorem dX1_fewestToBreak_34 : decode cX1_fewestToBreak 34 = .ok (.invokevirtual 58, 3) := by decide +kernel
theorem dX1_fewestToBreak_37 : decode cX1_fewestToBreak 37 = .ok (.ifCond .eq 5, 3) := by decide +kernel
theorem dX1_fewestToBreak_40 : decode cX1_fewestToBreak 40 = .ok (.iload_n 3, 1) := by decide +kernel
theorem dX1_fewestToBreak_41 : decode cX1_fewestToBreak 41 = .ok (.istore_n 2, 1) := by decide +kernel
theorem dX1_fewestToBreak_42 : decode cX1_fewestToBreak 42 = .ok (.iinc 3 1, 3) := by decide +kernel
theorem dX1_fewestToBreak_45 : decode cX1_fewestToBreak 45 = .ok (.goto (-29), 3) := by decide +kernel
theorem dX1_fewestToBreak_48 : decode cX1_fewestToBreak 48 = .ok (.iload_n 2, 1) := by decide +kernel
theorem dX1_fewestToBreak_49 : decode cX1_fewestToBreak 49 = .ok (.ireturn, 1) := by decide +kernel
theorem dX1_endsAll_0 : decode cX1_endsAll 0 = .ok (.iconst 0, 1) := by decide +kernel
theorem dX1_endsAll_1 : decode cX1_endsAll 1 = .ok (.istore_n 2, 1) := by decide +kernel
theorem dX1_endsAll_2 : decode cX1_endsAll 2 = .ok (.iload_n 2, 1) := by decide +kernel
theorem dX1_endsAll_3 : decode cX1_endsAll 3 = .ok (.aload_n 0, 1) := by decide +kernel
theorem dX1_endsAll_4 : decode cX1_endsAll 4 = .ok (.getfield 18, 3) := by decide +kernel
theorem dX1_endsAll_7 : decode cX1_endsAll 7 = .ok (.getfield 32, 3) := by decide +kernel
theorem dX1_endsAll_10 : decode cX1_endsAll 10 = .ok (.if_icmp .ge 32, 3) := by decide +kernel
theorem dX1_endsAll_13 : decode cX1_endsAll 13 = .ok (.iload_n 1, 1) := by decide +kernel
theorem dX1_endsAll_14 : decode cX1_endsAll 14 = .ok (.iload_n 2, 1) := by decide +kernel
theorem dX1_endsAll_15 : decode cX1_endsAll 15 = .ok (.ishr, 1) := by decide +kernel
theorem dX1_endsAll_16 : decode cX1_endsAll 16 = .ok (.iconst 1, 1) := by decide +kernel
theorem dX1_endsAll_17 : decode cX1_endsAll 17 = .ok (.iand, 1) := by decide +kernel
theorem dX1_endsAll_18 : decode cX1_endsAll 18 = .ok (.ifCond .ne 18, 3) := by decide +kernel
theorem dX1_endsAll_21 : decode cX1_endsAll 21 = .ok (.aload_n 0, 1) := by decide +kernel
theorem dX1_endsAll_22 : decode cX1_endsAll 22 = .ok (.getfield 9, 3) := by decide +kernel
theorem dX1_endsAll_25 : decode cX1_endsAll 25 = .ok (.iload_n 2, 1) := by decide +kernel
theorem dX1_endsAll_26 : decode cX1_endsAll 26 = .ok (.iaload, 1) := by decide +kernel
theorem dX1_endsAll_27 : decode cX1_endsAll 27 = .ok (.iload_n 1, 1) := by decide +kernel
theorem dX1_endsAll_28 : decode cX1_endsAll 28 = .ok (.iconst (-1), 1) := by decide +kernel
theorem dX1_endsAll_29 : decode cX1_endsAll 29 = .ok (.ixor, 1) := by decide +kernel
theorem dX1_endsAll_30 : decode cX1_endsAll 30 = .ok (.iand, 1) := by decide +kernel
theorem dX1_endsAll_31 : decode cX1_endsAll 31 = .ok (.ifCond .eq 5, 3) := by decide +kernel
theorem dX1_endsAll_34 : decode cX1_endsAll 34 = .ok (.iconst 0, 1) := by decide +kernel
theorem dX1_endsAll_35 : decode cX1_endsAll 35 = .ok (.ireturn, 1) := by decide +kernel
theorem dX1_endsAll_36 : decode cX1_endsAll 36 = .ok (.iinc 2 1, 3) := by decide +kernel
theorem dX1_endsAll_39 : decode cX1_endsAll 39 = .ok (.goto (-37), 3) := by decide +kernel
theorem dX1_endsAll_42 : decode cX1_endsAll 42 = .ok (.iconst 1, 1) := by decide +kernel
theorem dX1_endsAll_43 : decode cX1_endsAll 43 = .ok (.ireturn, 1) := by decide +kernel
theorem dX1_reachedFrom_0 : decode cX1_reachedFrom 0 = .ok (.iconst 1, 1) := by decide +kernel
theorem dX1_reachedFrom_1 : decode cX1_reachedFrom 1 = .ok (.iload_n 1, 1) := by decide +kernel
theorem dX1_reachedFrom_2 : decode cX1_reachedFrom 2 = .ok (.ishl, 1) := by decide +kernel
theorem dX1_reachedFrom_3 : decode cX1_reachedFrom 3 = .ok (.istore_n 3, 1) := by decide +kernel
theorem dX1_reachedFrom_4 : decode cX1_reachedFrom 4 = .ok (.iconst 0, 1) := by decide +kernel
theorem dX1_reachedFrom_5 : decode cX1_reachedFrom 5 = .ok (.istore 4, 2) := by decide +kernel
theorem dX1_reachedFrom_7 : decode cX1_reachedFrom 7 = .ok (.iload 4, 2) := by decide +kernel
theorem dX1_reachedFrom_9 : decode cX1_reachedFrom 9 = .ok (.bipush 6, 2) := by decide +kernel
theorem dX1_reachedFrom_11 : decode cX1_reachedFrom 11 = .ok (.if_icmp .ge 85, 3) := by decide +kernel
theorem dX1_reachedFrom_14 : decode cX1_reachedFrom 14 = .ok (.iconst 0, 1) := by decide +kernel
theorem dX1_reachedFrom_15 : decode cX1_reachedFrom 15 = .ok (.istore 5, 2) := by decide +kernel
theorem dX1_reachedFrom_17 : decode cX1_reachedFrom 17 = .ok (.iload 5, 2) := by decide +kernel
theorem dX1_reachedFrom_19 : decode cX1_reachedFrom 19 = .ok (.aload_n 0, 1) := by decide +kernel
theorem dX1_reachedFrom_20 : decode cX1_reachedFrom 20 = .ok (.getfield 18, 3) := by decide +kernel
theorem dX1_reachedFrom_23 : decode cX1_reachedFrom 23 = .ok (.getfield 32, 3) := by decide +kernel
theorem dX1_reachedFrom_26 : decode cX1_reachedFrom 26 = .ok (.if_icmp .ge 64, 3) := by decide +kernel
theorem dX1_reachedFrom_29 : decode cX1_reachedFrom 29 = .ok (.aload_n 0, 1) := by decide +kernel
theorem dX1_reachedFrom_30 : decode cX1_reachedFrom 30 = .ok (.iload 5, 2) := by decide +kernel
theorem dX1_reachedFrom_32 : decode cX1_reachedFrom 32 = .ok (.invokevirtual 62, 3) := by decide +kernel
theorem dX1_reachedFrom_35 : decode cX1_reachedFrom 35 = .ok (.istore 6, 2) := by decide +kernel
theorem dX1_reachedFrom_37 : decode cX1_reachedFrom 37 = .ok (.aload_n 0, 1) := by decide +kernel
theorem dX1_reachedFrom_38 : decode cX1_reachedFrom 38 = .ok (.getfield 18, 3) := by decide +kernel
theorem dX1_reachedFrom_41 : decode cX1_reachedFrom 41 = .ok (.getfield 65, 3) := by decide +kernel
theorem dX1_reachedFrom_44 : decode cX1_reachedFrom 44 = .ok (.iload 5, 2) := by decide +kernel
theorem dX1_reachedFrom_46 : decode cX1_reachedFrom 46 = .ok (.iaload, 1) := by decide +kernel
theorem dX1_reachedFrom_47 : decode cX1_reachedFrom 47 = .ok (.iconst 3, 1) := by decide +kernel
theorem dX1_reachedFrom_48 : decode cX1_reachedFrom 48 = .ok (.if_icmp .ne 16, 3) := by decide +kernel
theorem dX1_reachedFrom_51 : decode cX1_reachedFrom 51 = .ok (.iload_n 2, 1) := by decide +kernel
theorem dX1_reachedFrom_52 : decode cX1_reachedFrom 52 = .ok (.iload 5, 2) := by decide +kernel
theorem dX1_reachedFrom_54 : decode cX1_reachedFrom 54 = .ok (.ishr, 1) := by decide +kernel
theorem dX1_reachedFrom_55 : decode cX1_reachedFrom 55 = .ok (.iconst 1, 1) := by decide +kernel
theorem dX1_reachedFrom_56 : decode cX1_reachedFrom 56 = .ok (.iand, 1) := by decide +kernel
theorem dX1_reachedFrom_57 : decode cX1_reachedFrom 57 = .ok (.ifCond .eq 7, 3) := by decide +kernel
theorem dX1_reachedFrom_60 : decode cX1_reachedFrom 60 = .ok (.iconst 1, 1) := by decide +kernel
theorem dX1_reachedFrom_61 : decode cX1_reachedFrom 61 = .ok (.goto 4, 3) := by decide +kernel
theorem dX1_reachedFrom_64 : decode cX1_reachedFrom 64 = .ok (.iconst 0, 1) := by decide +kernel
theorem dX1_reachedFrom_65 : decode cX1_reachedFrom 65 = .ok (.istore 7, 2) := by decide +kernel
theorem dX1_reachedFrom_67 : decode cX1_reachedFrom 67 = .ok (.iload 7, 2) := by decide +kernel
theorem dX1_reachedFrom_69 : decode cX1_reachedFrom 69 = .ok (.ifCond .eq 15, 3) := by decide +kernel
theorem dX1_reachedFrom_72 : decode cX1_reachedFrom 72 = .ok (.iload_n 3, 1) := by decide +kernel
theorem dX1_reachedFrom_73 : decode cX1_reachedFrom 73 = .ok (.iload 6, 2) := by decide +kernel
theorem dX1_reachedFrom_75 : decode cX1_reachedFrom 75 = .ok (.iand, 1) := by decide +kernel
theorem dX1_reachedFrom_76 : decode cX1_reachedFrom 76 = .ok (.ifCond .eq 8, 3) := by decide +kernel
theorem dX1_reachedFrom_79 : decode cX1_reachedFrom 79 = .ok (.iload_n 3, 1) := by decide +kernel
theorem dX1_reachedFrom_80 : decode cX1_reachedFrom 80 = .ok (.iload 6, 2) := by decide +kernel
theorem dX1_reachedFrom_82 : decode cX1_reachedFrom 82 = .ok (.ior, 1) := by decide +kernel
theorem dX1_reachedFrom_83 : decode cX1_reachedFrom 83 = .ok (.istore_n 3, 1) := by decide +kernel
theorem dX1_reachedFrom_84 : decode cX1_reachedFrom 84 = .ok (.iinc 5 1, 3) := by decide +kernel
theorem dX1_reachedFrom_87 : decode cX1_reachedFrom 87 = .ok (.goto (-70), 3) := by decide +kernel
theorem dX1_reachedFrom_90 : decode cX1_reachedFrom 90 = .ok (.iinc 4 1, 3) := by decide +kernel
theorem dX1_reachedFrom_93 : decode cX1_reachedFrom 93 = .ok (.goto (-86), 3) := by decide +kernel
theorem dX1_reachedFrom_96 : decode cX1_reachedFrom 96 = .ok (.iload_n 3, 1) := by decide +kernel
theorem dX1_reachedFrom_97 : decode cX1_reachedFrom 97 = .ok (.iconst 1, 1) := by decide +kernel
theorem dX1_reachedFrom_98 : decode cX1_reachedFrom 98 = .ok (.iload_n 1, 1) := by decide +kernel
theorem dX1_reachedFrom_99 : decode cX1_reachedFrom 99 = .ok (.ishl, 1) := by decide +kernel
theorem dX1_reachedFrom_100 : decode cX1_reachedFrom 100 = .ok (.iconst (-1), 1) := by decide +kernel
theorem dX1_reachedFrom_101 : decode cX1_reachedFrom 101 = .ok (.ixor, 1) := by decide +kernel
theorem dX1_reachedFrom_102 : decode cX1_reachedFrom 102 = .ok (.iand, 1) := by decide +kernel
theorem dX1_reachedFrom_103 : decode cX1_reachedFrom 103 = .ok (.ireturn, 1) := by decide +kernel
theorem dX1_bothOf_0 : decode cX1_bothOf 0 = .ok (.iconst 1, 1) := by decide +kernel
theorem dX1_bothOf_1 : decode cX1_bothOf 1 = .ok (.aload_n 0, 1) := by decide +kernel
theorem dX1_bothOf_2 : decode cX1_bothOf 2 = .ok (.getfield 18, 3) := by decide +kernel
theorem dX1_bothOf_5 : decode cX1_bothOf 5 = .ok (.getfield 68, 3) := by decide +kernel
theorem dX1_bothOf_8 : decode cX1_bothOf 8 = .ok (.iload_n 1, 1) := by decide +kernel
theorem dX1_bothOf_9 : decode cX1_bothOf 9 = .ok (.iaload, 1) := by decide +kernel
theorem dX1_bothOf_10 : decode cX1_bothOf 10 = .ok (.ishl, 1) := by decide +kernel
theorem dX1_bothOf_11 : decode cX1_bothOf 11 = .ok (.iconst 1, 1) := by decide +kernel
theorem dX1_bothOf_12 : decode cX1_bothOf 12 = .ok (.aload_n 0, 1) := by decide +kernel
theorem dX1_bothOf_13 : decode cX1_bothOf 13 = .ok (.getfield 18, 3) := by decide +kernel
theorem dX1_bothOf_16 : decode cX1_bothOf 16 = .ok (.getfield 71, 3) := by decide +kernel
theorem dX1_bothOf_19 : decode cX1_bothOf 19 = .ok (.iload_n 1, 1) := by decide +kernel
theorem dX1_bothOf_20 : decode cX1_bothOf 20 = .ok (.iaload, 1) := by decide +kernel
theorem dX1_bothOf_21 : decode cX1_bothOf 21 = .ok (.ishl, 1) := by decide +kernel
theorem dX1_bothOf_22 : decode cX1_bothOf 22 = .ok (.ior, 1) := by decide +kernel
theorem dX1_bothOf_23 : decode cX1_bothOf 23 = .ok (.ireturn, 1) := by decide +kernel
theorem dX1_findEvenings_0 : decode cX1_findEvenings 0 = .ok (.iconst 1, 1) := by decide +kernel
theorem dX1_findEvenings_1 : decode cX1_findEvenings 1 = .ok (.aload_n 0, 1) := by decide +kernel
theorem dX1_findEvenings_2 : decode cX1_findEvenings 2 = .ok (.getfield 18, 3) := by decide +kernel
theorem dX1_findEvenings_5 : decode cX1_findEvenings 5 = .ok (.getfield 32, 3) := by decide +kernel
theorem dX1_findEvenings_8 : decode cX1_findEvenings 8 = .ok (.ishl, 1) := by decide +kernel
theorem dX1_findEvenings_9 : decode cX1_findEvenings 9 = .ok (.istore_n 1, 1) := by decide +kernel
theorem dX1_findEvenings_10 : decode cX1_findEvenings 10 = .ok (.aload_n 0, 1) := by decide +kernel
theorem dX1_findEvenings_11 : decode cX1_findEvenings 11 = .ok (.getfield 15, 3) := by decide +kernel
theorem dX1_findEvenings_14 : decode cX1_findEvenings 14 = .ok (.iconst 0, 1) := by decide +kernel
theorem dX1_findEvenings_15 : decode cX1_findEvenings 15 = .ok (.iconst 0, 1) := by decide +kernel
theorem dX1_findEvenings_16 : decode cX1_findEvenings 16 = .ok (.iastore, 1) := by decide +kernel
theorem dX1_findEvenings_17 : decode cX1_findEvenings 17 = .ok (.iconst 1, 1) := by decide +kernel
theorem dX1_findEvenings_18 : decode cX1_findEvenings 18 = .ok (.istore_n 2, 1) := by decide +kernel
theorem dX1_findEvenings_19 : decode cX1_findEvenings 19 = .ok (.iload_n 2, 1) := by decide +kernel
theorem dX1_findEvenings_20 : decode cX1_findEvenings 20 = .ok (.iload_n 1, 1) := by decide +kernel
theorem dX1_findEvenings_21 : decode cX1_findEvenings 21 = .ok (.if_icmp .ge 85, 3) := by decide +kernel
theorem dX1_findEvenings_24 : decode cX1_findEvenings 24 = .ok (.aload_n 0, 1) := by decide +kernel
theorem dX1_findEvenings_25 : decode cX1_findEvenings 25 = .ok (.getfield 15, 3) := by decide +kernel
theorem dX1_findEvenings_28 : decode cX1_findEvenings 28 = .ok (.iload_n 2, 1) := by decide +kernel
theorem dX1_findEvenings_29 : decode cX1_findEvenings 29 = .ok (.aload_n 0, 1) := by decide +kernel
theorem dX1_findEvenings_30 : decode cX1_findEvenings 30 = .ok (.iload_n 2, 1) := by decide +kernel
theorem dX1_findEvenings_31 : decode cX1_findEvenings 31 = .ok (.invokevirtual 74, 3) := by decide +kernel
theorem dX1_findEvenings_34 : decode cX1_findEvenings 34 = .ok (.ifCond .eq 7, 3) := by decide +kernel
theorem dX1_findEvenings_37 : decode cX1_findEvenings 37 = .ok (.iconst 1, 1) := by decide +kernel
theorem dX1_findEvenings_38 : decode cX1_findEvenings 38 = .ok (.goto 5, 3) := by decide +kernel
theorem dX1_findEvenings_41 : decode cX1_findEvenings 41 = .ok (.bipush 8, 2) := by decide +kernel
theorem dX1_findEvenings_43 : decode cX1_findEvenings 43 = .ok (.iastore, 1) := by decide +kernel
theorem dX1_findEvenings_44 : decode cX1_findEvenings 44 = .ok (.iconst 1, 1) := by decide +kernel
theorem dX1_findEvenings_45 : decode cX1_findEvenings 45 = .ok (.istore_n 3, 1) := by decide +kernel
theorem dX1_findEvenings_46 : decode cX1_findEvenings 46 = .ok (.iload_n 3, 1) := by decide +kernel
theorem dX1_findEvenings_47 : decode cX1_findEvenings 47 = .ok (.iload_n 2, 1) := by decide +kernel
theorem dX1_findEvenings_48 : decode cX1_findEvenings 48 = .ok (.if_icmp .ge 52, 3) := by decide +kernel
theorem dX1_findEvenings_51 : decode cX1_findEvenings 51 = .ok (.iload_n 3, 1) := by decide +kernel
theorem dX1_findEvenings_52 : decode cX1_findEvenings 52 = .ok (.iload_n 2, 1) := by decide +kernel
theorem dX1_findEvenings_53 : decode cX1_findEvenings 53 = .ok (.iconst (-1), 1) := by decide +kernel
theorem dX1_findEvenings_54 : decode cX1_findEvenings 54 = .ok (.ixor, 1) := by decide +kernel
theorem dX1_findEvenings_55 : decode cX1_findEvenings 55 = .ok (.iand, 1) := by decide +kernel
theorem dX1_findEvenings_56 : decode cX1_findEvenings 56 = .ok (.ifCond .ne 38, 3) := by decide +kernel
theorem dX1_findEvenings_59 : decode cX1_findEvenings 59 = .ok (.aload_n 0, 1) := by decide +kernel
theorem dX1_findEvenings_60 : decode cX1_findEvenings 60 = .ok (.getfield 15, 3) := by decide +kernel
theorem dX1_findEvenings_63 : decode cX1_findEvenings 63 = .ok (.iload_n 3, 1) := by decide +kernel
theorem dX1_findEvenings_64 : decode cX1_findEvenings 64 = .ok (.iaload, 1) := by decide +kernel
theorem dX1_findEvenings_65 : decode cX1_findEvenings 65 = .ok (.iconst 1, 1) := by decide +kernel
theorem dX1_findEvenings_66 : decode cX1_findEvenings 66 = .ok (.if_icmp .ne 28, 3) := by decide +kernel
theorem dX1_findEvenings_69 : decode cX1_findEvenings 69 = .ok (.aload_n 0, 1) := by decide +kernel
theorem dX1_findEvenings_70 : decode cX1_findEvenings 70 = .ok (.getfield 15, 3) := by decide +kernel
theorem dX1_findEvenings_73 : decode cX1_findEvenings 73 = .ok (.iload_n 2, 1) := by decide +kernel
theorem dX1_findEvenings_74 : decode cX1_findEvenings 74 = .ok (.aload_n 0, 1) := by decide +kernel
theorem dX1_findEvenings_75 : decode cX1_findEvenings 75 = .ok (.getfield 15, 3) := by decide +kernel
theorem dX1_findEvenings_78 : decode cX1_findEvenings 78 = .ok (.iload_n 2, 1) := by decide +kernel
theorem dX1_findEvenings_79 : decode cX1_findEvenings 79 = .ok (.iaload, 1) := by decide +kernel
theorem dX1_findEvenings_80 : decode cX1_findEvenings 80 = .ok (.iconst 1, 1) := by decide +kernel
theorem dX1_findEvenings_81 : decode cX1_findEvenings 81 = .ok (.aload_n 0, 1) := by decide +kernel
theorem dX1_findEvenings_82 : decode cX1_findEvenings 82 = .ok (.getfield 15, 3) := by decide +kernel
theorem dX1_findEvenings_85 : decode cX1_findEvenings 85 = .ok (.iload_n 2, 1) := by decide +kernel
theorem dX1_findEvenings_86 : decode cX1_findEvenings 86 = .ok (.iload_n 3, 1) := by decide +kernel
theorem dX1_findEvenings_87 : decode cX1_findEvenings 87 = .ok (.ixor, 1) := by decide +kernel
theorem dX1_findEvenings_88 : decode cX1_findEvenings 88 = .ok (.iaload, 1) := by decide +kernel
theorem dX1_findEvenings_89 : decode cX1_findEvenings 89 = .ok (.iadd, 1) := by decide +kernel
theorem dX1_findEvenings_90 : decode cX1_findEvenings 90 = .ok (.invokestatic 77, 3) := by decide +kernel
theorem dX1_findEvenings_93 : decode cX1_findEvenings 93 = .ok (.iastore, 1) := by decide +kernel
theorem dX1_findEvenings_94 : decode cX1_findEvenings 94 = .ok (.iinc 3 1, 3) := by decide +kernel
theorem dX1_findEvenings_97 : decode cX1_findEvenings 97 = .ok (.goto (-51), 3) := by decide +kernel
theorem dX1_findEvenings_100 : decode cX1_findEvenings 100 = .ok (.iinc 2 1, 3) := by decide +kernel
theorem dX1_findEvenings_103 : decode cX1_findEvenings 103 = .ok (.goto (-84), 3) := by decide +kernel
theorem dX1_findEvenings_106 : decode cX1_findEvenings 106 = .ok (.return_, 1) := by decide +kernel
theorem dX1_onOneEvening_0 : decode cX1_onOneEvening 0 = .ok (.iconst 0, 1) := by decide +kernel
theorem dX1_onOneEvening_1 : decode cX1_onOneEvening 1 = .ok (.istore_n 2, 1) := by decide +kernel
theorem dX1_onOneEvening_2 : decode cX1_onOneEvening 2 = .ok (.iconst 0, 1) := by decide +kernel
theorem dX1_onOneEvening_3 : decode cX1_onOneEvening 3 = .ok (.istore_n 3, 1) := by decide +kernel
theorem dX1_onOneEvening_4 : decode cX1_onOneEvening 4 = .ok (.iload_n 3, 1) := by decide +kernel
theorem dX1_onOneEvening_5 : decode cX1_onOneEvening 5 = .ok (.aload_n 0, 1) := by decide +kernel
theorem dX1_onOneEvening_6 : decode cX1_onOneEvening 6 = .ok (.getfield 18, 3) := by decide +kernel
theorem dX1_onOneEvening_9 : decode cX1_onOneEvening 9 = .ok (.getfield 32, 3) := by decide +kernel
theorem dX1_onOneEvening_12 : decode cX1_onOneEvening 12 = .ok (.if_icmp .ge 37, 3) := by decide +kernel
theorem dX1_onOneEvening_15 : decode cX1_onOneEvening 15 = .ok (.iload_n 1, 1) := by decide +kernel
theorem dX1_onOneEvening_16 : decode cX1_onOneEvening 16 = .ok (.iload_n 3, 1) := by decide +kernel
theorem dX1_onOneEvening_17 : decode cX1_onOneEvening 17 = .ok (.ishr, 1) := by decide +kernel
theorem dX1_onOneEvening_18 : decode cX1_onOneEvening 18 = .ok (.iconst 1, 1) := by decide +kernel
theorem dX1_onOneEvening_19 : decode cX1_onOneEvening 19 = .ok (.iand, 1) := by decide +kernel
theorem dX1_onOneEvening_20 : decode cX1_onOneEvening 20 = .ok (.ifCond .eq 23, 3) := by decide +kernel
theorem dX1_onOneEvening_23 : decode cX1_onOneEvening 23 = .ok (.iload_n 2, 1) := by decide +kernel
theorem dX1_onOneEvening_24 : decode cX1_onOneEvening 24 = .ok (.aload_n 0, 1) := by decide +kernel
theorem dX1_onOneEvening_25 : decode cX1_onOneEvening 25 = .ok (.iload_n 3, 1) := by decide +kernel
theorem dX1_onOneEvening_26 : decode cX1_onOneEvening 26 = .ok (.invokevirtual 62, 3) := by decide +kernel
theorem dX1_onOneEvening_29 : decode cX1_onOneEvening 29 = .ok (.iand, 1) := by decide +kernel
theorem dX1_onOneEvening_30 : decode cX1_onOneEvening 30 = .ok (.ifCond .eq 5, 3) := by decide +kernel
theorem dX1_onOneEvening_33 : decode cX1_onOneEvening 33 = .ok (.iconst 0, 1) := by decide +kernel
theorem dX1_onOneEvening_34 : decode cX1_onOneEvening 34 = .ok (.ireturn, 1) := by decide +kernel
theorem dX1_onOneEvening_35 : decode cX1_onOneEvening 35 = .ok (.iload_n 2, 1) := by decide +kernel
theorem dX1_onOneEvening_36 : decode cX1_onOneEvening 36 = .ok (.aload_n 0, 1) := by decide +kernel
theorem dX1_onOneEvening_37 : decode cX1_onOneEvening 37 = .ok (.iload_n 3, 1) := by decide +kernel
theorem dX1_onOneEvening_38 : decode cX1_onOneEvening 38 = .ok (.invokevirtual 62, 3) := by decide +kernel
theorem dX1_onOneEvening_41 : decode cX1_onOneEvening 41 = .ok (.ior, 1) := by decide +kernel
theorem dX1_onOneEvening_42 : decode cX1_onOneEvening 42 = .ok (.istore_n 2, 1) := by decide +kernel
theorem dX1_onOneEvening_43 : decode cX1_onOneEvening 43 = .ok (.iinc 3 1, 3) := by decide +kernel
theorem dX1_onOneEvening_46 : decode cX1_onOneEvening 46 = .ok (.goto (-42), 3) := by decide +kernel
theorem dX1_onOneEvening_49 : decode cX1_onOneEvening 49 = .ok (.iconst 1, 1) := by decide +kernel
theorem dX1_onOneEvening_50 : decode cX1_onOneEvening 50 = .ok (.ireturn, 1) := by decide +kernel
theorem dX1_fewestEvenings_0 : decode cX1_fewestEvenings 0 = .ok (.aload_n 0, 1) := by decide +kernel
theorem dX1_fewestEvenings_1 : decode cX1_fewestEvenings 1 = .ok (.getfield 15, 3) := by decide +kernel
theorem dX1_fewestEvenings_4 : decode cX1_fewestEvenings 4 = .ok (.iconst 1, 1) := by decide +kernel
theorem dX1_fewestEvenings_5 : decode cX1_fewestEvenings 5 = .ok (.aload_n 0, 1) := by decide +kernel
theorem dX1_fewestEvenings_6 : decode cX1_fewestEvenings 6 = .ok (.getfield 18, 3) := by decide +kernel
theorem dX1_fewestEvenings_9 : decode cX1_fewestEvenings 9 = .ok (.getfield 32, 3) := by decide +kernel
theorem dX1_fewestEvenings_12 : decode cX1_fewestEvenings 12 = .ok (.ishl, 1) := by decide +kernel
theorem dX1_fewestEvenings_13 : decode cX1_fewestEvenings 13 = .ok (.iconst 1, 1) := by decide +kernel
theorem dX1_fewestEvenings_14 : decode cX1_fewestEvenings 14 = .ok (.isub, 1) := by decide +kernel
theorem dX1_fewestEvenings_15 : decode cX1_fewestEvenings 15 = .ok (.iaload, 1) := by decide +kernel
theorem dX1_fewestEvenings_16 : decode cX1_fewestEvenings 16 = .ok (.ireturn, 1) := by decide +kernel
theorem dX1_mostAtOnce_0 : decode cX1_mostAtOnce 0 = .ok (.iconst 0, 1) := by decide +kernel
theorem dX1_mostAtOnce_1 : decode cX1_mostAtOnce 1 = .ok (.istore_n 1, 1) := by decide +kernel
theorem dX1_mostAtOnce_2 : decode cX1_mostAtOnce 2 = .ok (.iconst 1, 1) := by decide +kernel
theorem dX1_mostAtOnce_3 : decode cX1_mostAtOnce 3 = .ok (.istore_n 2, 1) := by decide +kernel
theorem dX1_mostAtOnce_4 : decode cX1_mostAtOnce 4 = .ok (.iload_n 2, 1) := by decide +kernel
theorem dX1_mostAtOnce_5 : decode cX1_mostAtOnce 5 = .ok (.iconst 1, 1) := by decide +kernel
theorem dX1_mostAtOnce_6 : decode cX1_mostAtOnce 6 = .ok (.aload_n 0, 1) := by decide +kernel
theorem dX1_mostAtOnce_7 : decode cX1_mostAtOnce 7 = .ok (.getfield 18, 3) := by decide +kernel
theorem dX1_mostAtOnce_10 : decode cX1_mostAtOnce 10 = .ok (.getfield 32, 3) := by decide +kernel
theorem dX1_mostAtOnce_13 : decode cX1_mostAtOnce 13 = .ok (.ishl, 1) := by decide +kernel
theorem dX1_mostAtOnce_14 : decode cX1_mostAtOnce 14 = .ok (.if_icmp .ge 32, 3) := by decide +kernel
theorem dX1_mostAtOnce_17 : decode cX1_mostAtOnce 17 = .ok (.aload_n 0, 1) := by decide +kernel
theorem dX1_mostAtOnce_18 : decode cX1_mostAtOnce 18 = .ok (.getfield 15, 3) := by decide +kernel
theorem dX1_mostAtOnce_21 : decode cX1_mostAtOnce 21 = .ok (.iload_n 2, 1) := by decide +kernel
theorem dX1_mostAtOnce_22 : decode cX1_mostAtOnce 22 = .ok (.iaload, 1) := by decide +kernel
theorem dX1_mostAtOnce_23 : decode cX1_mostAtOnce 23 = .ok (.iconst 1, 1) := by decide +kernel
theorem dX1_mostAtOnce_24 : decode cX1_mostAtOnce 24 = .ok (.if_icmp .ne 16, 3) := by decide +kernel
theorem dX1_mostAtOnce_27 : decode cX1_mostAtOnce 27 = .ok (.iload_n 2, 1) := by decide +kernel
theorem dX1_mostAtOnce_28 : decode cX1_mostAtOnce 28 = .ok (.invokestatic 52, 3) := by decide +kernel
theorem dX1_mostAtOnce_31 : decode cX1_mostAtOnce 31 = .ok (.iload_n 1, 1) := by decide +kernel
theorem dX1_mostAtOnce_32 : decode cX1_mostAtOnce 32 = .ok (.invokestatic 52, 3) := by decide +kernel
theorem dX1_mostAtOnce_35 : decode cX1_mostAtOnce 35 = .ok (.if_icmp .le 5, 3) := by decide +kernel
theorem dX1_mostAtOnce_38 : decode cX1_mostAtOnce 38 = .ok (.iload_n 2, 1) := by decide +kernel
theorem dX1_mostAtOnce_39 : decode cX1_mostAtOnce 39 = .ok (.istore_n 1, 1) := by decide +kernel
theorem dX1_mostAtOnce_40 : decode cX1_mostAtOnce 40 = .ok (.iinc 2 1, 3) := by decide +kernel
theorem dX1_mostAtOnce_43 : decode cX1_mostAtOnce 43 = .ok (.goto (-39), 3) := by decide +kernel
theorem dX1_mostAtOnce_46 : decode cX1_mostAtOnce 46 = .ok (.iload_n 1, 1) := by decide +kernel
theorem dX1_mostAtOnce_47 : decode cX1_mostAtOnce 47 = .ok (.ireturn, 1) := by decide +kernel
theorem dX2_init_0 : decode cX2_init 0 = .ok (.aload_n 0, 1) := by decide +kernel
theorem dX2_init_1 : decode cX2_init 1 = .ok (.invokespecial 3, 3) := by decide +kernel
theorem dX2_init_4 : decode cX2_init 4 = .ok (.aload_n 0, 1) := by decide +kernel
theorem dX2_init_5 : decode cX2_init 5 = .ok (.new 9, 3) := by decide +kernel
theorem dX2_init_8 : decode cX2_init 8 = .ok (.dup, 1) := by decide +kernel
theorem dX2_init_9 : decode cX2_init 9 = .ok (.invokespecial 11, 3) := by decide +kernel
theorem dX2_init_12 : decode cX2_init 12 = .ok (.putfield 12, 3) := by decide +kernel
theorem dX2_init_15 : decode cX2_init 15 = .ok (.aload_n 0, 1) := by decide +kernel
theorem dX2_init_16 : decode cX2_init 16 = .ok (.bipush 10, 2) := by decide +kernel
theorem dX2_init_18 : decode cX2_init 18 = .ok (.newarray .int, 2) := by decide +kernel
theorem dX2_init_20 : decode cX2_init 20 = .ok (.putfield 18, 3) := by decide +kernel
theorem dX2_init_23 : decode cX2_init 23 = .ok (.aload_n 0, 1) := by decide +kernel
theorem dX2_init_24 : decode cX2_init 24 = .ok (.iconst 0, 1) := by decide +kernel
theorem dX2_init_25 : decode cX2_init 25 = .ok (.putfield 22, 3) := by decide +kernel
theorem dX2_init_28 : decode cX2_init 28 = .ok (.aload_n 0, 1) := by decide +kernel
theorem dX2_init_29 : decode cX2_init 29 = .ok (.iconst 0, 1) := by decide +kernel
theorem dX2_init_30 : decode cX2_init 30 = .ok (.putfield 26, 3) := by decide +kernel
theorem dX2_init_33 : decode cX2_init 33 = .ok (.aload_n 0, 1) := by decide +kernel
theorem dX2_init_34 : decode cX2_init 34 = .ok (.iconst 0, 1) := by decide +kernel
theorem dX2_init_35 : decode cX2_init 35 = .ok (.putfield 29, 3) := by decide +kernel
theorem dX2_init_38 : decode cX2_init 38 = .ok (.aload_n 0, 1) := by decide +kernel
theorem dX2_init_39 : decode cX2_init 39 = .ok (.iconst 0, 1) := by decide +kernel
theorem dX2_init_40 : decode cX2_init 40 = .ok (.putfield 32, 3) := by decide +kernel
theorem dX2_init_43 : decode cX2_init 43 = .ok (.aload_n 0, 1) := by decide +kernel
theorem dX2_init_44 : decode cX2_init 44 = .ok (.aload_n 1, 1) := by decide +kernel
theorem dX2_init_45 : decode cX2_init 45 = .ok (.putfield 35, 3) := by decide +kernel
theorem dX2_init_48 : decode cX2_init 48 = .ok (.return_, 1) := by decide +kernel
theorem dX2_prepare_0 : decode cX2_prepare 0 = .ok (.aload_n 0, 1) := by decide +kernel
theorem dX2_prepare_1 : decode cX2_prepare 1 = .ok (.iload_n 2, 1) := by decide +kernel
theorem dX2_prepare_2 : decode cX2_prepare 2 = .ok (.putfield 22, 3) := by decide +kernel
theorem dX2_prepare_5 : decode cX2_prepare 5 = .ok (.aload_n 0, 1) := by decide +kernel
theorem dX2_prepare_6 : decode cX2_prepare 6 = .ok (.aload_n 0, 1) := by decide +kernel
theorem dX2_prepare_7 : decode cX2_prepare 7 = .ok (.getfield 35, 3) := by decide +kernel
theorem dX2_prepare_10 : decode cX2_prepare 10 = .ok (.getfield 39, 3) := by decide +kernel
theorem dX2_prepare_13 : decode cX2_prepare 13 = .ok (.iload_n 2, 1) := by decide +kernel
theorem dX2_prepare_14 : decode cX2_prepare 14 = .ok (.iaload, 1) := by decide +kernel
theorem dX2_prepare_15 : decode cX2_prepare 15 = .ok (.putfield 26, 3) := by decide +kernel
theorem dX2_prepare_18 : decode cX2_prepare 18 = .ok (.aload_n 1, 1) := by decide +kernel
theorem dX2_prepare_19 : decode cX2_prepare 19 = .ok (.iload_n 2, 1) := by decide +kernel
theorem dX2_prepare_20 : decode cX2_prepare 20 = .ok (.invokevirtual 43, 3) := by decide +kernel
theorem dX2_prepare_23 : decode cX2_prepare 23 = .ok (.iload_n 3, 1) := by decide +kernel
theorem dX2_prepare_24 : decode cX2_prepare 24 = .ok (.iadd, 1) := by decide +kernel
theorem dX2_prepare_25 : decode cX2_prepare 25 = .ok (.istore 4, 2) := by decide +kernel
theorem dX2_prepare_27 : decode cX2_prepare 27 = .ok (.aload_n 0, 1) := by decide +kernel
theorem dX2_prepare_28 : decode cX2_prepare 28 = .ok (.aload_n 0, 1) := by decide +kernel
theorem dX2_prepare_29 : decode cX2_prepare 29 = .ok (.getfield 35, 3) := by decide +kernel
theorem dX2_prepare_32 : decode cX2_prepare 32 = .ok (.iload_n 2, 1) := by decide +kernel
theorem dX2_prepare_33 : decode cX2_prepare 33 = .ok (.iconst 0, 1) := by decide +kernel
theorem dX2_prepare_34 : decode cX2_prepare 34 = .ok (.invokevirtual 49, 3) := by decide +kernel
theorem dX2_prepare_37 : decode cX2_prepare 37 = .ok (.iload 4, 2) := by decide +kernel
theorem dX2_prepare_39 : decode cX2_prepare 39 = .ok (.iadd, 1) := by decide +kernel
theorem dX2_prepare_40 : decode cX2_prepare 40 = .ok (.bipush 10, 2) := by decide +kernel
theorem dX2_prepare_42 : decode cX2_prepare 42 = .ok (.idiv, 1) := by decide +kernel
theorem dX2_prepare_43 : decode cX2_prepare 43 = .ok (.putfield 29, 3) := by decide +kernel
theorem dX2_prepare_46 : decode cX2_prepare 46 = .ok (.aload_n 0, 1) := by decide +kernel
theorem dX2_prepare_47 : decode cX2_prepare 47 = .ok (.aload_n 0, 1) := by decide +kernel
theorem dX2_prepare_48 : decode cX2_prepare 48 = .ok (.getfield 35, 3) := by decide +kernel
theorem dX2_prepare_51 : decode cX2_prepare 51 = .ok (.iload_n 2, 1) := by decide +kernel
theorem dX2_prepare_52 : decode cX2_prepare 52 = .ok (.iconst 1, 1) := by decide +kernel
theorem dX2_prepare_53 : decode cX2_prepare 53 = .ok (.invokevirtual 49, 3) := by decide +kernel
theorem dX2_prepare_56 : decode cX2_prepare 56 = .ok (.iload 4, 2) := by decide +kernel
theorem dX2_prepare_58 : decode cX2_prepare 58 = .ok (.iadd, 1) := by decide +kernel
theorem dX2_prepare_59 : decode cX2_prepare 59 = .ok (.bipush 10, 2) := by decide +kernel
theorem dX2_prepare_61 : decode cX2_prepare 61 = .ok (.idiv, 1) := by decide +kernel
theorem dX2_prepare_62 : decode cX2_prepare 62 = .ok (.putfield 32, 3) := by decide +kernel
theorem dX2_prepare_65 : decode cX2_prepare 65 = .ok (.iconst 0, 1) := by decide +kernel
theorem dX2_prepare_66 : decode cX2_prepare 66 = .ok (.istore 5, 2) := by decide +kernel
theorem dX2_prepare_68 : decode cX2_prepare 68 = .ok (.iload 5, 2) := by decide +kernel
theorem dX2_prepare_70 : decode cX2_prepare 70 = .ok (.aload_n 0, 1) := by decide +kernel
theorem dX2_prepare_71 : decode cX2_prepare 71 = .ok (.getfield 26, 3) := by decide +kernel
theorem dX2_prepare_74 : decode cX2_prepare 74 = .ok (.if_icmp .ge 27, 3) := by decide +kernel
theorem dX2_prepare_77 : decode cX2_prepare 77 = .ok (.aload_n 0, 1) := by decide +kernel
theorem dX2_prepare_78 : decode cX2_prepare 78 = .ok (.getfield 18, 3) := by decide +kernel
theorem dX2_prepare_81 : decode cX2_prepare 81 = .ok (.iload 5, 2) := by decide +kernel
theorem dX2_prepare_83 : decode cX2_prepare 83 = .ok (.aload_n 1, 1) := by decide +kernel
theorem dX2_prepare_84 : decode cX2_prepare 84 = .ok (.getfield 53, 3) := by decide +kernel
theorem dX2_prepare_87 : decode cX2_prepare 87 = .ok (.iload_n 2, 1) := by decide +kernel
theorem dX2_prepare_88 : decode cX2_prepare 88 = .ok (.iload 5, 2) := by decide +kernel
theorem dX2_prepare_90 : decode cX2_prepare 90 = .ok (.invokestatic 54, 3) := by decide +kernel
theorem dX2_prepare_93 : decode cX2_prepare 93 = .ok (.iaload, 1) := by decide +kernel
theorem dX2_prepare_94 : decode cX2_prepare 94 = .ok (.iastore, 1) := by decide +kernel
theorem dX2_prepare_95 : decode cX2_prepare 95 = .ok (.iinc 5 1, 3) := by decide +kernel
theorem dX2_prepare_98 : decode cX2_prepare 98 = .ok (.goto (-30), 3) := by decide +kernel
theorem dX2_prepare_101 : decode cX2_prepare 101 = .ok (.return_, 1) := by decide +kernel
theorem dX2_walk_0 : decode cX2_walk 0 = .ok (.iload_n 1, 1) := by decide +kernel
theorem dX2_walk_1 : decode cX2_walk 1 = .ok (.istore_n 3, 1) := by decide +kernel
theorem dX2_walk_2 : decode cX2_walk 2 = .ok (.iload_n 3, 1) := by decide +kernel
theorem dX2_walk_3 : decode cX2_walk 3 = .ok (.iload_n 2, 1) := by decide +kernel
theorem dX2_walk_4 : decode cX2_walk 4 = .ok (.if_icmp .ge 19, 3) := by decide +kernel
theorem dX2_walk_7 : decode cX2_walk 7 = .ok (.aload_n 0, 1) := by decide +kernel
theorem dX2_walk_8 : decode cX2_walk 8 = .ok (.iload_n 3, 1) := by decide +kernel
theorem dX2_walk_9 : decode cX2_walk 9 = .ok (.invokevirtual 57, 3) := by decide +kernel
theorem dX2_walk_12 : decode cX2_walk 12 = .ok (.ifCond .ne 5, 3) := by decide +kernel
theorem dX2_walk_15 : decode cX2_walk 15 = .ok (.iload_n 3, 1) := by decide +kernel
theorem dX2_walk_16 : decode cX2_walk 16 = .ok (.ireturn, 1) := by decide +kernel
theorem dX2_walk_17 : decode cX2_walk 17 = .ok (.iinc 3 1, 3) := by decide +kernel
theorem dX2_walk_20 : decode cX2_walk 20 = .ok (.goto (-18), 3) := by decide +kernel
theorem dX2_walk_23 : decode cX2_walk 23 = .ok (.iconst (-1), 1) := by decide +kernel
theorem dX2_walk_24 : decode cX2_walk 24 = .ok (.ireturn, 1) := by decide +kernel
theorem dX2_walkAll_0 : decode cX2_walkAll 0 = .ok (.aload_n 0, 1) := by decide +kernel
theorem dX2_walkAll_1 : decode cX2_walkAll 1 = .ok (.getfield 12, 3) := by decide +kernel
theorem dX2_walkAll_4 : decode cX2_walkAll 4 = .ok (.aload_n 0, 1) := by decide +kernel
theorem dX2_walkAll_5 : decode cX2_walkAll 5 = .ok (.getfield 35, 3) := by decide +kernel
theorem dX2_walkAll_8 : decode cX2_walkAll 8 = .ok (.getfield 61, 3) := by decide +kernel
theorem dX2_walkAll_11 : decode cX2_walkAll 11 = .ok (.invokevirtual 64, 3) := by decide +kernel
theorem dX2_walkAll_14 : decode cX2_walkAll 14 = .ok (.aload_n 0, 1) := by decide +kernel
theorem dX2_walkAll_15 : decode cX2_walkAll 15 = .ok (.iconst 0, 1) := by decide +kernel
theorem dX2_walkAll_16 : decode cX2_walkAll 16 = .ok (.aload_n 0, 1) := by decide +kernel
theorem dX2_walkAll_17 : decode cX2_walkAll 17 = .ok (.getfield 26, 3) := by decide +kernel
theorem dX2_walkAll_20 : decode cX2_walkAll 20 = .ok (.invokevirtual 68, 3) := by decide +kernel
theorem dX2_walkAll_23 : decode cX2_walkAll 23 = .ok (.ireturn, 1) := by decide +kernel
theorem dX2_endsFacing_0 : decode cX2_endsFacing 0 = .ok (.aload_n 0, 1) := by decide +kernel
theorem dX2_endsFacing_1 : decode cX2_endsFacing 1 = .ok (.getfield 12, 3) := by decide +kernel
theorem dX2_endsFacing_4 : decode cX2_endsFacing 4 = .ok (.aload_n 0, 1) := by decide +kernel
theorem dX2_endsFacing_5 : decode cX2_endsFacing 5 = .ok (.getfield 35, 3) := by decide +kernel
theorem dX2_endsFacing_8 : decode cX2_endsFacing 8 = .ok (.getfield 61, 3) := by decide +kernel
theorem dX2_endsFacing_11 : decode cX2_endsFacing 11 = .ok (.invokevirtual 64, 3) := by decide +kernel
theorem dX2_endsFacing_14 : decode cX2_endsFacing 14 = .ok (.aload_n 0, 1) := by decide +kernel
theorem dX2_endsFacing_15 : decode cX2_endsFacing 15 = .ok (.iconst 0, 1) := by decide +kernel
theorem dX2_endsFacing_16 : decode cX2_endsFacing 16 = .ok (.aload_n 0, 1) := by decide +kernel
theorem dX2_endsFacing_17 : decode cX2_endsFacing 17 = .ok (.getfield 26, 3) := by decide +kernel
theorem dX2_endsFacing_20 : decode cX2_endsFacing 20 = .ok (.invokevirtual 68, 3) := by decide +kernel
theorem dX2_endsFacing_23 : decode cX2_endsFacing 23 = .ok (.iconst (-1), 1) := by decide +kernel
theorem dX2_endsFacing_24 : decode cX2_endsFacing 24 = .ok (.if_icmp .ne 17, 3) := by decide +kernel
theorem dX2_endsFacing_27 : decode cX2_endsFacing 27 = .ok (.aload_n 0, 1) := by decide +kernel
theorem dX2_endsFacing_28 : decode cX2_endsFacing 28 = .ok (.getfield 12, 3) := by decide +kernel
theorem dX2_endsFacing_31 : decode cX2_endsFacing 31 = .ok (.invokevirtual 71, 3) := by decide +kernel
theorem dX2_endsFacing_34 : decode cX2_endsFacing 34 = .ok (.ifCond .eq 7, 3) := by decide +kernel
theorem dX2_endsFacing_37 : decode cX2_endsFacing 37 = .ok (.iconst 1, 1) := by decide +kernel
theorem dX2_endsFacing_38 : decode cX2_endsFacing 38 = .ok (.goto 4, 3) := by decide +kernel
theorem dX2_endsFacing_41 : decode cX2_endsFacing 41 = .ok (.iconst 0, 1) := by decide +kernel
theorem dX2_endsFacing_42 : decode cX2_endsFacing 42 = .ok (.ireturn, 1) := by decide +kernel
theorem dX2_takes_0 : decode cX2_takes 0 = .ok (.aload_n 0, 1) := by decide +kernel
theorem dX2_takes_1 : decode cX2_takes 1 = .ok (.getfield 22, 3) := by decide +kernel
theorem dX2_takes_4 : decode cX2_takes 4 = .ok (.iload_n 1, 1) := by decide +kernel
theorem dX2_takes_5 : decode cX2_takes 5 = .ok (.invokestatic 54, 3) := by decide +kernel
theorem dX2_takes_8 : decode cX2_takes 8 = .ok (.istore_n 2, 1) := by decide +kernel
theorem dX2_takes_9 : decode cX2_takes 9 = .ok (.aload_n 0, 1) := by decide +kernel
theorem dX2_takes_10 : decode cX2_takes 10 = .ok (.getfield 35, 3) := by decide +kernel
theorem dX2_takes_13 : decode cX2_takes 13 = .ok (.getfield 75, 3) := by decide +kernel
theorem dX2_takes_16 : decode cX2_takes 16 = .ok (.iload_n 2, 1) := by decide +kernel
theorem dX2_takes_17 : decode cX2_takes 17 = .ok (.iaload, 1) := by decide +kernel
theorem dX2_takes_18 : decode cX2_takes 18 = .ok (.istore_n 3, 1) := by decide +kernel
theorem dX2_takes_19 : decode cX2_takes 19 = .ok (.aload_n 0, 1) := by decide +kernel
theorem dX2_takes_20 : decode cX2_takes 20 = .ok (.getfield 35, 3) := by decide +kernel
theorem dX2_takes_23 : decode cX2_takes 23 = .ok (.getfield 78, 3) := by decide +kernel
theorem dX2_takes_26 : decode cX2_takes 26 = .ok (.iload_n 2, 1) := by decide +kernel
theorem dX2_takes_27 : decode cX2_takes 27 = .ok (.iaload, 1) := by decide +kernel
theorem dX2_takes_28 : decode cX2_takes 28 = .ok (.tableswitch 99 0 4 #[36, 74, 36, 99, 90], 36) := by decide +kernel
theorem dX2_takes_64 : decode cX2_takes 64 = .ok (.aload_n 0, 1) := by decide +kernel
theorem dX2_takes_65 : decode cX2_takes 65 = .ok (.getfield 12, 3) := by decide +kernel
theorem dX2_takes_68 : decode cX2_takes 68 = .ok (.iload_n 3, 1) := by decide +kernel
theorem dX2_takes_69 : decode cX2_takes 69 = .ok (.aload_n 0, 1) := by decide +kernel
theorem dX2_takes_70 : decode cX2_takes 70 = .ok (.getfield 18, 3) := by decide +kernel
theorem dX2_takes_73 : decode cX2_takes 73 = .ok (.iload_n 1, 1) := by decide +kernel
theorem dX2_takes_74 : decode cX2_takes 74 = .ok (.iaload, 1) := by decide +kernel
theorem dX2_takes_75 : decode cX2_takes 75 = .ok (.aload_n 0, 1) := by decide +kernel
theorem dX2_takes_76 : decode cX2_takes 76 = .ok (.getfield 29, 3) := by decide +kernel
theorem dX2_takes_79 : decode cX2_takes 79 = .ok (.isub, 1) := by decide +kernel
theorem dX2_takes_80 : decode cX2_takes 80 = .ok (.aload_n 0, 1) := by decide +kernel
theorem dX2_takes_81 : decode cX2_takes 81 = .ok (.getfield 18, 3) := by decide +kernel
theorem dX2_takes_84 : decode cX2_takes 84 = .ok (.iload_n 1, 1) := by decide +kernel
theorem dX2_takes_85 : decode cX2_takes 85 = .ok (.iaload, 1) := by decide +kernel
theorem dX2_takes_86 : decode cX2_takes 86 = .ok (.aload_n 0, 1) := by decide +kernel
theorem dX2_takes_87 : decode cX2_takes 87 = .ok (.getfield 32, 3) := by decide +kernel
theorem dX2_takes_90 : decode cX2_takes 90 = .ok (.isub, 1) := by decide +kernel
theorem dX2_takes_91 : decode cX2_takes 91 = .ok (.aload_n 0, 1) := by decide +kernel
theorem dX2_takes_92 : decode cX2_takes 92 = .ok (.getfield 35, 3) := by decide +kernel
theorem dX2_takes_95 : decode cX2_takes 95 = .ok (.getfield 61, 3) := by decide +kernel
theorem dX2_takes_98 : decode cX2_takes 98 = .ok (.invokevirtual 81, 3) := by decide +kernel
theorem dX2_takes_101 : decode cX2_takes 101 = .ok (.ireturn, 1) := by decide +kernel
theorem dX2_takes_102 : decode cX2_takes 102 = .ok (.aload_n 0, 1) := by decide +kernel
theorem dX2_takes_103 : decode cX2_takes 103 = .ok (.getfield 12, 3) := by decide +kernel
theorem dX2_takes_106 : decode cX2_takes 106 = .ok (.iload_n 3, 1) := by decide +kernel
theorem dX2_takes_107 : decode cX2_takes 107 = .ok (.aload_n 0, 1) := by decide +kernel
theorem dX2_takes_108 : decode cX2_takes 108 = .ok (.getfield 18, 3) := by decide +kernel
theorem dX2_takes_111 : decode cX2_takes 111 = .ok (.iload_n 1, 1) := by decide +kernel
theorem dX2_takes_112 : decode cX2_takes 112 = .ok (.iaload, 1) := by decide +kernel
theorem dX2_takes_113 : decode cX2_takes 113 = .ok (.invokevirtual 85, 3) := by decide +kernel
theorem dX2_takes_116 : decode cX2_takes 116 = .ok (.iconst 1, 1) := by decide +kernel
theorem dX2_takes_117 : decode cX2_takes 117 = .ok (.ireturn, 1) := by decide +kernel
theorem dX2_takes_118 : decode cX2_takes 118 = .ok (.aload_n 0, 1) := by decide +kernel
theorem dX2_takes_119 : decode cX2_takes 119 = .ok (.getfield 12, 3) := by decide +kernel
theorem dX2_takes_122 : decode cX2_takes 122 = .ok (.invokevirtual 89, 3) := by decide +kernel
theorem dX2_takes_125 : decode cX2_takes 125 = .ok (.iconst 1, 1) := by decide +kernel
theorem dX2_takes_126 : decode cX2_takes 126 = .ok (.ireturn, 1) := by decide +kernel
theorem dX2_takes_127 : decode cX2_takes 127 = .ok (.iconst 1, 1) := by decide +kernel
theorem dX2_takes_128 : decode cX2_takes 128 = .ok (.ireturn, 1) := by decide +kernel
theorem dX2_bindingBits_0 : decode cX2_bindingBits 0 = .ok (.iconst 0, 1) := by decide +kernel
theorem dX2_bindingBits_1 : decode cX2_bindingBits 1 = .ok (.istore_n 3, 1) := by decide +kernel
theorem dX2_bindingBits_2 : decode cX2_bindingBits 2 = .ok (.iconst 0, 1) := by decide +kernel
theorem dX2_bindingBits_3 : decode cX2_bindingBits 3 = .ok (.istore 4, 2) := by decide +kernel
theorem dX2_bindingBits_5 : decode cX2_bindingBits 5 = .ok (.iload 4, 2) := by decide +kernel
theorem dX2_bindingBits_7 : decode cX2_bindingBits 7 = .ok (.aload_n 0, 1) := by decide +kernel
theorem dX2_bindingBits_8 : decode cX2_bindingBits 8 = .ok (.getfield 35, 3) := by decide +kernel
theorem dX2_bindingBits_11 : decode cX2_bindingBits 11 = .ok (.getfield 92, 3) := by decide +kernel
theorem dX2_bindingBits_14 : decode cX2_bindingBits 14 = .ok (.if_icmp .ge 41, 3) := by decide +kernel
theorem dX2_bindingBits_17 : decode cX2_bindingBits 17 = .ok (.aload_n 0, 1) := by decide +kernel
theorem dX2_bindingBits_18 : decode cX2_bindingBits 18 = .ok (.aload_n 1, 1) := by decide +kernel
theorem dX2_bindingBits_19 : decode cX2_bindingBits 19 = .ok (.iload 4, 2) := by decide +kernel
theorem dX2_bindingBits_21 : decode cX2_bindingBits 21 = .ok (.iload_n 2, 1) := by decide +kernel
theorem dX2_bindingBits_22 : decode cX2_bindingBits 22 = .ok (.invokevirtual 95, 3) := by decide +kernel
theorem dX2_bindingBits_25 : decode cX2_bindingBits 25 = .ok (.aload_n 1, 1) := by decide +kernel
theorem dX2_bindingBits_26 : decode cX2_bindingBits 26 = .ok (.getfield 99, 3) := by decide +kernel
theorem dX2_bindingBits_29 : decode cX2_bindingBits 29 = .ok (.iload 4, 2) := by decide +kernel
theorem dX2_bindingBits_31 : decode cX2_bindingBits 31 = .ok (.iaload, 1) := by decide +kernel
theorem dX2_bindingBits_32 : decode cX2_bindingBits 32 = .ok (.ifCond .ne 17, 3) := by decide +kernel
theorem dX2_bindingBits_35 : decode cX2_bindingBits 35 = .ok (.aload_n 0, 1) := by decide +kernel
theorem dX2_bindingBits_36 : decode cX2_bindingBits 36 = .ok (.invokevirtual 102, 3) := by decide +kernel
theorem dX2_bindingBits_39 : decode cX2_bindingBits 39 = .ok (.ifCond .eq 10, 3) := by decide +kernel
theorem dX2_bindingBits_42 : decode cX2_bindingBits 42 = .ok (.iload_n 3, 1) := by decide +kernel
theorem dX2_bindingBits_43 : decode cX2_bindingBits 43 = .ok (.iconst 1, 1) := by decide +kernel
theorem dX2_bindingBits_44 : decode cX2_bindingBits 44 = .ok (.iload 4, 2) := by decide +kernel
theorem dX2_bindingBits_46 : decode cX2_bindingBits 46 = .ok (.ishl, 1) := by decide +kernel
theorem dX2_bindingBits_47 : decode cX2_bindingBits 47 = .ok (.ior, 1) := by decide +kernel
theorem dX2_bindingBits_48 : decode cX2_bindingBits 48 = .ok (.istore_n 3, 1) := by decide +kernel
theorem dX2_bindingBits_49 : decode cX2_bindingBits 49 = .ok (.iinc 4 1, 3) := by decide +kernel
theorem dX2_bindingBits_52 : decode cX2_bindingBits 52 = .ok (.goto (-47), 3) := by decide +kernel
theorem dX2_bindingBits_55 : decode cX2_bindingBits 55 = .ok (.iload_n 3, 1) := by decide +kernel
theorem dX2_bindingBits_56 : decode cX2_bindingBits 56 = .ok (.ireturn, 1) := by decide +kernel
theorem dX3_init_0 : decode cX3_init 0 = .ok (.aload_n 0, 1) := by decide +kernel
theorem dX3_init_1 : decode cX3_init 1 = .ok (.invokespecial 3, 3) := by decide +kernel
theorem dX3_init_4 : decode cX3_init 4 = .ok (.aload_n 0, 1) := by decide +kernel
theorem dX3_init_5 : decode cX3_init 5 = .ok (.iconst 2, 1) := by decide +kernel
theorem dX3_init_6 : decode cX3_init 6 = .ok (.newarray .int, 2) := by decide +kernel
theorem dX3_init_8 : decode cX3_init 8 = .ok (.putfield 9, 3) := by decide +kernel
theorem dX3_init_11 : decode cX3_init 11 = .ok (.aload_n 0, 1) := by decide +kernel
theorem dX3_init_12 : decode cX3_init 12 = .ok (.iconst 2, 1) := by decide +kernel
theorem dX3_init_13 : decode cX3_init 13 = .ok (.newarray .int, 2) := by decide +kernel
theorem dX3_init_15 : decode cX3_init 15 = .ok (.putfield 15, 3) := by decide +kernel
theorem dX3_init_18 : decode cX3_init 18 = .ok (.aload_n 0, 1) := by decide +kernel
theorem dX3_init_19 : decode cX3_init 19 = .ok (.iconst 2, 1) := by decide +kernel
theorem dX3_init_20 : decode cX3_init 20 = .ok (.newarray .int, 2) := by decide +kernel
theorem dX3_init_22 : decode cX3_init 22 = .ok (.putfield 18, 3) := by decide +kernel
theorem dX3_init_25 : decode cX3_init 25 = .ok (.return_, 1) := by decide +kernel
theorem dX3_begin_0 : decode cX3_begin 0 = .ok (.aload_n 0, 1) := by decide +kernel
theorem dX3_begin_1 : decode cX3_begin 1 = .ok (.getfield 9, 3) := by decide +kernel
theorem dX3_begin_4 : decode cX3_begin 4 = .ok (.iconst 0, 1) := by decide +kernel
theorem dX3_begin_5 : decode cX3_begin 5 = .ok (.iconst 0, 1) := by decide +kernel
theorem dX3_begin_6 : decode cX3_begin 6 = .ok (.iastore, 1) := by decide +kernel
theorem dX3_begin_7 : decode cX3_begin 7 = .ok (.aload_n 0, 1) := by decide +kernel
theorem dX3_begin_8 : decode cX3_begin 8 = .ok (.getfield 9, 3) := by decide +kernel
theorem dX3_begin_11 : decode cX3_begin 11 = .ok (.iconst 1, 1) := by decide +kernel
theorem dX3_begin_12 : decode cX3_begin 12 = .ok (.iload_n 1, 1) := by decide +kernel
theorem dX3_begin_13 : decode cX3_begin 13 = .ok (.iconst 1, 1) := by decide +kernel
theorem dX3_begin_14 : decode cX3_begin 14 = .ok (.isub, 1) := by decide +kernel
theorem dX3_begin_15 : decode cX3_begin 15 = .ok (.iastore, 1) := by decide +kernel
theorem dX3_begin_16 : decode cX3_begin 16 = .ok (.aload_n 0, 1) := by decide +kernel
theorem dX3_begin_17 : decode cX3_begin 17 = .ok (.getfield 15, 3) := by decide +kernel
theorem dX3_begin_20 : decode cX3_begin 20 = .ok (.iconst 0, 1) := by decide +kernel
theorem dX3_begin_21 : decode cX3_begin 21 = .ok (.iload_n 1, 1) := by decide +kernel
theorem dX3_begin_22 : decode cX3_begin 22 = .ok (.iconst 2, 1) := by decide +kernel
theorem dX3_begin_23 : decode cX3_begin 23 = .ok (.idiv, 1) := by decide +kernel
theorem dX3_begin_24 : decode cX3_begin 24 = .ok (.iastore, 1) := by decide +kernel
theorem dX3_begin_25 : decode cX3_begin 25 = .ok (.aload_n 0, 1) := by decide +kernel
theorem dX3_begin_26 : decode cX3_begin 26 = .ok (.getfield 15, 3) := by decide +kernel
theorem dX3_begin_29 : decode cX3_begin 29 = .ok (.iconst 1, 1) := by decide +kernel
theorem dX3_begin_30 : decode cX3_begin 30 = .ok (.iload_n 1, 1) := by decide +kernel
theorem dX3_begin_31 : decode cX3_begin 31 = .ok (.iconst 2, 1) := by decide +kernel
theorem dX3_begin_32 : decode cX3_begin 32 = .ok (.idiv, 1) := by decide +kernel
theorem dX3_begin_33 : decode cX3_begin 33 = .ok (.iastore, 1) := by decide +kernel
theorem dX3_begin_34 : decode cX3_begin 34 = .ok (.aload_n 0, 1) := by decide +kernel
theorem dX3_begin_35 : decode cX3_begin 35 = .ok (.getfield 18, 3) := by decide +kernel
theorem dX3_begin_38 : decode cX3_begin 38 = .ok (.iconst 0, 1) := by decide +kernel
theorem dX3_begin_39 : decode cX3_begin 39 = .ok (.iconst 0, 1) := by decide +kernel
theorem dX3_begin_40 : decode cX3_begin 40 = .ok (.iastore, 1) := by decide +kernel
theorem dX3_begin_41 : decode cX3_begin 41 = .ok (.aload_n 0, 1) := by decide +kernel
theorem dX3_begin_42 : decode cX3_begin 42 = .ok (.getfield 18, 3) := by decide +kernel
theorem dX3_begin_45 : decode cX3_begin 45 = .ok (.iconst 1, 1) := by decide +kernel
theorem dX3_begin_46 : decode cX3_begin 46 = .ok (.iconst 2, 1) := by decide +kernel
theorem dX3_begin_47 : decode cX3_begin 47 = .ok (.iastore, 1) := by decide +kernel
theorem dX3_begin_48 : decode cX3_begin 48 = .ok (.return_, 1) := by decide +kernel
theorem dX3_become_0 : decode cX3_become 0 = .ok (.iconst 0, 1) := by decide +kernel
theorem dX3_become_1 : decode cX3_become 1 = .ok (.istore_n 2, 1) := by decide +kernel
theorem dX3_become_2 : decode cX3_become 2 = .ok (.iload_n 2, 1) := by decide +kernel
theorem dX3_become_3 : decode cX3_become 3 = .ok (.iconst 1, 1) := by decide +kernel
theorem dX3_become_4 : decode cX3_become 4 = .ok (.if_icmp .gt 45, 3) := by decide +kernel
theorem dX3_become_7 : decode cX3_become 7 = .ok (.aload_n 0, 1) := by decide +kernel
theorem dX3_become_8 : decode cX3_become 8 = .ok (.getfield 9, 3) := by decide +kernel
theorem dX3_become_11 : decode cX3_become 11 = .ok (.iload_n 2, 1) := by decide +kernel
theorem dX3_become_12 : decode cX3_become 12 = .ok (.aload_n 1, 1) := by decide +kernel
theorem dX3_become_13 : decode cX3_become 13 = .ok (.getfield 9, 3) := by decide +kernel
theorem dX3_become_16 : decode cX3_become 16 = .ok (.iload_n 2, 1) := by decide +kernel
theorem dX3_become_17 : decode cX3_become 17 = .ok (.iaload, 1) := by decide +kernel
theorem dX3_become_18 : decode cX3_become 18 = .ok (.iastore, 1) := by decide +kernel
theorem dX3_become_19 : decode cX3_become 19 = .ok (.aload_n 0, 1) := by decide +kernel
theorem dX3_become_20 : decode cX3_become 20 = .ok (.getfield 15, 3) := by decide +kernel
theorem dX3_become_23 : decode cX3_become 23 = .ok (.iload_n 2, 1) := by decide +kernel
theorem dX3_become_24 : decode cX3_become 24 = .ok (.aload_n 1, 1) := by decide +kernel
theorem dX3_become_25 : decode cX3_become 25 = .ok (.getfield 15, 3) := by decide +kernel
theorem dX3_become_28 : decode cX3_become 28 = .ok (.iload_n 2, 1) := by decide +kernel
theorem dX3_become_29 : decode cX3_become 29 = .ok (.iaload, 1) := by decide +kernel
theorem dX3_become_30 : decode cX3_become 30 = .ok (.iastore, 1) := by decide +kernel
theorem dX3_become_31 : decode cX3_become 31 = .ok (.aload_n 0, 1) := by decide +kernel
theorem dX3_become_32 : decode cX3_become 32 = .ok (.getfield 18, 3) := by decide +kernel
theorem dX3_become_35 : decode cX3_become 35 = .ok (.iload_n 2, 1) := by decide +kernel
theorem dX3_become_36 : decode cX3_become 36 = .ok (.aload_n 1, 1) := by decide +kernel
theorem dX3_become_37 : decode cX3_become 37 = .ok (.getfield 18, 3) := by decide +kernel
theorem dX3_become_40 : decode cX3_become 40 = .ok (.iload_n 2, 1) := by decide +kernel
theorem dX3_become_41 : decode cX3_become 41 = .ok (.iaload, 1) := by decide +kernel
theorem dX3_become_42 : decode cX3_become 42 = .ok (.iastore, 1) := by decide +kernel
theorem dX3_become_43 : decode cX3_become 43 = .ok (.iinc 2 1, 3) := by decide +kernel
theorem dX3_become_46 : decode cX3_become 46 = .ok (.goto (-44), 3) := by decide +kernel
theorem dX3_become_49 : decode cX3_become 49 = .ok (.return_, 1) := by decide +kernel
theorem dX3_advance_0 : decode cX3_advance 0 = .ok (.aload_n 0, 1) := by decide +kernel
theorem dX3_advance_1 : decode cX3_advance 1 = .ok (.getfield 9, 3) := by decide +kernel
theorem dX3_advance_4 : decode cX3_advance 4 = .ok (.iconst 0, 1) := by decide +kernel
theorem dX3_advance_5 : decode cX3_advance 5 = .ok (.iaload, 1) := by decide +kernel
theorem dX3_advance_6 : decode cX3_advance 6 = .ok (.istore 5, 2) := by decide +kernel
theorem dX3_advance_8 : decode cX3_advance 8 = .ok (.aload_n 0, 1) := by decide +kernel
theorem dX3_advance_9 : decode cX3_advance 9 = .ok (.getfield 15, 3) := by decide +kernel
theorem dX3_advance_12 : decode cX3_advance 12 = .ok (.iconst 0, 1) := by decide +kernel
theorem dX3_advance_13 : decode cX3_advance 13 = .ok (.iaload, 1) := by decide +kernel
theorem dX3_advance_14 : decode cX3_advance 14 = .ok (.istore 6, 2) := by decide +kernel
theorem dX3_advance_16 : decode cX3_advance 16 = .ok (.aload_n 0, 1) := by decide +kernel
theorem dX3_advance_17 : decode cX3_advance 17 = .ok (.getfield 9, 3) := by decide +kernel
theorem dX3_advance_20 : decode cX3_advance 20 = .ok (.iconst 1, 1) := by decide +kernel
theorem dX3_advance_21 : decode cX3_advance 21 = .ok (.iaload, 1) := by decide +kernel
theorem dX3_advance_22 : decode cX3_advance 22 = .ok (.istore 7, 2) := by decide +kernel
theorem dX3_advance_24 : decode cX3_advance 24 = .ok (.aload_n 0, 1) := by decide +kernel
theorem dX3_advance_25 : decode cX3_advance 25 = .ok (.getfield 15, 3) := by decide +kernel
theorem dX3_advance_28 : decode cX3_advance 28 = .ok (.iconst 1, 1) := by decide +kernel
theorem dX3_advance_29 : decode cX3_advance 29 = .ok (.iaload, 1) := by decide +kernel
theorem dX3_advance_30 : decode cX3_advance 30 = .ok (.istore 8, 2) := by decide +kernel
theorem dX3_advance_32 : decode cX3_advance 32 = .ok (.iconst 1, 1) := by decide +kernel
theorem dX3_advance_33 : decode cX3_advance 33 = .ok (.istore 9, 2) := by decide +kernel
theorem dX3_advance_35 : decode cX3_advance 35 = .ok (.iconst 0, 1) := by decide +kernel
theorem dX3_advance_36 : decode cX3_advance 36 = .ok (.istore 10, 2) := by decide +kernel
theorem dX3_advance_38 : decode cX3_advance 38 = .ok (.iload 10, 2) := by decide +kernel
theorem dX3_advance_40 : decode cX3_advance 40 = .ok (.iconst 1, 1) := by decide +kernel
theorem dX3_advance_41 : decode cX3_advance 41 = .ok (.if_icmp .gt 176, 3) := by decide +kernel
theorem dX3_advance_44 : decode cX3_advance 44 = .ok (.iload 10, 2) := by decide +kernel
theorem dX3_advance_46 : decode cX3_advance 46 = .ok (.ifCond .ne 7, 3) := by decide +kernel
theorem dX3_advance_49 : decode cX3_advance 49 = .ok (.iload_n 2, 1) := by decide +kernel
theorem dX3_advance_50 : decode cX3_advance 50 = .ok (.goto 4, 3) := by decide +kernel
theorem dX3_advance_53 : decode cX3_advance 53 = .ok (.iload_n 3, 1) := by decide +kernel
theorem dX3_advance_54 : decode cX3_advance 54 = .ok (.istore 11, 2) := by decide +kernel
theorem dX3_advance_56 : decode cX3_advance 56 = .ok (.iconst 0, 1) := by decide +kernel
theorem dX3_advance_57 : decode cX3_advance 57 = .ok (.istore 12, 2) := by decide +kernel
theorem dX3_advance_59 : decode cX3_advance 59 = .ok (.iload 12, 2) := by decide +kernel
theorem dX3_advance_61 : decode cX3_advance 61 = .ok (.iload 11, 2) := by decide +kernel
theorem dX3_advance_63 : decode cX3_advance 63 = .ok (.if_icmp .ge 148, 3) := by decide +kernel
theorem dX3_advance_66 : decode cX3_advance 66 = .ok (.iload 9, 2) := by decide +kernel
theorem dX3_advance_68 : decode cX3_advance 68 = .ok (.ifCond .eq 143, 3) := by decide +kernel
theorem dX3_advance_71 : decode cX3_advance 71 = .ok (.iload_n 1, 1) := by decide +kernel
theorem dX3_advance_72 : decode cX3_advance 72 = .ok (.iconst 2, 1) := by decide +kernel
theorem dX3_advance_73 : decode cX3_advance 73 = .ok (.if_icmp .eq 9, 3) := by decide +kernel
theorem dX3_advance_76 : decode cX3_advance 76 = .ok (.iload_n 1, 1) := by decide +kernel
theorem dX3_advance_77 : decode cX3_advance 77 = .ok (.iload 10, 2) := by decide +kernel
theorem dX3_advance_79 : decode cX3_advance 79 = .ok (.if_icmp .ne 132, 3) := by decide +kernel
theorem dX3_advance_82 : decode cX3_advance 82 = .ok (.aload_n 0, 1) := by decide +kernel
theorem dX3_advance_83 : decode cX3_advance 83 = .ok (.getfield 9, 3) := by decide +kernel
theorem dX3_advance_86 : decode cX3_advance 86 = .ok (.iload 10, 2) := by decide +kernel
theorem dX3_advance_88 : decode cX3_advance 88 = .ok (.dup2, 1) := by decide +kernel
theorem dX3_advance_89 : decode cX3_advance 89 = .ok (.iaload, 1) := by decide +kernel
theorem dX3_advance_90 : decode cX3_advance 90 = .ok (.getstatic 21, 3) := by decide +kernel
theorem dX3_advance_93 : decode cX3_advance 93 = .ok (.aload_n 0, 1) := by decide +kernel
theorem dX3_advance_94 : decode cX3_advance 94 = .ok (.getfield 18, 3) := by decide +kernel
theorem dX3_advance_97 : decode cX3_advance 97 = .ok (.iload 10, 2) := by decide +kernel
theorem dX3_advance_99 : decode cX3_advance 99 = .ok (.iaload, 1) := by decide +kernel
theorem dX3_advance_100 : decode cX3_advance 100 = .ok (.iaload, 1) := by decide +kernel
theorem dX3_advance_101 : decode cX3_advance 101 = .ok (.iadd, 1) := by decide +kernel
theorem dX3_advance_102 : decode cX3_advance 102 = .ok (.iastore, 1) := by decide +kernel
theorem dX3_advance_103 : decode cX3_advance 103 = .ok (.aload_n 0, 1) := by decide +kernel
theorem dX3_advance_104 : decode cX3_advance 104 = .ok (.getfield 15, 3) := by decide +kernel
theorem dX3_advance_107 : decode cX3_advance 107 = .ok (.iload 10, 2) := by decide +kernel
theorem dX3_advance_109 : decode cX3_advance 109 = .ok (.dup2, 1) := by decide +kernel
theorem dX3_advance_110 : decode cX3_advance 110 = .ok (.iaload, 1) := by decide +kernel
theorem dX3_advance_111 : decode cX3_advance 111 = .ok (.getstatic 24, 3) := by decide +kernel
theorem dX3_advance_114 : decode cX3_advance 114 = .ok (.aload_n 0, 1) := by decide +kernel
theorem dX3_advance_115 : decode cX3_advance 115 = .ok (.getfield 18, 3) := by decide +kernel
theorem dX3_advance_118 : decode cX3_advance 118 = .ok (.iload 10, 2) := by decide +kernel
theorem dX3_advance_120 : decode cX3_advance 120 = .ok (.iaload, 1) := by decide +kernel
theorem dX3_advance_121 : decode cX3_advance 121 = .ok (.iaload, 1) := by decide +kernel
theorem dX3_advance_122 : decode cX3_advance 122 = .ok (.iadd, 1) := by decide +kernel
theorem dX3_advance_123 : decode cX3_advance 123 = .ok (.iastore, 1) := by decide +kernel
theorem dX3_advance_124 : decode cX3_advance 124 = .ok (.aload_n 0, 1) := by decide +kernel
theorem dX3_advance_125 : decode cX3_advance 125 = .ok (.getfield 9, 3) := by decide +kernel
theorem dX3_advance_128 : decode cX3_advance 128 = .ok (.iload 10, 2) := by decide +kernel
theorem dX3_advance_130 : decode cX3_advance 130 = .ok (.iaload, 1) := by decide +kernel
theorem dX3_advance_131 : decode cX3_advance 131 = .ok (.ifCond .lt 71, 3) := by decide +kernel
theorem dX3_advance_134 : decode cX3_advance 134 = .ok (.aload_n 0, 1) := by decide +kernel
theorem dX3_advance_135 : decode cX3_advance 135 = .ok (.getfield 9, 3) := by decide +kernel
theorem dX3_advance_138 : decode cX3_advance 138 = .ok (.iload 10, 2) := by decide +kernel
theorem dX3_advance_140 : decode cX3_advance 140 = .ok (.iaload, 1) := by decide +kernel
theorem dX3_advance_141 : decode cX3_advance 141 = .ok (.iload 4, 2) := by decide +kernel
theorem dX3_advance_143 : decode cX3_advance 143 = .ok (.if_icmp .ge 59, 3) := by decide +kernel
theorem dX3_advance_146 : decode cX3_advance 146 = .ok (.aload_n 0, 1) := by decide +kernel
theorem dX3_advance_147 : decode cX3_advance 147 = .ok (.getfield 15, 3) := by decide +kernel
theorem dX3_advance_150 : decode cX3_advance 150 = .ok (.iload 10, 2) := by decide +kernel
theorem dX3_advance_152 : decode cX3_advance 152 = .ok (.iaload, 1) := by decide +kernel
theorem dX3_advance_153 : decode cX3_advance 153 = .ok (.ifCond .lt 49, 3) := by decide +kernel
theorem dX3_advance_156 : decode cX3_advance 156 = .ok (.aload_n 0, 1) := by decide +kernel
theorem dX3_advance_157 : decode cX3_advance 157 = .ok (.getfield 15, 3) := by decide +kernel
theorem dX3_advance_160 : decode cX3_advance 160 = .ok (.iload 10, 2) := by decide +kernel
theorem dX3_advance_162 : decode cX3_advance 162 = .ok (.iaload, 1) := by decide +kernel
theorem dX3_advance_163 : decode cX3_advance 163 = .ok (.iload 4, 2) := by decide +kernel
theorem dX3_advance_165 : decode cX3_advance 165 = .ok (.if_icmp .ge 37, 3) := by decide +kernel
theorem dX3_advance_168 : decode cX3_advance 168 = .ok (.aload_n 0, 1) := by decide +kernel
theorem dX3_advance_169 : decode cX3_advance 169 = .ok (.getfield 9, 3) := by decide +kernel
theorem dX3_advance_172 : decode cX3_advance 172 = .ok (.iconst 0, 1) := by decide +kernel
theorem dX3_advance_173 : decode cX3_advance 173 = .ok (.iaload, 1) := by decide +kernel
theorem dX3_advance_174 : decode cX3_advance 174 = .ok (.aload_n 0, 1) := by decide +kernel
theorem dX3_advance_175 : decode cX3_advance 175 = .ok (.getfield 9, 3) := by decide +kernel
theorem dX3_advance_178 : decode cX3_advance 178 = .ok (.iconst 1, 1) := by decide +kernel
theorem dX3_advance_179 : decode cX3_advance 179 = .ok (.iaload, 1) := by decide +kernel
theorem dX3_advance_180 : decode cX3_advance 180 = .ok (.if_icmp .ne 18, 3) := by decide +kernel
theorem dX3_advance_183 : decode cX3_advance 183 = .ok (.aload_n 0, 1) := by decide +kernel
theorem dX3_advance_184 : decode cX3_advance 184 = .ok (.getfield 15, 3) := by decide +kernel
theorem dX3_advance_187 : decode cX3_advance 187 = .ok (.iconst 0, 1) := by decide +kernel
theorem dX3_advance_188 : decode cX3_advance 188 = .ok (.iaload, 1) := by decide +kernel
theorem dX3_advance_189 : decode cX3_advance 189 = .ok (.aload_n 0, 1) := by decide +kernel
theorem dX3_advance_190 : decode cX3_advance 190 = .ok (.getfield 15, 3) := by decide +kernel
theorem dX3_advance_193 : decode cX3_advance 193 = .ok (.iconst 1, 1) := by decide +kernel
theorem dX3_advance_194 : decode cX3_advance 194 = .ok (.iaload, 1) := by decide +kernel
theorem dX3_advance_195 : decode cX3_advance 195 = .ok (.if_icmp .eq 7, 3) := by decide +kernel
theorem dX3_advance_198 : decode cX3_advance 198 = .ok (.iconst 1, 1) := by decide +kernel
theorem dX3_advance_199 : decode cX3_advance 199 = .ok (.goto 4, 3) := by decide +kernel
theorem dX3_advance_202 : decode cX3_advance 202 = .ok (.iconst 0, 1) := by decide +kernel
theorem dX3_advance_203 : decode cX3_advance 203 = .ok (.istore 9, 2) := by decide +kernel
theorem dX3_advance_205 : decode cX3_advance 205 = .ok (.iinc 12 1, 3) := by decide +kernel
theorem dX3_advance_208 : decode cX3_advance 208 = .ok (.goto (-149), 3) := by decide +kernel
theorem dX3_advance_211 : decode cX3_advance 211 = .ok (.iinc 10 1, 3) := by decide +kernel
theorem dX3_advance_214 : decode cX3_advance 214 = .ok (.goto (-176), 3) := by decide +kernel
theorem dX3_advance_217 : decode cX3_advance 217 = .ok (.iload 9, 2) := by decide +kernel
theorem dX3_advance_219 : decode cX3_advance 219 = .ok (.ifCond .ne 35, 3) := by decide +kernel
theorem dX3_advance_222 : decode cX3_advance 222 = .ok (.aload_n 0, 1) := by decide +kernel
theorem dX3_advance_223 : decode cX3_advance 223 = .ok (.getfield 9, 3) := by decide +kernel
theorem dX3_advance_226 : decode cX3_advance 226 = .ok (.iconst 0, 1) := by decide +kernel
theorem dX3_advance_227 : decode cX3_advance 227 = .ok (.iload 5, 2) := by decide +kernel
theorem dX3_advance_229 : decode cX3_advance 229 = .ok (.iastore, 1) := by decide +kernel
theorem dX3_advance_230 : decode cX3_advance 230 = .ok (.aload_n 0, 1) := by decide +kernel
theorem dX3_advance_231 : decode cX3_advance 231 = .ok (.getfield 15, 3) := by decide +kernel
theorem dX3_advance_234 : decode cX3_advance 234 = .ok (.iconst 0, 1) := by decide +kernel
theorem dX3_advance_235 : decode cX3_advance 235 = .ok (.iload 6, 2) := by decide +kernel
theorem dX3_advance_237 : decode cX3_advance 237 = .ok (.iastore, 1) := by decide +kernel
theorem dX3_advance_238 : decode cX3_advance 238 = .ok (.aload_n 0, 1) := by decide +kernel
theorem dX3_advance_239 : decode cX3_advance 239 = .ok (.getfield 9, 3) := by decide +kernel
theorem dX3_advance_242 : decode cX3_advance 242 = .ok (.iconst 1, 1) := by decide +kernel
theorem dX3_advance_243 : decode cX3_advance 243 = .ok (.iload 7, 2) := by decide +kernel
theorem dX3_advance_245 : decode cX3_advance 245 = .ok (.iastore, 1) := by decide +kernel
theorem dX3_advance_246 : decode cX3_advance 246 = .ok (.aload_n 0, 1) := by decide +kernel
theorem dX3_advance_247 : decode cX3_advance 247 = .ok (.getfield 15, 3) := by decide +kernel
theorem dX3_advance_250 : decode cX3_advance 250 = .ok (.iconst 1, 1) := by decide +kernel
theorem dX3_advance_251 : decode cX3_advance 251 = .ok (.iload 8, 2) := by decide +kernel
theorem dX3_advance_253 : decode cX3_advance 253 = .ok (.iastore, 1) := by decide +kernel
theorem dX3_advance_254 : decode cX3_advance 254 = .ok (.iload 9, 2) := by decide +kernel
theorem dX3_advance_256 : decode cX3_advance 256 = .ok (.ireturn, 1) := by decide +kernel
theorem dX3_turn_0 : decode cX3_turn 0 = .ok (.iload_n 1, 1) := by decide +kernel
theorem dX3_turn_1 : decode cX3_turn 1 = .ok (.iconst 1, 1) := by decide +kernel
theorem dX3_turn_2 : decode cX3_turn 2 = .ok (.if_icmp .eq 19, 3) := by decide +kernel
theorem dX3_turn_5 : decode cX3_turn 5 = .ok (.aload_n 0, 1) := by decide +kernel
theorem dX3_turn_6 : decode cX3_turn 6 = .ok (.getfield 18, 3) := by decide +kernel
theorem dX3_turn_9 : decode cX3_turn 9 = .ok (.iconst 0, 1) := by decide +kernel
theorem dX3_turn_10 : decode cX3_turn 10 = .ok (.aload_n 0, 1) := by decide +kernel
theorem dX3_turn_11 : decode cX3_turn 11 = .ok (.getfield 18, 3) := by decide +kernel
theorem dX3_turn_14 : decode cX3_turn 14 = .ok (.iconst 0, 1) := by decide +kernel
theorem dX3_turn_15 : decode cX3_turn 15 = .ok (.iaload, 1) := by decide +kernel
theorem dX3_turn_16 : decode cX3_turn 16 = .ok (.iload_n 2, 1) := by decide +kernel
theorem dX3_turn_17 : decode cX3_turn 17 = .ok (.iadd, 1) := by decide +kernel
theorem dX3_turn_18 : decode cX3_turn 18 = .ok (.iconst 3, 1) := by decide +kernel
theorem dX3_turn_19 : decode cX3_turn 19 = .ok (.iand, 1) := by decide +kernel
theorem dX3_turn_20 : decode cX3_turn 20 = .ok (.iastore, 1) := by decide +kernel
theorem dX3_turn_21 : decode cX3_turn 21 = .ok (.iload_n 1, 1) := by decide +kernel
theorem dX3_turn_22 : decode cX3_turn 22 = .ok (.ifCond .eq 19, 3) := by decide +kernel
theorem dX3_turn_25 : decode cX3_turn 25 = .ok (.aload_n 0, 1) := by decide +kernel
theorem dX3_turn_26 : decode cX3_turn 26 = .ok (.getfield 18, 3) := by decide +kernel
theorem dX3_turn_29 : decode cX3_turn 29 = .ok (.iconst 1, 1) := by decide +kernel
theorem dX3_turn_30 : decode cX3_turn 30 = .ok (.aload_n 0, 1) := by decide +kernel
theorem dX3_turn_31 : decode cX3_turn 31 = .ok (.getfield 18, 3) := by decide +kernel
theorem dX3_turn_34 : decode cX3_turn 34 = .ok (.iconst 1, 1) := by decide +kernel
theorem dX3_turn_35 : decode cX3_turn 35 = .ok (.iaload, 1) := by decide +kernel
theorem dX3_turn_36 : decode cX3_turn 36 = .ok (.iload_n 2, 1) := by decide +kernel
theorem dX3_turn_37 : decode cX3_turn 37 = .ok (.iadd, 1) := by decide +kernel
theorem dX3_turn_38 : decode cX3_turn 38 = .ok (.iconst 3, 1) := by decide +kernel
theorem dX3_turn_39 : decode cX3_turn 39 = .ok (.iand, 1) := by decide +kernel
theorem dX3_turn_40 : decode cX3_turn 40 = .ok (.iastore, 1) := by decide +kernel
theorem dX3_turn_41 : decode cX3_turn 41 = .ok (.return_, 1) := by decide +kernel
theorem dX3_changePlaces_0 : decode cX3_changePlaces 0 = .ok (.aload_n 0, 1) := by decide +kernel
theorem dX3_changePlaces_1 : decode cX3_changePlaces 1 = .ok (.getfield 9, 3) := by decide +kernel
theorem dX3_changePlaces_4 : decode cX3_changePlaces 4 = .ok (.iconst 0, 1) := by decide +kernel
theorem dX3_changePlaces_5 : decode cX3_changePlaces 5 = .ok (.iaload, 1) := by decide +kernel
theorem dX3_changePlaces_6 : decode cX3_changePlaces 6 = .ok (.istore_n 1, 1) := by decide +kernel
theorem dX3_changePlaces_7 : decode cX3_changePlaces 7 = .ok (.aload_n 0, 1) := by decide +kernel
theorem dX3_changePlaces_8 : decode cX3_changePlaces 8 = .ok (.getfield 15, 3) := by decide +kernel
theorem dX3_changePlaces_11 : decode cX3_changePlaces 11 = .ok (.iconst 0, 1) := by decide +kernel
theorem dX3_changePlaces_12 : decode cX3_changePlaces 12 = .ok (.iaload, 1) := by decide +kernel
theorem dX3_changePlaces_13 : decode cX3_changePlaces 13 = .ok (.istore_n 2, 1) := by decide +kernel
theorem dX3_changePlaces_14 : decode cX3_changePlaces 14 = .ok (.aload_n 0, 1) := by decide +kernel
theorem dX3_changePlaces_15 : decode cX3_changePlaces 15 = .ok (.getfield 9, 3) := by decide +kernel
theorem dX3_changePlaces_18 : decode cX3_changePlaces 18 = .ok (.iconst 0, 1) := by decide +kernel
theorem dX3_changePlaces_19 : decode cX3_changePlaces 19 = .ok (.aload_n 0, 1) := by decide +kernel
theorem dX3_changePlaces_20 : decode cX3_changePlaces 20 = .ok (.getfield 9, 3) := by decide +kernel
theorem dX3_changePlaces_23 : decode cX3_changePlaces 23 = .ok (.iconst 1, 1) := by decide +kernel
theorem dX3_changePlaces_24 : decode cX3_changePlaces 24 = .ok (.iaload, 1) := by decide +kernel
theorem dX3_changePlaces_25 : decode cX3_changePlaces 25 = .ok (.iastore, 1) := by decide +kernel
theorem dX3_changePlaces_26 : decode cX3_changePlaces 26 = .ok (.aload_n 0, 1) := by decide +kernel
theorem dX3_changePlaces_27 : decode cX3_changePlaces 27 = .ok (.getfield 15, 3) := by decide +kernel
theorem dX3_changePlaces_30 : decode cX3_changePlaces 30 = .ok (.iconst 0, 1) := by decide +kernel
theorem dX3_changePlaces_31 : decode cX3_changePlaces 31 = .ok (.aload_n 0, 1) := by decide +kernel
theorem dX3_changePlaces_32 : decode cX3_changePlaces 32 = .ok (.getfield 15, 3) := by decide +kernel
theorem dX3_changePlaces_35 : decode cX3_changePlaces 35 = .ok (.iconst 1, 1) := by decide +kernel
theorem dX3_changePlaces_36 : decode cX3_changePlaces 36 = .ok (.iaload, 1) := by decide +kernel
theorem dX3_changePlaces_37 : decode cX3_changePlaces 37 = .ok (.iastore, 1) := by decide +kernel
theorem dX3_changePlaces_38 : decode cX3_changePlaces 38 = .ok (.aload_n 0, 1) := by decide +kernel
theorem dX3_changePlaces_39 : decode cX3_changePlaces 39 = .ok (.getfield 9, 3) := by decide +kernel
theorem dX3_changePlaces_42 : decode cX3_changePlaces 42 = .ok (.iconst 1, 1) := by decide +kernel
theorem dX3_changePlaces_43 : decode cX3_changePlaces 43 = .ok (.iload_n 1, 1) := by decide +kernel
theorem dX3_changePlaces_44 : decode cX3_changePlaces 44 = .ok (.iastore, 1) := by decide +kernel
theorem dX3_changePlaces_45 : decode cX3_changePlaces 45 = .ok (.aload_n 0, 1) := by decide +kernel
theorem dX3_changePlaces_46 : decode cX3_changePlaces 46 = .ok (.getfield 15, 3) := by decide +kernel
theorem dX3_changePlaces_49 : decode cX3_changePlaces 49 = .ok (.iconst 1, 1) := by decide +kernel
theorem dX3_changePlaces_50 : decode cX3_changePlaces 50 = .ok (.iload_n 2, 1) := by decide +kernel
theorem dX3_changePlaces_51 : decode cX3_changePlaces 51 = .ok (.iastore, 1) := by decide +kernel
theorem dX3_changePlaces_52 : decode cX3_changePlaces 52 = .ok (.return_, 1) := by decide +kernel
theorem dX3_areFacing_0 : decode cX3_areFacing 0 = .ok (.aload_n 0, 1) := by decide +kernel
theorem dX3_areFacing_1 : decode cX3_areFacing 1 = .ok (.iconst 0, 1) := by decide +kernel
theorem dX3_areFacing_2 : decode cX3_areFacing 2 = .ok (.invokevirtual 27, 3) := by decide +kernel
theorem dX3_areFacing_5 : decode cX3_areFacing 5 = .ok (.ifCond .eq 15, 3) := by decide +kernel
theorem dX3_areFacing_8 : decode cX3_areFacing 8 = .ok (.aload_n 0, 1) := by decide +kernel
theorem dX3_areFacing_9 : decode cX3_areFacing 9 = .ok (.iconst 1, 1) := by decide +kernel
theorem dX3_areFacing_10 : decode cX3_areFacing 10 = .ok (.invokevirtual 27, 3) := by decide +kernel
theorem dX3_areFacing_13 : decode cX3_areFacing 13 = .ok (.ifCond .eq 7, 3) := by decide +kernel
theorem dX3_areFacing_16 : decode cX3_areFacing 16 = .ok (.iconst 1, 1) := by decide +kernel
theorem dX3_areFacing_17 : decode cX3_areFacing 17 = .ok (.goto 4, 3) := by decide +kernel
theorem dX3_areFacing_20 : decode cX3_areFacing 20 = .ok (.iconst 0, 1) := by decide +kernel
theorem dX3_areFacing_21 : decode cX3_areFacing 21 = .ok (.ireturn, 1) := by decide +kernel
theorem dX3_looksAtOther_0 : decode cX3_looksAtOther 0 = .ok (.aload_n 0, 1) := by decide +kernel
theorem dX3_looksAtOther_1 : decode cX3_looksAtOther 1 = .ok (.getfield 9, 3) := by decide +kernel
theorem dX3_looksAtOther_4 : decode cX3_looksAtOther 4 = .ok (.iconst 1, 1) := by decide +kernel
theorem dX3_looksAtOther_5 : decode cX3_looksAtOther 5 = .ok (.iload_n 1, 1) := by decide +kernel
theorem dX3_looksAtOther_6 : decode cX3_looksAtOther 6 = .ok (.isub, 1) := by decide +kernel
theorem dX3_looksAtOther_7 : decode cX3_looksAtOther 7 = .ok (.iaload, 1) := by decide +kernel
theorem dX3_looksAtOther_8 : decode cX3_looksAtOther 8 = .ok (.aload_n 0, 1) := by decide +kernel
theorem dX3_looksAtOther_9 : decode cX3_looksAtOther 9 = .ok (.getfield 9, 3) := by decide +kernel
theorem dX3_looksAtOther_12 : decode cX3_looksAtOther 12 = .ok (.iload_n 1, 1) := by decide +kernel
theorem dX3_looksAtOther_13 : decode cX3_looksAtOther 13 = .ok (.iaload, 1) := by decide +kernel
theorem dX3_looksAtOther_14 : decode cX3_looksAtOther 14 = .ok (.isub, 1) := by decide +kernel
theorem dX3_looksAtOther_15 : decode cX3_looksAtOther 15 = .ok (.istore_n 2, 1) := by decide +kernel
theorem dX3_looksAtOther_16 : decode cX3_looksAtOther 16 = .ok (.aload_n 0, 1) := by decide +kernel
theorem dX3_looksAtOther_17 : decode cX3_looksAtOther 17 = .ok (.getfield 15, 3) := by decide +kernel
theorem dX3_looksAtOther_20 : decode cX3_looksAtOther 20 = .ok (.iconst 1, 1) := by decide +kernel
theorem dX3_looksAtOther_21 : decode cX3_looksAtOther 21 = .ok (.iload_n 1, 1) := by decide +kernel
theorem dX3_looksAtOther_22 : decode cX3_looksAtOther 22 = .ok (.isub, 1) := by decide +kernel
theorem dX3_looksAtOther_23 : decode cX3_looksAtOther 23 = .ok (.iaload, 1) := by decide +kernel
theorem dX3_looksAtOther_24 : decode cX3_looksAtOther 24 = .ok (.aload_n 0, 1) := by decide +kernel
theorem dX3_looksAtOther_25 : decode cX3_looksAtOther 25 = .ok (.getfield 15, 3) := by decide +kernel
theorem dX3_looksAtOther_28 : decode cX3_looksAtOther 28 = .ok (.iload_n 1, 1) := by decide +kernel
theorem dX3_looksAtOther_29 : decode cX3_looksAtOther 29 = .ok (.iaload, 1) := by decide +kernel
theorem dX3_looksAtOther_30 : decode cX3_looksAtOther 30 = .ok (.isub, 1) := by decide +kernel
theorem dX3_looksAtOther_31 : decode cX3_looksAtOther 31 = .ok (.istore_n 3, 1) := by decide +kernel
theorem dX3_looksAtOther_32 : decode cX3_looksAtOther 32 = .ok (.getstatic 21, 3) := by decide +kernel
theorem dX3_looksAtOther_35 : decode cX3_looksAtOther 35 = .ok (.aload_n 0, 1) := by decide +kernel
theorem dX3_looksAtOther_36 : decode cX3_looksAtOther 36 = .ok (.getfield 18, 3) := by decide +kernel
theorem dX3_looksAtOther_39 : decode cX3_looksAtOther 39 = .ok (.iload_n 1, 1) := by decide +kernel
theorem dX3_looksAtOther_40 : decode cX3_looksAtOther 40 = .ok (.iaload, 1) := by decide +kernel
theorem dX3_looksAtOther_41 : decode cX3_looksAtOther 41 = .ok (.iaload, 1) := by decide +kernel
theorem dX3_looksAtOther_42 : decode cX3_looksAtOther 42 = .ok (.istore 4, 2) := by decide +kernel
theorem dX3_looksAtOther_44 : decode cX3_looksAtOther 44 = .ok (.getstatic 24, 3) := by decide +kernel
theorem dX3_looksAtOther_47 : decode cX3_looksAtOther 47 = .ok (.aload_n 0, 1) := by decide +kernel
theorem dX3_looksAtOther_48 : decode cX3_looksAtOther 48 = .ok (.getfield 18, 3) := by decide +kernel
theorem dX3_looksAtOther_51 : decode cX3_looksAtOther 51 = .ok (.iload_n 1, 1) := by decide +kernel
theorem dX3_looksAtOther_52 : decode cX3_looksAtOther 52 = .ok (.iaload, 1) := by decide +kernel
theorem dX3_looksAtOther_53 : decode cX3_looksAtOther 53 = .ok (.iaload, 1) := by decide +kernel
theorem dX3_looksAtOther_54 : decode cX3_looksAtOther 54 = .ok (.istore 5, 2) := by decide +kernel
theorem dX3_looksAtOther_56 : decode cX3_looksAtOther 56 = .ok (.iload_n 2, 1) := by decide +kernel
theorem dX3_looksAtOther_57 : decode cX3_looksAtOther 57 = .ok (.iload 5, 2) := by decide +kernel
theorem dX3_looksAtOther_59 : decode cX3_looksAtOther 59 = .ok (.imul, 1) := by decide +kernel
theorem dX3_looksAtOther_60 : decode cX3_looksAtOther 60 = .ok (.iload_n 3, 1) := by decide +kernel
theorem dX3_looksAtOther_61 : decode cX3_looksAtOther 61 = .ok (.iload 4, 2) := by decide +kernel
theorem dX3_looksAtOther_63 : decode cX3_looksAtOther 63 = .ok (.imul, 1) := by decide +kernel
theorem dX3_looksAtOther_64 : decode cX3_looksAtOther 64 = .ok (.if_icmp .ne 19, 3) := by decide +kernel
theorem dX3_looksAtOther_67 : decode cX3_looksAtOther 67 = .ok (.iload_n 2, 1) := by decide +kernel
theorem dX3_looksAtOther_68 : decode cX3_looksAtOther 68 = .ok (.iload 4, 2) := by decide +kernel
theorem dX3_looksAtOther_70 : decode cX3_looksAtOther 70 = .ok (.imul, 1) := by decide +kernel
theorem dX3_looksAtOther_71 : decode cX3_looksAtOther 71 = .ok (.iload_n 3, 1) := by decide +kernel
theorem dX3_looksAtOther_72 : decode cX3_looksAtOther 72 = .ok (.iload 5, 2) := by decide +kernel
theorem dX3_looksAtOther_74 : decode cX3_looksAtOther 74 = .ok (.imul, 1) := by decide +kernel
theorem dX3_looksAtOther_75 : decode cX3_looksAtOther 75 = .ok (.iadd, 1) := by decide +kernel
theorem dX3_looksAtOther_76 : decode cX3_looksAtOther 76 = .ok (.ifCond .le 7, 3) := by decide +kernel
theorem dX3_looksAtOther_79 : decode cX3_looksAtOther 79 = .ok (.iconst 1, 1) := by decide +kernel
theorem dX3_looksAtOther_80 : decode cX3_looksAtOther 80 = .ok (.goto 4, 3) := by decide +kernel
theorem dX3_looksAtOther_83 : decode cX3_looksAtOther 83 = .ok (.iconst 0, 1) := by decide +kernel
theorem dX3_looksAtOther_84 : decode cX3_looksAtOther 84 = .ok (.ireturn, 1) := by decide +kernel
theorem dX3_distance_0 : decode cX3_distance 0 = .ok (.aload_n 0, 1) := by decide +kernel
theorem dX3_distance_1 : decode cX3_distance 1 = .ok (.getfield 9, 3) := by decide +kernel
theorem dX3_distance_4 : decode cX3_distance 4 = .ok (.iconst 0, 1) := by decide +kernel
theorem dX3_distance_5 : decode cX3_distance 5 = .ok (.iaload, 1) := by decide +kernel
theorem dX3_distance_6 : decode cX3_distance 6 = .ok (.aload_n 0, 1) := by decide +kernel
theorem dX3_distance_7 : decode cX3_distance 7 = .ok (.getfield 9, 3) := by decide +kernel
theorem dX3_distance_10 : decode cX3_distance 10 = .ok (.iconst 1, 1) := by decide +kernel
theorem dX3_distance_11 : decode cX3_distance 11 = .ok (.iaload, 1) := by decide +kernel
theorem dX3_distance_12 : decode cX3_distance 12 = .ok (.isub, 1) := by decide +kernel
theorem dX3_distance_13 : decode cX3_distance 13 = .ok (.invokestatic 31, 3) := by decide +kernel
theorem dX3_distance_16 : decode cX3_distance 16 = .ok (.aload_n 0, 1) := by decide +kernel
theorem dX3_distance_17 : decode cX3_distance 17 = .ok (.getfield 15, 3) := by decide +kernel
theorem dX3_distance_20 : decode cX3_distance 20 = .ok (.iconst 0, 1) := by decide +kernel
theorem dX3_distance_21 : decode cX3_distance 21 = .ok (.iaload, 1) := by decide +kernel
theorem dX3_distance_22 : decode cX3_distance 22 = .ok (.aload_n 0, 1) := by decide +kernel
theorem dX3_distance_23 : decode cX3_distance 23 = .ok (.getfield 15, 3) := by decide +kernel
theorem dX3_distance_26 : decode cX3_distance 26 = .ok (.iconst 1, 1) := by decide +kernel
theorem dX3_distance_27 : decode cX3_distance 27 = .ok (.iaload, 1) := by decide +kernel
theorem dX3_distance_28 : decode cX3_distance 28 = .ok (.isub, 1) := by decide +kernel
theorem dX3_distance_29 : decode cX3_distance 29 = .ok (.invokestatic 31, 3) := by decide +kernel
theorem dX3_distance_32 : decode cX3_distance 32 = .ok (.iadd, 1) := by decide +kernel
theorem dX3_distance_33 : decode cX3_distance 33 = .ok (.ireturn, 1) := by decide +kernel
theorem dX4_init_0 : decode cX4_init 0 = .ok (.aload_n 0, 1) := by decide +kernel
theorem dX4_init_1 : decode cX4_init 1 = .ok (.invokespecial 1, 3) := by decide +kernel
theorem dX4_init_4 : decode cX4_init 4 = .ok (.aload_n 0, 1) := by decide +kernel
theorem dX4_init_5 : decode cX4_init 5 = .ok (.iconst 0, 1) := by decide +kernel
theorem dX4_init_6 : decode cX4_init 6 = .ok (.putfield 7, 3) := by decide +kernel
theorem dX4_init_9 : decode cX4_init 9 = .ok (.aload_n 0, 1) := by decide +kernel
theorem dX4_init_10 : decode cX4_init 10 = .ok (.iconst 0, 1) := by decide +kernel
theorem dX4_init_11 : decode cX4_init 11 = .ok (.putfield 13, 3) := by decide +kernel
theorem dX4_init_14 : decode cX4_init 14 = .ok (.aload_n 0, 1) := by decide +kernel
theorem dX4_init_15 : decode cX4_init 15 = .ok (.iconst 0, 1) := by decide +kernel
theorem dX4_init_16 : decode cX4_init 16 = .ok (.putfield 16, 3) := by decide +kernel
theorem dX4_init_19 : decode cX4_init 19 = .ok (.aload_n 0, 1) := by decide +kernel
theorem dX4_init_20 : decode cX4_init 20 = .ok (.iconst 0, 1) := by decide +kernel
theorem dX4_init_21 : decode cX4_init 21 = .ok (.putfield 19, 3) := by decide +kernel
theorem dX4_init_24 : decode cX4_init 24 = .ok (.aload_n 0, 1) := by decide +kernel
theorem dX4_init_25 : decode cX4_init 25 = .ok (.aload_n 1, 1) := by decide +kernel
theorem dX4_init_26 : decode cX4_init 26 = .ok (.putfield 22, 3) := by decide +kernel
theorem dX4_init_29 : decode cX4_init 29 = .ok (.aload_n 0, 1) := by decide +kernel
theorem dX4_init_30 : decode cX4_init 30 = .ok (.aload_n 2, 1) := by decide +kernel
theorem dX4_init_31 : decode cX4_init 31 = .ok (.putfield 26, 3) := by decide +kernel
theorem dX4_init_34 : decode cX4_init 34 = .ok (.aload_n 0, 1) := by decide +kernel
theorem dX4_init_35 : decode cX4_init 35 = .ok (.aload_n 3, 1) := by decide +kernel
theorem dX4_init_36 : decode cX4_init 36 = .ok (.putfield 30, 3) := by decide +kernel
theorem dX4_init_39 : decode cX4_init 39 = .ok (.return_, 1) := by decide +kernel
theorem dX4_pass_0 : decode cX4_pass 0 = .ok (.aload_n 0, 1) := by decide +kernel
theorem dX4_pass_1 : decode cX4_pass 1 = .ok (.iload_n 1, 1) := by decide +kernel
theorem dX4_pass_2 : decode cX4_pass 2 = .ok (.putfield 7, 3) := by decide +kernel
theorem dX4_pass_5 : decode cX4_pass 5 = .ok (.aload_n 0, 1) := by decide +kernel
theorem dX4_pass_6 : decode cX4_pass 6 = .ok (.iconst 0, 1) := by decide +kernel
theorem dX4_pass_7 : decode cX4_pass 7 = .ok (.putfield 19, 3) := by decide +kernel
theorem dX4_pass_10 : decode cX4_pass 10 = .ok (.aload_n 0, 1) := by decide +kernel
theorem dX4_pass_11 : decode cX4_pass 11 = .ok (.aload_n 0, 1) := by decide +kernel
theorem dX4_pass_12 : decode cX4_pass 12 = .ok (.getfield 30, 3) := by decide +kernel
theorem dX4_pass_15 : decode cX4_pass 15 = .ok (.aload_n 0, 1) := by decide +kernel
theorem dX4_pass_16 : decode cX4_pass 16 = .ok (.getfield 26, 3) := by decide +kernel
theorem dX4_pass_19 : decode cX4_pass 19 = .ok (.iconst 0, 1) := by decide +kernel
theorem dX4_pass_20 : decode cX4_pass 20 = .ok (.invokevirtual 34, 3) := by decide +kernel
theorem dX4_pass_23 : decode cX4_pass 23 = .ok (.invokestatic 40, 3) := by decide +kernel
theorem dX4_pass_26 : decode cX4_pass 26 = .ok (.putfield 13, 3) := by decide +kernel
theorem dX4_pass_29 : decode cX4_pass 29 = .ok (.aload_n 0, 1) := by decide +kernel
theorem dX4_pass_30 : decode cX4_pass 30 = .ok (.aload_n 0, 1) := by decide +kernel
theorem dX4_pass_31 : decode cX4_pass 31 = .ok (.getfield 13, 3) := by decide +kernel
theorem dX4_pass_34 : decode cX4_pass 34 = .ok (.putfield 16, 3) := by decide +kernel
theorem dX4_pass_37 : decode cX4_pass 37 = .ok (.iconst 0, 1) := by decide +kernel
theorem dX4_pass_38 : decode cX4_pass 38 = .ok (.istore_n 3, 1) := by decide +kernel
theorem dX4_pass_39 : decode cX4_pass 39 = .ok (.iload_n 3, 1) := by decide +kernel
theorem dX4_pass_40 : decode cX4_pass 40 = .ok (.iload_n 2, 1) := by decide +kernel
theorem dX4_pass_41 : decode cX4_pass 41 = .ok (.if_icmp .ge 99, 3) := by decide +kernel
theorem dX4_pass_44 : decode cX4_pass 44 = .ok (.aload_n 0, 1) := by decide +kernel
theorem dX4_pass_45 : decode cX4_pass 45 = .ok (.getfield 26, 3) := by decide +kernel
theorem dX4_pass_48 : decode cX4_pass 48 = .ok (.dup, 1) := by decide +kernel
theorem dX4_pass_49 : decode cX4_pass 49 = .ok (.getfield 46, 3) := by decide +kernel
theorem dX4_pass_52 : decode cX4_pass 52 = .ok (.iconst 1, 1) := by decide +kernel
theorem dX4_pass_53 : decode cX4_pass 53 = .ok (.iadd, 1) := by decide +kernel
theorem dX4_pass_54 : decode cX4_pass 54 = .ok (.putfield 46, 3) := by decide +kernel
theorem dX4_pass_57 : decode cX4_pass 57 = .ok (.aload_n 0, 1) := by decide +kernel
theorem dX4_pass_58 : decode cX4_pass 58 = .ok (.invokevirtual 51, 3) := by decide +kernel
theorem dX4_pass_61 : decode cX4_pass 61 = .ok (.aload_n 0, 1) := by decide +kernel
theorem dX4_pass_62 : decode cX4_pass 62 = .ok (.aload_n 0, 1) := by decide +kernel
theorem dX4_pass_63 : decode cX4_pass 63 = .ok (.getfield 30, 3) := by decide +kernel
theorem dX4_pass_66 : decode cX4_pass 66 = .ok (.aload_n 0, 1) := by decide +kernel
theorem dX4_pass_67 : decode cX4_pass 67 = .ok (.getfield 26, 3) := by decide +kernel
theorem dX4_pass_70 : decode cX4_pass 70 = .ok (.iconst 0, 1) := by decide +kernel
theorem dX4_pass_71 : decode cX4_pass 71 = .ok (.invokevirtual 34, 3) := by decide +kernel
theorem dX4_pass_74 : decode cX4_pass 74 = .ok (.invokestatic 40, 3) := by decide +kernel
theorem dX4_pass_77 : decode cX4_pass 77 = .ok (.putfield 13, 3) := by decide +kernel
theorem dX4_pass_80 : decode cX4_pass 80 = .ok (.aload_n 0, 1) := by decide +kernel
theorem dX4_pass_81 : decode cX4_pass 81 = .ok (.iload_n 3, 1) := by decide +kernel
theorem dX4_pass_82 : decode cX4_pass 82 = .ok (.ifCond .ne 10, 3) := by decide +kernel
theorem dX4_pass_85 : decode cX4_pass 85 = .ok (.aload_n 0, 1) := by decide +kernel
theorem dX4_pass_86 : decode cX4_pass 86 = .ok (.getfield 13, 3) := by decide +kernel
theorem dX4_pass_89 : decode cX4_pass 89 = .ok (.goto 14, 3) := by decide +kernel
theorem dX4_pass_92 : decode cX4_pass 92 = .ok (.aload_n 0, 1) := by decide +kernel
theorem dX4_pass_93 : decode cX4_pass 93 = .ok (.getfield 16, 3) := by decide +kernel
theorem dX4_pass_96 : decode cX4_pass 96 = .ok (.aload_n 0, 1) := by decide +kernel
theorem dX4_pass_97 : decode cX4_pass 97 = .ok (.getfield 13, 3) := by decide +kernel
theorem dX4_pass_100 : decode cX4_pass 100 = .ok (.invokestatic 54, 3) := by decide +kernel
theorem dX4_pass_103 : decode cX4_pass 103 = .ok (.putfield 16, 3) := by decide +kernel
theorem dX4_pass_106 : decode cX4_pass 106 = .ok (.aload_n 0, 1) := by decide +kernel
theorem dX4_pass_107 : decode cX4_pass 107 = .ok (.dup, 1) := by decide +kernel
theorem dX4_pass_108 : decode cX4_pass 108 = .ok (.getfield 19, 3) := by decide +kernel
theorem dX4_pass_111 : decode cX4_pass 111 = .ok (.aload_n 0, 1) := by decide +kernel
theorem dX4_pass_112 : decode cX4_pass 112 = .ok (.getfield 13, 3) := by decide +kernel
theorem dX4_pass_115 : decode cX4_pass 115 = .ok (.aload_n 0, 1) := by decide +kernel
theorem dX4_pass_116 : decode cX4_pass 116 = .ok (.getfield 22, 3) := by decide +kernel
theorem dX4_pass_119 : decode cX4_pass 119 = .ok (.getfield 60, 3) := by decide +kernel
theorem dX4_pass_122 : decode cX4_pass 122 = .ok (.if_icmp .ne 7, 3) := by decide +kernel
theorem dX4_pass_125 : decode cX4_pass 125 = .ok (.iconst 1, 1) := by decide +kernel
theorem dX4_pass_126 : decode cX4_pass 126 = .ok (.goto 4, 3) := by decide +kernel
theorem dX4_pass_129 : decode cX4_pass 129 = .ok (.iconst 0, 1) := by decide +kernel
theorem dX4_pass_130 : decode cX4_pass 130 = .ok (.iadd, 1) := by decide +kernel
theorem dX4_pass_131 : decode cX4_pass 131 = .ok (.putfield 19, 3) := by decide +kernel
theorem dX4_pass_134 : decode cX4_pass 134 = .ok (.iinc 3 1, 3) := by decide +kernel
theorem dX4_pass_137 : decode cX4_pass 137 = .ok (.goto (-98), 3) := by decide +kernel
theorem dX4_pass_140 : decode cX4_pass 140 = .ok (.return_, 1) := by decide +kernel
theorem dX4_drawOne_0 : decode cX4_drawOne 0 = .ok (.aload_n 0, 1) := by decide +kernel
theorem dX4_drawOne_1 : decode cX4_drawOne 1 = .ok (.getfield 22, 3) := by decide +kernel
theorem dX4_drawOne_4 : decode cX4_drawOne 4 = .ok (.getfield 60, 3) := by decide +kernel
theorem dX4_drawOne_7 : decode cX4_drawOne 7 = .ok (.ifCond .ne 4, 3) := by decide +kernel
theorem dX4_drawOne_10 : decode cX4_drawOne 10 = .ok (.return_, 1) := by decide +kernel
theorem dX4_drawOne_11 : decode cX4_drawOne 11 = .ok (.aload_n 0, 1) := by decide +kernel
theorem dX4_drawOne_12 : decode cX4_drawOne 12 = .ok (.aload_n 0, 1) := by decide +kernel
theorem dX4_drawOne_13 : decode cX4_drawOne 13 = .ok (.getfield 22, 3) := by decide +kernel
theorem dX4_drawOne_16 : decode cX4_drawOne 16 = .ok (.getfield 60, 3) := by decide +kernel
theorem dX4_drawOne_19 : decode cX4_drawOne 19 = .ok (.invokevirtual 65, 3) := by decide +kernel
theorem dX4_drawOne_22 : decode cX4_drawOne 22 = .ok (.istore_n 1, 1) := by decide +kernel
theorem dX4_drawOne_23 : decode cX4_drawOne 23 = .ok (.aload_n 0, 1) := by decide +kernel
theorem dX4_drawOne_24 : decode cX4_drawOne 24 = .ok (.iconst 3, 1) := by decide +kernel
theorem dX4_drawOne_25 : decode cX4_drawOne 25 = .ok (.invokevirtual 65, 3) := by decide +kernel
theorem dX4_drawOne_28 : decode cX4_drawOne 28 = .ok (.istore_n 2, 1) := by decide +kernel
theorem dX4_drawOne_29 : decode cX4_drawOne 29 = .ok (.iload_n 2, 1) := by decide +kernel
theorem dX4_drawOne_30 : decode cX4_drawOne 30 = .ok (.ifCond .ne 14, 3) := by decide +kernel
theorem dX4_drawOne_33 : decode cX4_drawOne 33 = .ok (.aload_n 0, 1) := by decide +kernel
theorem dX4_drawOne_34 : decode cX4_drawOne 34 = .ok (.getfield 26, 3) := by decide +kernel
theorem dX4_drawOne_37 : decode cX4_drawOne 37 = .ok (.iload_n 1, 1) := by decide +kernel
theorem dX4_drawOne_38 : decode cX4_drawOne 38 = .ok (.invokevirtual 68, 3) := by decide +kernel
theorem dX4_drawOne_41 : decode cX4_drawOne 41 = .ok (.goto 18, 3) := by decide +kernel
theorem dX4_drawOne_44 : decode cX4_drawOne 44 = .ok (.iload_n 2, 1) := by decide +kernel
theorem dX4_drawOne_45 : decode cX4_drawOne 45 = .ok (.iconst 1, 1) := by decide +kernel
theorem dX4_drawOne_46 : decode cX4_drawOne 46 = .ok (.if_icmp .ne 13, 3) := by decide +kernel
theorem dX4_drawOne_49 : decode cX4_drawOne 49 = .ok (.aload_n 0, 1) := by decide +kernel
theorem dX4_drawOne_50 : decode cX4_drawOne 50 = .ok (.getfield 26, 3) := by decide +kernel
theorem dX4_drawOne_53 : decode cX4_drawOne 53 = .ok (.getfield 72, 3) := by decide +kernel
theorem dX4_drawOne_56 : decode cX4_drawOne 56 = .ok (.iload_n 1, 1) := by decide +kernel
theorem dX4_drawOne_57 : decode cX4_drawOne 57 = .ok (.iconst 1, 1) := by decide +kernel
theorem dX4_drawOne_58 : decode cX4_drawOne 58 = .ok (.iastore, 1) := by decide +kernel
theorem dX4_drawOne_59 : decode cX4_drawOne 59 = .ok (.return_, 1) := by decide +kernel
theorem dX4_draw_0 : decode cX4_draw 0 = .ok (.aload_n 0, 1) := by decide +kernel
theorem dX4_draw_1 : decode cX4_draw 1 = .ok (.aload_n 0, 1) := by decide +kernel
theorem dX4_draw_2 : decode cX4_draw 2 = .ok (.getfield 7, 3) := by decide +kernel
theorem dX4_draw_5 : decode cX4_draw 5 = .ok (.ldc 76, 2) := by decide +kernel
theorem dX4_draw_7 : decode cX4_draw 7 = .ok (.imul, 1) := by decide +kernel
theorem dX4_draw_8 : decode cX4_draw 8 = .ok (.sipush 12345, 3) := by decide +kernel
theorem dX4_draw_11 : decode cX4_draw 11 = .ok (.iadd, 1) := by decide +kernel
theorem dX4_draw_12 : decode cX4_draw 12 = .ok (.putfield 7, 3) := by decide +kernel
theorem dX4_draw_15 : decode cX4_draw 15 = .ok (.iload_n 1, 1) := by decide +kernel
theorem dX4_draw_16 : decode cX4_draw 16 = .ok (.iconst 1, 1) := by decide +kernel
theorem dX4_draw_17 : decode cX4_draw 17 = .ok (.if_icmp .ge 7, 3) := by decide +kernel
theorem dX4_draw_20 : decode cX4_draw 20 = .ok (.iconst 0, 1) := by decide +kernel
theorem dX4_draw_21 : decode cX4_draw 21 = .ok (.goto 16, 3) := by decide +kernel
theorem dX4_draw_24 : decode cX4_draw 24 = .ok (.aload_n 0, 1) := by decide +kernel
theorem dX4_draw_25 : decode cX4_draw 25 = .ok (.getfield 7, 3) := by decide +kernel
theorem dX4_draw_28 : decode cX4_draw 28 = .ok (.bipush 16, 2) := by decide +kernel
theorem dX4_draw_30 : decode cX4_draw 30 = .ok (.iushr, 1) := by decide +kernel
theorem dX4_draw_31 : decode cX4_draw 31 = .ok (.sipush 32767, 3) := by decide +kernel
theorem dX4_draw_34 : decode cX4_draw 34 = .ok (.iand, 1) := by decide +kernel
theorem dX4_draw_35 : decode cX4_draw 35 = .ok (.iload_n 1, 1) := by decide +kernel
theorem dX4_draw_36 : decode cX4_draw 36 = .ok (.irem, 1) := by decide +kernel
theorem dX4_draw_37 : decode cX4_draw 37 = .ok (.ireturn, 1) := by decide +kernel
theorem dX5_init_0 : decode cX5_init 0 = .ok (.aload_n 0, 1) := by decide +kernel
theorem dX5_init_1 : decode cX5_init 1 = .ok (.invokespecial 3, 3) := by decide +kernel
theorem dX5_init_4 : decode cX5_init 4 = .ok (.aload_n 0, 1) := by decide +kernel
theorem dX5_init_5 : decode cX5_init 5 = .ok (.new 9, 3) := by decide +kernel
theorem dX5_init_8 : decode cX5_init 8 = .ok (.dup, 1) := by decide +kernel
theorem dX5_init_9 : decode cX5_init 9 = .ok (.invokespecial 11, 3) := by decide +kernel
theorem dX5_init_12 : decode cX5_init 12 = .ok (.putfield 12, 3) := by decide +kernel
theorem dX5_init_15 : decode cX5_init 15 = .ok (.aload_n 0, 1) := by decide +kernel
theorem dX5_init_16 : decode cX5_init 16 = .ok (.new 9, 3) := by decide +kernel
theorem dX5_init_19 : decode cX5_init 19 = .ok (.dup, 1) := by decide +kernel
theorem dX5_init_20 : decode cX5_init 20 = .ok (.invokespecial 11, 3) := by decide +kernel
theorem dX5_init_23 : decode cX5_init 23 = .ok (.putfield 18, 3) := by decide +kernel
theorem dX5_init_26 : decode cX5_init 26 = .ok (.aload_n 0, 1) := by decide +kernel
theorem dX5_init_27 : decode cX5_init 27 = .ok (.iconst 0, 1) := by decide +kernel
theorem dX5_init_28 : decode cX5_init 28 = .ok (.putfield 21, 3) := by decide +kernel
theorem dX5_init_31 : decode cX5_init 31 = .ok (.aload_n 0, 1) := by decide +kernel
theorem dX5_init_32 : decode cX5_init 32 = .ok (.iconst (-1), 1) := by decide +kernel
theorem dX5_init_33 : decode cX5_init 33 = .ok (.putfield 25, 3) := by decide +kernel
theorem dX5_init_36 : decode cX5_init 36 = .ok (.aload_n 0, 1) := by decide +kernel
theorem dX5_init_37 : decode cX5_init 37 = .ok (.aload_n 1, 1) := by decide +kernel
theorem dX5_init_38 : decode cX5_init 38 = .ok (.putfield 28, 3) := by decide +kernel
theorem dX5_init_41 : decode cX5_init 41 = .ok (.aload_n 0, 1) := by decide +kernel
theorem dX5_init_42 : decode cX5_init 42 = .ok (.aload_n 2, 1) := by decide +kernel
theorem dX5_init_43 : decode cX5_init 43 = .ok (.putfield 32, 3) := by decide +kernel
theorem dX5_init_46 : decode cX5_init 46 = .ok (.return_, 1) := by decide +kernel
theorem dX5_changes_0 : decode cX5_changes 0 = .ok (.aload_n 0, 1) := by decide +kernel
theorem dX5_changes_1 : decode cX5_changes 1 = .ok (.getfield 28, 3) := by decide +kernel
theorem dX5_changes_4 : decode cX5_changes 4 = .ok (.aload_n 0, 1) := by decide +kernel
theorem dX5_changes_5 : decode cX5_changes 5 = .ok (.getfield 32, 3) := by decide +kernel
theorem dX5_changes_8 : decode cX5_changes 8 = .ok (.getfield 36, 3) := by decide +kernel
theorem dX5_changes_11 : decode cX5_changes 11 = .ok (.iload_n 1, 1) := by decide +kernel
theorem dX5_changes_12 : decode cX5_changes 12 = .ok (.invokevirtual 41, 3) := by decide +kernel
theorem dX5_changes_15 : decode cX5_changes 15 = .ok (.ireturn, 1) := by decide +kernel
theorem dX5_mendByOne_0 : decode cX5_mendByOne 0 = .ok (.iconst (-1), 1) := by decide +kernel
theorem dX5_mendByOne_1 : decode cX5_mendByOne 1 = .ok (.istore_n 1, 1) := by decide +kernel
theorem dX5_mendByOne_2 : decode cX5_mendByOne 2 = .ok (.iconst 0, 1) := by decide +kernel
theorem dX5_mendByOne_3 : decode cX5_mendByOne 3 = .ok (.istore_n 2, 1) := by decide +kernel
theorem dX5_mendByOne_4 : decode cX5_mendByOne 4 = .ok (.iload_n 2, 1) := by decide +kernel
theorem dX5_mendByOne_5 : decode cX5_mendByOne 5 = .ok (.aload_n 0, 1) := by decide +kernel
theorem dX5_mendByOne_6 : decode cX5_mendByOne 6 = .ok (.getfield 32, 3) := by decide +kernel
theorem dX5_mendByOne_9 : decode cX5_mendByOne 9 = .ok (.getfield 47, 3) := by decide +kernel
theorem dX5_mendByOne_12 : decode cX5_mendByOne 12 = .ok (.if_icmp .ge 28, 3) := by decide +kernel
theorem dX5_mendByOne_15 : decode cX5_mendByOne 15 = .ok (.iload_n 1, 1) := by decide +kernel
theorem dX5_mendByOne_16 : decode cX5_mendByOne 16 = .ok (.iconst (-1), 1) := by decide +kernel
theorem dX5_mendByOne_17 : decode cX5_mendByOne 17 = .ok (.if_icmp .ne 23, 3) := by decide +kernel
theorem dX5_mendByOne_20 : decode cX5_mendByOne 20 = .ok (.aload_n 0, 1) := by decide +kernel
theorem dX5_mendByOne_21 : decode cX5_mendByOne 21 = .ok (.iload_n 2, 1) := by decide +kernel
theorem dX5_mendByOne_22 : decode cX5_mendByOne 22 = .ok (.invokevirtual 50, 3) := by decide +kernel
theorem dX5_mendByOne_25 : decode cX5_mendByOne 25 = .ok (.ifCond .eq 9, 3) := by decide +kernel
theorem dX5_mendByOne_28 : decode cX5_mendByOne 28 = .ok (.aload_n 0, 1) := by decide +kernel
theorem dX5_mendByOne_29 : decode cX5_mendByOne 29 = .ok (.iload_n 2, 1) := by decide +kernel
theorem dX5_mendByOne_30 : decode cX5_mendByOne 30 = .ok (.invokevirtual 53, 3) := by decide +kernel
theorem dX5_mendByOne_33 : decode cX5_mendByOne 33 = .ok (.istore_n 1, 1) := by decide +kernel
theorem dX5_mendByOne_34 : decode cX5_mendByOne 34 = .ok (.iinc 2 1, 3) := by decide +kernel
theorem dX5_mendByOne_37 : decode cX5_mendByOne 37 = .ok (.goto (-33), 3) := by decide +kernel
theorem dX5_mendByOne_40 : decode cX5_mendByOne 40 = .ok (.iload_n 1, 1) := by decide +kernel
theorem dX5_mendByOne_41 : decode cX5_mendByOne 41 = .ok (.ireturn, 1) := by decide +kernel
theorem dX5_firstFacing_0 : decode cX5_firstFacing 0 = .ok (.aload_n 0, 1) := by decide +kernel
theorem dX5_firstFacing_1 : decode cX5_firstFacing 1 = .ok (.getfield 32, 3) := by decide +kernel
theorem dX5_firstFacing_4 : decode cX5_firstFacing 4 = .ok (.getfield 57, 3) := by decide +kernel
theorem dX5_firstFacing_7 : decode cX5_firstFacing 7 = .ok (.iload_n 1, 1) := by decide +kernel
theorem dX5_firstFacing_8 : decode cX5_firstFacing 8 = .ok (.iaload, 1) := by decide +kernel
theorem dX5_firstFacing_9 : decode cX5_firstFacing 9 = .ok (.istore_n 2, 1) := by decide +kernel
theorem dX5_firstFacing_10 : decode cX5_firstFacing 10 = .ok (.iconst (-1), 1) := by decide +kernel
theorem dX5_firstFacing_11 : decode cX5_firstFacing 11 = .ok (.istore_n 3, 1) := by decide +kernel
theorem dX5_firstFacing_12 : decode cX5_firstFacing 12 = .ok (.iconst 0, 1) := by decide +kernel
theorem dX5_firstFacing_13 : decode cX5_firstFacing 13 = .ok (.istore 4, 2) := by decide +kernel
theorem dX5_firstFacing_15 : decode cX5_firstFacing 15 = .ok (.iload 4, 2) := by decide +kernel
theorem dX5_firstFacing_17 : decode cX5_firstFacing 17 = .ok (.bipush 9, 2) := by decide +kernel
theorem dX5_firstFacing_19 : decode cX5_firstFacing 19 = .ok (.if_icmp .gt 49, 3) := by decide +kernel
theorem dX5_firstFacing_22 : decode cX5_firstFacing 22 = .ok (.iload_n 3, 1) := by decide +kernel
theorem dX5_firstFacing_23 : decode cX5_firstFacing 23 = .ok (.iconst (-1), 1) := by decide +kernel
theorem dX5_firstFacing_24 : decode cX5_firstFacing 24 = .ok (.if_icmp .ne 44, 3) := by decide +kernel
theorem dX5_firstFacing_27 : decode cX5_firstFacing 27 = .ok (.aload_n 0, 1) := by decide +kernel
theorem dX5_firstFacing_28 : decode cX5_firstFacing 28 = .ok (.getfield 32, 3) := by decide +kernel
theorem dX5_firstFacing_31 : decode cX5_firstFacing 31 = .ok (.getfield 57, 3) := by decide +kernel
theorem dX5_firstFacing_34 : decode cX5_firstFacing 34 = .ok (.iload_n 1, 1) := by decide +kernel
theorem dX5_firstFacing_35 : decode cX5_firstFacing 35 = .ok (.iload 4, 2) := by decide +kernel
theorem dX5_firstFacing_37 : decode cX5_firstFacing 37 = .ok (.iastore, 1) := by decide +kernel
theorem dX5_firstFacing_38 : decode cX5_firstFacing 38 = .ok (.iload 4, 2) := by decide +kernel
theorem dX5_firstFacing_40 : decode cX5_firstFacing 40 = .ok (.iload_n 2, 1) := by decide +kernel
theorem dX5_firstFacing_41 : decode cX5_firstFacing 41 = .ok (.if_icmp .eq 21, 3) := by decide +kernel
theorem dX5_firstFacing_44 : decode cX5_firstFacing 44 = .ok (.aload_n 0, 1) := by decide +kernel
theorem dX5_firstFacing_45 : decode cX5_firstFacing 45 = .ok (.getfield 32, 3) := by decide +kernel
theorem dX5_firstFacing_48 : decode cX5_firstFacing 48 = .ok (.invokevirtual 61, 3) := by decide +kernel
theorem dX5_firstFacing_51 : decode cX5_firstFacing 51 = .ok (.ifCond .eq 11, 3) := by decide +kernel
theorem dX5_firstFacing_54 : decode cX5_firstFacing 54 = .ok (.bipush 10, 2) := by decide +kernel
theorem dX5_firstFacing_56 : decode cX5_firstFacing 56 = .ok (.iload_n 1, 1) := by decide +kernel
theorem dX5_firstFacing_57 : decode cX5_firstFacing 57 = .ok (.imul, 1) := by decide +kernel
theorem dX5_firstFacing_58 : decode cX5_firstFacing 58 = .ok (.iload 4, 2) := by decide +kernel
theorem dX5_firstFacing_60 : decode cX5_firstFacing 60 = .ok (.iadd, 1) := by decide +kernel
theorem dX5_firstFacing_61 : decode cX5_firstFacing 61 = .ok (.istore_n 3, 1) := by decide +kernel
theorem dX5_firstFacing_62 : decode cX5_firstFacing 62 = .ok (.iinc 4 1, 3) := by decide +kernel
theorem dX5_firstFacing_65 : decode cX5_firstFacing 65 = .ok (.goto (-50), 3) := by decide +kernel
theorem dX5_firstFacing_68 : decode cX5_firstFacing 68 = .ok (.aload_n 0, 1) := by decide +kernel
theorem dX5_firstFacing_69 : decode cX5_firstFacing 69 = .ok (.getfield 32, 3) := by decide +kernel
theorem dX5_firstFacing_72 : decode cX5_firstFacing 72 = .ok (.getfield 57, 3) := by decide +kernel
theorem dX5_firstFacing_75 : decode cX5_firstFacing 75 = .ok (.iload_n 1, 1) := by decide +kernel
theorem dX5_firstFacing_76 : decode cX5_firstFacing 76 = .ok (.iload_n 2, 1) := by decide +kernel
theorem dX5_firstFacing_77 : decode cX5_firstFacing 77 = .ok (.iastore, 1) := by decide +kernel
theorem dX5_firstFacing_78 : decode cX5_firstFacing 78 = .ok (.iload_n 3, 1) := by decide +kernel
theorem dX5_firstFacing_79 : decode cX5_firstFacing 79 = .ok (.ireturn, 1) := by decide +kernel
theorem dX5_mendByTwo_0 : decode cX5_mendByTwo 0 = .ok (.iconst (-1), 1) := by decide +kernel
theorem dX5_mendByTwo_1 : decode cX5_mendByTwo 1 = .ok (.istore_n 1, 1) := by decide +kernel
theorem dX5_mendByTwo_2 : decode cX5_mendByTwo 2 = .ok (.iconst 0, 1) := by decide +kernel
theorem dX5_mendByTwo_3 : decode cX5_mendByTwo 3 = .ok (.istore_n 2, 1) := by decide +kernel
theorem dX5_mendByTwo_4 : decode cX5_mendByTwo 4 = .ok (.iload_n 2, 1) := by decide +kernel
theorem dX5_mendByTwo_5 : decode cX5_mendByTwo 5 = .ok (.aload_n 0, 1) := by decide +kernel
theorem dX5_mendByTwo_6 : decode cX5_mendByTwo 6 = .ok (.getfield 32, 3) := by decide +kernel
theorem dX5_mendByTwo_9 : decode cX5_mendByTwo 9 = .ok (.getfield 47, 3) := by decide +kernel
theorem dX5_mendByTwo_12 : decode cX5_mendByTwo 12 = .ok (.if_icmp .ge 109, 3) := by decide +kernel
theorem dX5_mendByTwo_15 : decode cX5_mendByTwo 15 = .ok (.iload_n 1, 1) := by decide +kernel
theorem dX5_mendByTwo_16 : decode cX5_mendByTwo 16 = .ok (.iconst (-1), 1) := by decide +kernel
theorem dX5_mendByTwo_17 : decode cX5_mendByTwo 17 = .ok (.if_icmp .ne 104, 3) := by decide +kernel
theorem dX5_mendByTwo_20 : decode cX5_mendByTwo 20 = .ok (.aload_n 0, 1) := by decide +kernel
theorem dX5_mendByTwo_21 : decode cX5_mendByTwo 21 = .ok (.getfield 32, 3) := by decide +kernel
theorem dX5_mendByTwo_24 : decode cX5_mendByTwo 24 = .ok (.getfield 65, 3) := by decide +kernel
theorem dX5_mendByTwo_27 : decode cX5_mendByTwo 27 = .ok (.aload_n 0, 1) := by decide +kernel
theorem dX5_mendByTwo_28 : decode cX5_mendByTwo 28 = .ok (.getfield 28, 3) := by decide +kernel
theorem dX5_mendByTwo_31 : decode cX5_mendByTwo 31 = .ok (.getfield 68, 3) := by decide +kernel
theorem dX5_mendByTwo_34 : decode cX5_mendByTwo 34 = .ok (.invokevirtual 71, 3) := by decide +kernel
theorem dX5_mendByTwo_37 : decode cX5_mendByTwo 37 = .ok (.aload_n 0, 1) := by decide +kernel
theorem dX5_mendByTwo_38 : decode cX5_mendByTwo 38 = .ok (.getfield 32, 3) := by decide +kernel
theorem dX5_mendByTwo_41 : decode cX5_mendByTwo 41 = .ok (.iconst 0, 1) := by decide +kernel
theorem dX5_mendByTwo_42 : decode cX5_mendByTwo 42 = .ok (.iload_n 2, 1) := by decide +kernel
theorem dX5_mendByTwo_43 : decode cX5_mendByTwo 43 = .ok (.invokevirtual 75, 3) := by decide +kernel
theorem dX5_mendByTwo_46 : decode cX5_mendByTwo 46 = .ok (.iconst (-1), 1) := by decide +kernel
theorem dX5_mendByTwo_47 : decode cX5_mendByTwo 47 = .ok (.if_icmp .eq 5, 3) := by decide +kernel
theorem dX5_mendByTwo_50 : decode cX5_mendByTwo 50 = .ok (.iconst (-1), 1) := by decide +kernel
theorem dX5_mendByTwo_51 : decode cX5_mendByTwo 51 = .ok (.ireturn, 1) := by decide +kernel
theorem dX5_mendByTwo_52 : decode cX5_mendByTwo 52 = .ok (.aload_n 0, 1) := by decide +kernel
theorem dX5_mendByTwo_53 : decode cX5_mendByTwo 53 = .ok (.getfield 12, 3) := by decide +kernel
theorem dX5_mendByTwo_56 : decode cX5_mendByTwo 56 = .ok (.aload_n 0, 1) := by decide +kernel
theorem dX5_mendByTwo_57 : decode cX5_mendByTwo 57 = .ok (.getfield 32, 3) := by decide +kernel
theorem dX5_mendByTwo_60 : decode cX5_mendByTwo 60 = .ok (.getfield 65, 3) := by decide +kernel
theorem dX5_mendByTwo_63 : decode cX5_mendByTwo 63 = .ok (.invokevirtual 79, 3) := by decide +kernel
theorem dX5_mendByTwo_66 : decode cX5_mendByTwo 66 = .ok (.iload_n 2, 1) := by decide +kernel
theorem dX5_mendByTwo_67 : decode cX5_mendByTwo 67 = .ok (.iconst 1, 1) := by decide +kernel
theorem dX5_mendByTwo_68 : decode cX5_mendByTwo 68 = .ok (.iadd, 1) := by decide +kernel
theorem dX5_mendByTwo_69 : decode cX5_mendByTwo 69 = .ok (.istore_n 3, 1) := by decide +kernel
theorem dX5_mendByTwo_70 : decode cX5_mendByTwo 70 = .ok (.iload_n 3, 1) := by decide +kernel
theorem dX5_mendByTwo_71 : decode cX5_mendByTwo 71 = .ok (.aload_n 0, 1) := by decide +kernel
theorem dX5_mendByTwo_72 : decode cX5_mendByTwo 72 = .ok (.getfield 32, 3) := by decide +kernel
theorem dX5_mendByTwo_75 : decode cX5_mendByTwo 75 = .ok (.getfield 47, 3) := by decide +kernel
theorem dX5_mendByTwo_78 : decode cX5_mendByTwo 78 = .ok (.if_icmp .ge 37, 3) := by decide +kernel
theorem dX5_mendByTwo_81 : decode cX5_mendByTwo 81 = .ok (.iload_n 1, 1) := by decide +kernel
theorem dX5_mendByTwo_82 : decode cX5_mendByTwo 82 = .ok (.iconst (-1), 1) := by decide +kernel
theorem dX5_mendByTwo_83 : decode cX5_mendByTwo 83 = .ok (.if_icmp .ne 32, 3) := by decide +kernel
theorem dX5_mendByTwo_86 : decode cX5_mendByTwo 86 = .ok (.aload_n 0, 1) := by decide +kernel
theorem dX5_mendByTwo_87 : decode cX5_mendByTwo 87 = .ok (.iload_n 2, 1) := by decide +kernel
theorem dX5_mendByTwo_88 : decode cX5_mendByTwo 88 = .ok (.invokevirtual 50, 3) := by decide +kernel
theorem dX5_mendByTwo_91 : decode cX5_mendByTwo 91 = .ok (.ifCond .eq 18, 3) := by decide +kernel
theorem dX5_mendByTwo_94 : decode cX5_mendByTwo 94 = .ok (.aload_n 0, 1) := by decide +kernel
theorem dX5_mendByTwo_95 : decode cX5_mendByTwo 95 = .ok (.iload_n 3, 1) := by decide +kernel
theorem dX5_mendByTwo_96 : decode cX5_mendByTwo 96 = .ok (.invokevirtual 50, 3) := by decide +kernel
theorem dX5_mendByTwo_99 : decode cX5_mendByTwo 99 = .ok (.ifCond .eq 10, 3) := by decide +kernel
theorem dX5_mendByTwo_102 : decode cX5_mendByTwo 102 = .ok (.aload_n 0, 1) := by decide +kernel
theorem dX5_mendByTwo_103 : decode cX5_mendByTwo 103 = .ok (.iload_n 2, 1) := by decide +kernel
theorem dX5_mendByTwo_104 : decode cX5_mendByTwo 104 = .ok (.iload_n 3, 1) := by decide +kernel
theorem dX5_mendByTwo_105 : decode cX5_mendByTwo 105 = .ok (.invokevirtual 83, 3) := by decide +kernel
theorem dX5_mendByTwo_108 : decode cX5_mendByTwo 108 = .ok (.istore_n 1, 1) := by decide +kernel
theorem dX5_mendByTwo_109 : decode cX5_mendByTwo 109 = .ok (.iinc 3 1, 3) := by decide +kernel
theorem dX5_mendByTwo_112 : decode cX5_mendByTwo 112 = .ok (.goto (-42), 3) := by decide +kernel
theorem dX5_mendByTwo_115 : decode cX5_mendByTwo 115 = .ok (.iinc 2 1, 3) := by decide +kernel
theorem dX5_mendByTwo_118 : decode cX5_mendByTwo 118 = .ok (.goto (-114), 3) := by decide +kernel
theorem dX5_mendByTwo_121 : decode cX5_mendByTwo 121 = .ok (.iload_n 1, 1) := by decide +kernel
theorem dX5_mendByTwo_122 : decode cX5_mendByTwo 122 = .ok (.ireturn, 1) := by decide +kernel
theorem dX5_firstFacingCouple_0 : decode cX5_firstFacingCouple 0 = .ok (.aload_n 0, 1) := by decide +kernel
theorem dX5_firstFacingCouple_1 : decode cX5_firstFacingCouple 1 = .ok (.getfield 32, 3) := by decide +kernel
theorem dX5_firstFacingCouple_4 : decode cX5_firstFacingCouple 4 = .ok (.getfield 57, 3) := by decide +kernel
theorem dX5_firstFacingCouple_7 : decode cX5_firstFacingCouple 7 = .ok (.iload_n 1, 1) := by decide +kernel
theorem dX5_firstFacingCouple_8 : decode cX5_firstFacingCouple 8 = .ok (.iaload, 1) := by decide +kernel
theorem dX5_firstFacingCouple_9 : decode cX5_firstFacingCouple 9 = .ok (.istore_n 3, 1) := by decide +kernel
theorem dX5_firstFacingCouple_10 : decode cX5_firstFacingCouple 10 = .ok (.iconst (-1), 1) := by decide +kernel
theorem dX5_firstFacingCouple_11 : decode cX5_firstFacingCouple 11 = .ok (.istore 4, 2) := by decide +kernel
theorem dX5_firstFacingCouple_13 : decode cX5_firstFacingCouple 13 = .ok (.iconst 0, 1) := by decide +kernel
theorem dX5_firstFacingCouple_14 : decode cX5_firstFacingCouple 14 = .ok (.istore 5, 2) := by decide +kernel
theorem dX5_firstFacingCouple_16 : decode cX5_firstFacingCouple 16 = .ok (.iload 5, 2) := by decide +kernel
theorem dX5_firstFacingCouple_18 : decode cX5_firstFacingCouple 18 = .ok (.bipush 9, 2) := by decide +kernel
theorem dX5_firstFacingCouple_20 : decode cX5_firstFacingCouple 20 = .ok (.if_icmp .gt 105, 3) := by decide +kernel
theorem dX5_firstFacingCouple_23 : decode cX5_firstFacingCouple 23 = .ok (.iload 4, 2) := by decide +kernel
theorem dX5_firstFacingCouple_25 : decode cX5_firstFacingCouple 25 = .ok (.iconst (-1), 1) := by decide +kernel
theorem dX5_firstFacingCouple_26 : decode cX5_firstFacingCouple 26 = .ok (.if_icmp .ne 99, 3) := by decide +kernel
theorem dX5_firstFacingCouple_29 : decode cX5_firstFacingCouple 29 = .ok (.aload_n 0, 1) := by decide +kernel
theorem dX5_firstFacingCouple_30 : decode cX5_firstFacingCouple 30 = .ok (.getfield 32, 3) := by decide +kernel
theorem dX5_firstFacingCouple_33 : decode cX5_firstFacingCouple 33 = .ok (.getfield 65, 3) := by decide +kernel
theorem dX5_firstFacingCouple_36 : decode cX5_firstFacingCouple 36 = .ok (.aload_n 0, 1) := by decide +kernel
theorem dX5_firstFacingCouple_37 : decode cX5_firstFacingCouple 37 = .ok (.getfield 12, 3) := by decide +kernel
theorem dX5_firstFacingCouple_40 : decode cX5_firstFacingCouple 40 = .ok (.invokevirtual 79, 3) := by decide +kernel
theorem dX5_firstFacingCouple_43 : decode cX5_firstFacingCouple 43 = .ok (.aload_n 0, 1) := by decide +kernel
theorem dX5_firstFacingCouple_44 : decode cX5_firstFacingCouple 44 = .ok (.getfield 32, 3) := by decide +kernel
theorem dX5_firstFacingCouple_47 : decode cX5_firstFacingCouple 47 = .ok (.getfield 57, 3) := by decide +kernel
theorem dX5_firstFacingCouple_50 : decode cX5_firstFacingCouple 50 = .ok (.iload_n 1, 1) := by decide +kernel
theorem dX5_firstFacingCouple_51 : decode cX5_firstFacingCouple 51 = .ok (.iload 5, 2) := by decide +kernel
theorem dX5_firstFacingCouple_53 : decode cX5_firstFacingCouple 53 = .ok (.iastore, 1) := by decide +kernel
theorem dX5_firstFacingCouple_54 : decode cX5_firstFacingCouple 54 = .ok (.iload 5, 2) := by decide +kernel
theorem dX5_firstFacingCouple_56 : decode cX5_firstFacingCouple 56 = .ok (.iload_n 3, 1) := by decide +kernel
theorem dX5_firstFacingCouple_57 : decode cX5_firstFacingCouple 57 = .ok (.if_icmp .eq 62, 3) := by decide +kernel
theorem dX5_firstFacingCouple_60 : decode cX5_firstFacingCouple 60 = .ok (.aload_n 0, 1) := by decide +kernel
theorem dX5_firstFacingCouple_61 : decode cX5_firstFacingCouple 61 = .ok (.getfield 32, 3) := by decide +kernel
theorem dX5_firstFacingCouple_64 : decode cX5_firstFacingCouple 64 = .ok (.iload_n 1, 1) := by decide +kernel
theorem dX5_firstFacingCouple_65 : decode cX5_firstFacingCouple 65 = .ok (.iload_n 2, 1) := by decide +kernel
theorem dX5_firstFacingCouple_66 : decode cX5_firstFacingCouple 66 = .ok (.invokevirtual 75, 3) := by decide +kernel
theorem dX5_firstFacingCouple_69 : decode cX5_firstFacingCouple 69 = .ok (.iconst (-1), 1) := by decide +kernel
theorem dX5_firstFacingCouple_70 : decode cX5_firstFacingCouple 70 = .ok (.if_icmp .ne 49, 3) := by decide +kernel
theorem dX5_firstFacingCouple_73 : decode cX5_firstFacingCouple 73 = .ok (.aload_n 0, 1) := by decide +kernel
theorem dX5_firstFacingCouple_74 : decode cX5_firstFacingCouple 74 = .ok (.getfield 18, 3) := by decide +kernel
theorem dX5_firstFacingCouple_77 : decode cX5_firstFacingCouple 77 = .ok (.aload_n 0, 1) := by decide +kernel
theorem dX5_firstFacingCouple_78 : decode cX5_firstFacingCouple 78 = .ok (.getfield 32, 3) := by decide +kernel
theorem dX5_firstFacingCouple_81 : decode cX5_firstFacingCouple 81 = .ok (.getfield 65, 3) := by decide +kernel
theorem dX5_firstFacingCouple_84 : decode cX5_firstFacingCouple 84 = .ok (.invokevirtual 79, 3) := by decide +kernel
theorem dX5_firstFacingCouple_87 : decode cX5_firstFacingCouple 87 = .ok (.aload_n 0, 1) := by decide +kernel
theorem dX5_firstFacingCouple_88 : decode cX5_firstFacingCouple 88 = .ok (.iload_n 2, 1) := by decide +kernel
theorem dX5_firstFacingCouple_89 : decode cX5_firstFacingCouple 89 = .ok (.invokevirtual 86, 3) := by decide +kernel
theorem dX5_firstFacingCouple_92 : decode cX5_firstFacingCouple 92 = .ok (.istore 6, 2) := by decide +kernel
theorem dX5_firstFacingCouple_94 : decode cX5_firstFacingCouple 94 = .ok (.iload 6, 2) := by decide +kernel
theorem dX5_firstFacingCouple_96 : decode cX5_firstFacingCouple 96 = .ok (.iconst (-1), 1) := by decide +kernel
theorem dX5_firstFacingCouple_97 : decode cX5_firstFacingCouple 97 = .ok (.if_icmp .ne 7, 3) := by decide +kernel
theorem dX5_firstFacingCouple_100 : decode cX5_firstFacingCouple 100 = .ok (.iconst (-1), 1) := by decide +kernel
theorem dX5_firstFacingCouple_101 : decode cX5_firstFacingCouple 101 = .ok (.goto 16, 3) := by decide +kernel
theorem dX5_firstFacingCouple_104 : decode cX5_firstFacingCouple 104 = .ok (.bipush 100, 2) := by decide +kernel
theorem dX5_firstFacingCouple_106 : decode cX5_firstFacingCouple 106 = .ok (.bipush 10, 2) := by decide +kernel
theorem dX5_firstFacingCouple_108 : decode cX5_firstFacingCouple 108 = .ok (.iload_n 1, 1) := by decide +kernel
theorem dX5_firstFacingCouple_109 : decode cX5_firstFacingCouple 109 = .ok (.imul, 1) := by decide +kernel
theorem dX5_firstFacingCouple_110 : decode cX5_firstFacingCouple 110 = .ok (.iload 5, 2) := by decide +kernel
theorem dX5_firstFacingCouple_112 : decode cX5_firstFacingCouple 112 = .ok (.iadd, 1) := by decide +kernel
theorem dX5_firstFacingCouple_113 : decode cX5_firstFacingCouple 113 = .ok (.imul, 1) := by decide +kernel
theorem dX5_firstFacingCouple_114 : decode cX5_firstFacingCouple 114 = .ok (.iload 6, 2) := by decide +kernel
theorem dX5_firstFacingCouple_116 : decode cX5_firstFacingCouple 116 = .ok (.iadd, 1) := by decide +kernel
theorem dX5_firstFacingCouple_117 : decode cX5_firstFacingCouple 117 = .ok (.istore 4, 2) := by decide +kernel
theorem dX5_firstFacingCouple_119 : decode cX5_firstFacingCouple 119 = .ok (.iinc 5 1, 3) := by decide +kernel
theorem dX5_firstFacingCouple_122 : decode cX5_firstFacingCouple 122 = .ok (.goto (-106), 3) := by decide +kernel
theorem dX5_firstFacingCouple_125 : decode cX5_firstFacingCouple 125 = .ok (.aload_n 0, 1) := by decide +kernel
theorem dX5_firstFacingCouple_126 : decode cX5_firstFacingCouple 126 = .ok (.getfield 32, 3) := by decide +kernel
theorem dX5_firstFacingCouple_129 : decode cX5_firstFacingCouple 129 = .ok (.getfield 57, 3) := by decide +kernel
theorem dX5_firstFacingCouple_132 : decode cX5_firstFacingCouple 132 = .ok (.iload_n 1, 1) := by decide +kernel
theorem dX5_firstFacingCouple_133 : decode cX5_firstFacingCouple 133 = .ok (.iload_n 3, 1) := by decide +kernel
theorem dX5_firstFacingCouple_134 : decode cX5_firstFacingCouple 134 = .ok (.iastore, 1) := by decide +kernel
theorem dX5_firstFacingCouple_135 : decode cX5_firstFacingCouple 135 = .ok (.iload 4, 2) := by decide +kernel
theorem dX5_firstFacingCouple_137 : decode cX5_firstFacingCouple 137 = .ok (.ireturn, 1) := by decide +kernel
theorem dX5_firstFacingFrom_0 : decode cX5_firstFacingFrom 0 = .ok (.aload_n 0, 1) := by decide +kernel
theorem dX5_firstFacingFrom_1 : decode cX5_firstFacingFrom 1 = .ok (.getfield 32, 3) := by decide +kernel
theorem dX5_firstFacingFrom_4 : decode cX5_firstFacingFrom 4 = .ok (.getfield 57, 3) := by decide +kernel
theorem dX5_firstFacingFrom_7 : decode cX5_firstFacingFrom 7 = .ok (.iload_n 1, 1) := by decide +kernel
theorem dX5_firstFacingFrom_8 : decode cX5_firstFacingFrom 8 = .ok (.iaload, 1) := by decide +kernel
theorem dX5_firstFacingFrom_9 : decode cX5_firstFacingFrom 9 = .ok (.istore_n 2, 1) := by decide +kernel
theorem dX5_firstFacingFrom_10 : decode cX5_firstFacingFrom 10 = .ok (.iconst (-1), 1) := by decide +kernel
theorem dX5_firstFacingFrom_11 : decode cX5_firstFacingFrom 11 = .ok (.istore_n 3, 1) := by decide +kernel
theorem dX5_firstFacingFrom_12 : decode cX5_firstFacingFrom 12 = .ok (.iconst 0, 1) := by decide +kernel
theorem dX5_firstFacingFrom_13 : decode cX5_firstFacingFrom 13 = .ok (.istore 4, 2) := by decide +kernel
theorem dX5_firstFacingFrom_15 : decode cX5_firstFacingFrom 15 = .ok (.iload 4, 2) := by decide +kernel
theorem dX5_firstFacingFrom_17 : decode cX5_firstFacingFrom 17 = .ok (.bipush 9, 2) := by decide +kernel
theorem dX5_firstFacingFrom_19 : decode cX5_firstFacingFrom 19 = .ok (.if_icmp .gt 85, 3) := by decide +kernel
theorem dX5_firstFacingFrom_22 : decode cX5_firstFacingFrom 22 = .ok (.iload_n 3, 1) := by decide +kernel
theorem dX5_firstFacingFrom_23 : decode cX5_firstFacingFrom 23 = .ok (.iconst (-1), 1) := by decide +kernel
theorem dX5_firstFacingFrom_24 : decode cX5_firstFacingFrom 24 = .ok (.if_icmp .ne 80, 3) := by decide +kernel
theorem dX5_firstFacingFrom_27 : decode cX5_firstFacingFrom 27 = .ok (.aload_n 0, 1) := by decide +kernel
theorem dX5_firstFacingFrom_28 : decode cX5_firstFacingFrom 28 = .ok (.getfield 32, 3) := by decide +kernel
theorem dX5_firstFacingFrom_31 : decode cX5_firstFacingFrom 31 = .ok (.getfield 65, 3) := by decide +kernel
theorem dX5_firstFacingFrom_34 : decode cX5_firstFacingFrom 34 = .ok (.aload_n 0, 1) := by decide +kernel
theorem dX5_firstFacingFrom_35 : decode cX5_firstFacingFrom 35 = .ok (.getfield 18, 3) := by decide +kernel
theorem dX5_firstFacingFrom_38 : decode cX5_firstFacingFrom 38 = .ok (.invokevirtual 79, 3) := by decide +kernel
theorem dX5_firstFacingFrom_41 : decode cX5_firstFacingFrom 41 = .ok (.aload_n 0, 1) := by decide +kernel
theorem dX5_firstFacingFrom_42 : decode cX5_firstFacingFrom 42 = .ok (.getfield 32, 3) := by decide +kernel
theorem dX5_firstFacingFrom_45 : decode cX5_firstFacingFrom 45 = .ok (.getfield 57, 3) := by decide +kernel
theorem dX5_firstFacingFrom_48 : decode cX5_firstFacingFrom 48 = .ok (.iload_n 1, 1) := by decide +kernel
theorem dX5_firstFacingFrom_49 : decode cX5_firstFacingFrom 49 = .ok (.iload 4, 2) := by decide +kernel
theorem dX5_firstFacingFrom_51 : decode cX5_firstFacingFrom 51 = .ok (.iastore, 1) := by decide +kernel
theorem dX5_firstFacingFrom_52 : decode cX5_firstFacingFrom 52 = .ok (.iload 4, 2) := by decide +kernel
theorem dX5_firstFacingFrom_54 : decode cX5_firstFacingFrom 54 = .ok (.iload_n 2, 1) := by decide +kernel
theorem dX5_firstFacingFrom_55 : decode cX5_firstFacingFrom 55 = .ok (.if_icmp .eq 43, 3) := by decide +kernel
theorem dX5_firstFacingFrom_58 : decode cX5_firstFacingFrom 58 = .ok (.aload_n 0, 1) := by decide +kernel
theorem dX5_firstFacingFrom_59 : decode cX5_firstFacingFrom 59 = .ok (.getfield 32, 3) := by decide +kernel
theorem dX5_firstFacingFrom_62 : decode cX5_firstFacingFrom 62 = .ok (.iload_n 1, 1) := by decide +kernel
theorem dX5_firstFacingFrom_63 : decode cX5_firstFacingFrom 63 = .ok (.aload_n 0, 1) := by decide +kernel
theorem dX5_firstFacingFrom_64 : decode cX5_firstFacingFrom 64 = .ok (.getfield 32, 3) := by decide +kernel
theorem dX5_firstFacingFrom_67 : decode cX5_firstFacingFrom 67 = .ok (.getfield 47, 3) := by decide +kernel
theorem dX5_firstFacingFrom_70 : decode cX5_firstFacingFrom 70 = .ok (.invokevirtual 75, 3) := by decide +kernel
theorem dX5_firstFacingFrom_73 : decode cX5_firstFacingFrom 73 = .ok (.iconst (-1), 1) := by decide +kernel
theorem dX5_firstFacingFrom_74 : decode cX5_firstFacingFrom 74 = .ok (.if_icmp .ne 24, 3) := by decide +kernel
theorem dX5_firstFacingFrom_77 : decode cX5_firstFacingFrom 77 = .ok (.aload_n 0, 1) := by decide +kernel
theorem dX5_firstFacingFrom_78 : decode cX5_firstFacingFrom 78 = .ok (.getfield 32, 3) := by decide +kernel
theorem dX5_firstFacingFrom_81 : decode cX5_firstFacingFrom 81 = .ok (.getfield 65, 3) := by decide +kernel
theorem dX5_firstFacingFrom_84 : decode cX5_firstFacingFrom 84 = .ok (.invokevirtual 89, 3) := by decide +kernel
theorem dX5_firstFacingFrom_87 : decode cX5_firstFacingFrom 87 = .ok (.ifCond .eq 11, 3) := by decide +kernel
theorem dX5_firstFacingFrom_90 : decode cX5_firstFacingFrom 90 = .ok (.bipush 10, 2) := by decide +kernel
theorem dX5_firstFacingFrom_92 : decode cX5_firstFacingFrom 92 = .ok (.iload_n 1, 1) := by decide +kernel
theorem dX5_firstFacingFrom_93 : decode cX5_firstFacingFrom 93 = .ok (.imul, 1) := by decide +kernel
theorem dX5_firstFacingFrom_94 : decode cX5_firstFacingFrom 94 = .ok (.iload 4, 2) := by decide +kernel
theorem dX5_firstFacingFrom_96 : decode cX5_firstFacingFrom 96 = .ok (.iadd, 1) := by decide +kernel
theorem dX5_firstFacingFrom_97 : decode cX5_firstFacingFrom 97 = .ok (.istore_n 3, 1) := by decide +kernel
theorem dX5_firstFacingFrom_98 : decode cX5_firstFacingFrom 98 = .ok (.iinc 4 1, 3) := by decide +kernel
theorem dX5_firstFacingFrom_101 : decode cX5_firstFacingFrom 101 = .ok (.goto (-86), 3) := by decide +kernel
theorem dX5_firstFacingFrom_104 : decode cX5_firstFacingFrom 104 = .ok (.aload_n 0, 1) := by decide +kernel
theorem dX5_firstFacingFrom_105 : decode cX5_firstFacingFrom 105 = .ok (.getfield 32, 3) := by decide +kernel
theorem dX5_firstFacingFrom_108 : decode cX5_firstFacingFrom 108 = .ok (.getfield 57, 3) := by decide +kernel
theorem dX5_firstFacingFrom_111 : decode cX5_firstFacingFrom 111 = .ok (.iload_n 1, 1) := by decide +kernel
theorem dX5_firstFacingFrom_112 : decode cX5_firstFacingFrom 112 = .ok (.iload_n 2, 1) := by decide +kernel
theorem dX5_firstFacingFrom_113 : decode cX5_firstFacingFrom 113 = .ok (.iastore, 1) := by decide +kernel
theorem dX5_firstFacingFrom_114 : decode cX5_firstFacingFrom 114 = .ok (.iload_n 3, 1) := by decide +kernel
theorem dX5_firstFacingFrom_115 : decode cX5_firstFacingFrom 115 = .ok (.ireturn, 1) := by decide +kernel
theorem dX5_costliest_0 : decode cX5_costliest 0 = .ok (.iconst (-1), 1) := by decide +kernel
theorem dX5_costliest_1 : decode cX5_costliest 1 = .ok (.istore_n 1, 1) := by decide +kernel
theorem dX5_costliest_2 : decode cX5_costliest 2 = .ok (.iconst 0, 1) := by decide +kernel
theorem dX5_costliest_3 : decode cX5_costliest 3 = .ok (.istore_n 2, 1) := by decide +kernel
theorem dX5_costliest_4 : decode cX5_costliest 4 = .ok (.iload_n 2, 1) := by decide +kernel
theorem dX5_costliest_5 : decode cX5_costliest 5 = .ok (.aload_n 0, 1) := by decide +kernel
theorem dX5_costliest_6 : decode cX5_costliest 6 = .ok (.getfield 32, 3) := by decide +kernel
theorem dX5_costliest_9 : decode cX5_costliest 9 = .ok (.getfield 47, 3) := by decide +kernel
theorem dX5_costliest_12 : decode cX5_costliest 12 = .ok (.if_icmp .ge 28, 3) := by decide +kernel
theorem dX5_costliest_15 : decode cX5_costliest 15 = .ok (.iload_n 1, 1) := by decide +kernel
theorem dX5_costliest_16 : decode cX5_costliest 16 = .ok (.iconst (-1), 1) := by decide +kernel
theorem dX5_costliest_17 : decode cX5_costliest 17 = .ok (.if_icmp .ne 23, 3) := by decide +kernel
theorem dX5_costliest_20 : decode cX5_costliest 20 = .ok (.aload_n 0, 1) := by decide +kernel
theorem dX5_costliest_21 : decode cX5_costliest 21 = .ok (.iload_n 2, 1) := by decide +kernel
theorem dX5_costliest_22 : decode cX5_costliest 22 = .ok (.invokevirtual 50, 3) := by decide +kernel
theorem dX5_costliest_25 : decode cX5_costliest 25 = .ok (.ifCond .eq 9, 3) := by decide +kernel
theorem dX5_costliest_28 : decode cX5_costliest 28 = .ok (.aload_n 0, 1) := by decide +kernel
theorem dX5_costliest_29 : decode cX5_costliest 29 = .ok (.iload_n 2, 1) := by decide +kernel
theorem dX5_costliest_30 : decode cX5_costliest 30 = .ok (.invokevirtual 92, 3) := by decide +kernel
theorem dX5_costliest_33 : decode cX5_costliest 33 = .ok (.istore_n 1, 1) := by decide +kernel
theorem dX5_costliest_34 : decode cX5_costliest 34 = .ok (.iinc 2 1, 3) := by decide +kernel
theorem dX5_costliest_37 : decode cX5_costliest 37 = .ok (.goto (-33), 3) := by decide +kernel
theorem dX5_costliest_40 : decode cX5_costliest 40 = .ok (.iload_n 1, 1) := by decide +kernel
theorem dX5_costliest_41 : decode cX5_costliest 41 = .ok (.ireturn, 1) := by decide +kernel
theorem dX5_firstCost_0 : decode cX5_firstCost 0 = .ok (.aload_n 0, 1) := by decide +kernel
theorem dX5_firstCost_1 : decode cX5_firstCost 1 = .ok (.getfield 32, 3) := by decide +kernel
theorem dX5_firstCost_4 : decode cX5_firstCost 4 = .ok (.getfield 57, 3) := by decide +kernel
theorem dX5_firstCost_7 : decode cX5_firstCost 7 = .ok (.iload_n 1, 1) := by decide +kernel
theorem dX5_firstCost_8 : decode cX5_firstCost 8 = .ok (.iaload, 1) := by decide +kernel
theorem dX5_firstCost_9 : decode cX5_firstCost 9 = .ok (.istore_n 2, 1) := by decide +kernel
theorem dX5_firstCost_10 : decode cX5_firstCost 10 = .ok (.iconst (-1), 1) := by decide +kernel
theorem dX5_firstCost_11 : decode cX5_firstCost 11 = .ok (.istore_n 3, 1) := by decide +kernel
theorem dX5_firstCost_12 : decode cX5_firstCost 12 = .ok (.iload_n 2, 1) := by decide +kernel
theorem dX5_firstCost_13 : decode cX5_firstCost 13 = .ok (.iconst 1, 1) := by decide +kernel
theorem dX5_firstCost_14 : decode cX5_firstCost 14 = .ok (.isub, 1) := by decide +kernel
theorem dX5_firstCost_15 : decode cX5_firstCost 15 = .ok (.istore 4, 2) := by decide +kernel
theorem dX5_firstCost_17 : decode cX5_firstCost 17 = .ok (.iload 4, 2) := by decide +kernel
theorem dX5_firstCost_19 : decode cX5_firstCost 19 = .ok (.iload_n 2, 1) := by decide +kernel
theorem dX5_firstCost_20 : decode cX5_firstCost 20 = .ok (.iconst 1, 1) := by decide +kernel
theorem dX5_firstCost_21 : decode cX5_firstCost 21 = .ok (.iadd, 1) := by decide +kernel
theorem dX5_firstCost_22 : decode cX5_firstCost 22 = .ok (.if_icmp .gt 55, 3) := by decide +kernel
theorem dX5_firstCost_25 : decode cX5_firstCost 25 = .ok (.iload_n 3, 1) := by decide +kernel
theorem dX5_firstCost_26 : decode cX5_firstCost 26 = .ok (.iconst (-1), 1) := by decide +kernel
theorem dX5_firstCost_27 : decode cX5_firstCost 27 = .ok (.if_icmp .ne 50, 3) := by decide +kernel
theorem dX5_firstCost_30 : decode cX5_firstCost 30 = .ok (.aload_n 0, 1) := by decide +kernel
theorem dX5_firstCost_31 : decode cX5_firstCost 31 = .ok (.getfield 32, 3) := by decide +kernel
theorem dX5_firstCost_34 : decode cX5_firstCost 34 = .ok (.getfield 57, 3) := by decide +kernel
theorem dX5_firstCost_37 : decode cX5_firstCost 37 = .ok (.iload_n 1, 1) := by decide +kernel
theorem dX5_firstCost_38 : decode cX5_firstCost 38 = .ok (.iload 4, 2) := by decide +kernel
theorem dX5_firstCost_40 : decode cX5_firstCost 40 = .ok (.iastore, 1) := by decide +kernel
theorem dX5_firstCost_41 : decode cX5_firstCost 41 = .ok (.iload 4, 2) := by decide +kernel
theorem dX5_firstCost_43 : decode cX5_firstCost 43 = .ok (.ifCond .lt 28, 3) := by decide +kernel
theorem dX5_firstCost_46 : decode cX5_firstCost 46 = .ok (.iload 4, 2) := by decide +kernel
theorem dX5_firstCost_48 : decode cX5_firstCost 48 = .ok (.bipush 9, 2) := by decide +kernel
theorem dX5_firstCost_50 : decode cX5_firstCost 50 = .ok (.if_icmp .gt 21, 3) := by decide +kernel
theorem dX5_firstCost_53 : decode cX5_firstCost 53 = .ok (.aload_n 0, 1) := by decide +kernel
theorem dX5_firstCost_54 : decode cX5_firstCost 54 = .ok (.getfield 32, 3) := by decide +kernel
theorem dX5_firstCost_57 : decode cX5_firstCost 57 = .ok (.invokevirtual 61, 3) := by decide +kernel
theorem dX5_firstCost_60 : decode cX5_firstCost 60 = .ok (.ifCond .ne 11, 3) := by decide +kernel
theorem dX5_firstCost_63 : decode cX5_firstCost 63 = .ok (.bipush 10, 2) := by decide +kernel
theorem dX5_firstCost_65 : decode cX5_firstCost 65 = .ok (.iload_n 1, 1) := by decide +kernel
theorem dX5_firstCost_66 : decode cX5_firstCost 66 = .ok (.imul, 1) := by decide +kernel
theorem dX5_firstCost_67 : decode cX5_firstCost 67 = .ok (.iload 4, 2) := by decide +kernel
theorem dX5_firstCost_69 : decode cX5_firstCost 69 = .ok (.iadd, 1) := by decide +kernel
theorem dX5_firstCost_70 : decode cX5_firstCost 70 = .ok (.istore_n 3, 1) := by decide +kernel
theorem dX5_firstCost_71 : decode cX5_firstCost 71 = .ok (.iinc 4 2, 3) := by decide +kernel
theorem dX5_firstCost_74 : decode cX5_firstCost 74 = .ok (.goto (-57), 3) := by decide +kernel
theorem dX5_firstCost_77 : decode cX5_firstCost 77 = .ok (.aload_n 0, 1) := by decide +kernel
theorem dX5_firstCost_78 : decode cX5_firstCost 78 = .ok (.getfield 32, 3) := by decide +kernel
theorem dX5_firstCost_81 : decode cX5_firstCost 81 = .ok (.getfield 57, 3) := by decide +kernel
theorem dX5_firstCost_84 : decode cX5_firstCost 84 = .ok (.iload_n 1, 1) := by decide +kernel
theorem dX5_firstCost_85 : decode cX5_firstCost 85 = .ok (.iload_n 2, 1) := by decide +kernel
theorem dX5_firstCost_86 : decode cX5_firstCost 86 = .ok (.iastore, 1) := by decide +kernel
theorem dX5_firstCost_87 : decode cX5_firstCost 87 = .ok (.iload_n 3, 1) := by decide +kernel
theorem dX5_firstCost_88 : decode cX5_firstCost 88 = .ok (.ireturn, 1) := by decide +kernel
theorem dX5_seekLimp_0 : decode cX5_seekLimp 0 = .ok (.aload_n 0, 1) := by decide +kernel
theorem dX5_seekLimp_1 : decode cX5_seekLimp 1 = .ok (.iconst 0, 1) := by decide +kernel
theorem dX5_seekLimp_2 : decode cX5_seekLimp 2 = .ok (.putfield 21, 3) := by decide +kernel
theorem dX5_seekLimp_5 : decode cX5_seekLimp 5 = .ok (.aload_n 0, 1) := by decide +kernel
theorem dX5_seekLimp_6 : decode cX5_seekLimp 6 = .ok (.iconst (-1), 1) := by decide +kernel
theorem dX5_seekLimp_7 : decode cX5_seekLimp 7 = .ok (.putfield 25, 3) := by decide +kernel
theorem dX5_seekLimp_10 : decode cX5_seekLimp 10 = .ok (.iconst 0, 1) := by decide +kernel
theorem dX5_seekLimp_11 : decode cX5_seekLimp 11 = .ok (.istore_n 2, 1) := by decide +kernel
theorem dX5_seekLimp_12 : decode cX5_seekLimp 12 = .ok (.iload_n 2, 1) := by decide +kernel
theorem dX5_seekLimp_13 : decode cX5_seekLimp 13 = .ok (.aload_n 0, 1) := by decide +kernel
theorem dX5_seekLimp_14 : decode cX5_seekLimp 14 = .ok (.getfield 32, 3) := by decide +kernel
theorem dX5_seekLimp_17 : decode cX5_seekLimp 17 = .ok (.getfield 47, 3) := by decide +kernel
theorem dX5_seekLimp_20 : decode cX5_seekLimp 20 = .ok (.if_icmp .ge 23, 3) := by decide +kernel
theorem dX5_seekLimp_23 : decode cX5_seekLimp 23 = .ok (.aload_n 0, 1) := by decide +kernel
theorem dX5_seekLimp_24 : decode cX5_seekLimp 24 = .ok (.iload_n 2, 1) := by decide +kernel
theorem dX5_seekLimp_25 : decode cX5_seekLimp 25 = .ok (.invokevirtual 50, 3) := by decide +kernel
theorem dX5_seekLimp_28 : decode cX5_seekLimp 28 = .ok (.ifCond .eq 9, 3) := by decide +kernel
theorem dX5_seekLimp_31 : decode cX5_seekLimp 31 = .ok (.aload_n 0, 1) := by decide +kernel
theorem dX5_seekLimp_32 : decode cX5_seekLimp 32 = .ok (.aload_n 1, 1) := by decide +kernel
theorem dX5_seekLimp_33 : decode cX5_seekLimp 33 = .ok (.iload_n 2, 1) := by decide +kernel
theorem dX5_seekLimp_34 : decode cX5_seekLimp 34 = .ok (.invokevirtual 95, 3) := by decide +kernel
theorem dX5_seekLimp_37 : decode cX5_seekLimp 37 = .ok (.iinc 2 1, 3) := by decide +kernel
theorem dX5_seekLimp_40 : decode cX5_seekLimp 40 = .ok (.goto (-28), 3) := by decide +kernel
theorem dX5_seekLimp_43 : decode cX5_seekLimp 43 = .ok (.return_, 1) := by decide +kernel
theorem dX5_seekLimpOf_0 : decode cX5_seekLimpOf 0 = .ok (.aload_n 0, 1) := by decide +kernel
theorem dX5_seekLimpOf_1 : decode cX5_seekLimpOf 1 = .ok (.getfield 32, 3) := by decide +kernel
theorem dX5_seekLimpOf_4 : decode cX5_seekLimpOf 4 = .ok (.getfield 57, 3) := by decide +kernel
theorem dX5_seekLimpOf_7 : decode cX5_seekLimpOf 7 = .ok (.iload_n 2, 1) := by decide +kernel
theorem dX5_seekLimpOf_8 : decode cX5_seekLimpOf 8 = .ok (.iaload, 1) := by decide +kernel
theorem dX5_seekLimpOf_9 : decode cX5_seekLimpOf 9 = .ok (.istore_n 3, 1) := by decide +kernel
theorem dX5_seekLimpOf_10 : decode cX5_seekLimpOf 10 = .ok (.iconst 0, 1) := by decide +kernel
theorem dX5_seekLimpOf_11 : decode cX5_seekLimpOf 11 = .ok (.istore 4, 2) := by decide +kernel
theorem dX5_seekLimpOf_13 : decode cX5_seekLimpOf 13 = .ok (.iload 4, 2) := by decide +kernel
theorem dX5_seekLimpOf_15 : decode cX5_seekLimpOf 15 = .ok (.bipush 9, 2) := by decide +kernel
theorem dX5_seekLimpOf_17 : decode cX5_seekLimpOf 17 = .ok (.if_icmp .gt 70, 3) := by decide +kernel
theorem dX5_seekLimpOf_20 : decode cX5_seekLimpOf 20 = .ok (.aload_n 0, 1) := by decide +kernel
theorem dX5_seekLimpOf_21 : decode cX5_seekLimpOf 21 = .ok (.getfield 32, 3) := by decide +kernel
theorem dX5_seekLimpOf_24 : decode cX5_seekLimpOf 24 = .ok (.getfield 57, 3) := by decide +kernel
theorem dX5_seekLimpOf_27 : decode cX5_seekLimpOf 27 = .ok (.iload_n 2, 1) := by decide +kernel
theorem dX5_seekLimpOf_28 : decode cX5_seekLimpOf 28 = .ok (.iload 4, 2) := by decide +kernel
theorem dX5_seekLimpOf_30 : decode cX5_seekLimpOf 30 = .ok (.iastore, 1) := by decide +kernel
theorem dX5_seekLimpOf_31 : decode cX5_seekLimpOf 31 = .ok (.iload 4, 2) := by decide +kernel
theorem dX5_seekLimpOf_33 : decode cX5_seekLimpOf 33 = .ok (.iload_n 3, 1) := by decide +kernel
theorem dX5_seekLimpOf_34 : decode cX5_seekLimpOf 34 = .ok (.if_icmp .eq 47, 3) := by decide +kernel
theorem dX5_seekLimpOf_37 : decode cX5_seekLimpOf 37 = .ok (.aload_n 0, 1) := by decide +kernel
theorem dX5_seekLimpOf_38 : decode cX5_seekLimpOf 38 = .ok (.aload_n 1, 1) := by decide +kernel
theorem dX5_seekLimpOf_39 : decode cX5_seekLimpOf 39 = .ok (.invokevirtual 99, 3) := by decide +kernel
theorem dX5_seekLimpOf_42 : decode cX5_seekLimpOf 42 = .ok (.ifCond .eq 39, 3) := by decide +kernel
theorem dX5_seekLimpOf_45 : decode cX5_seekLimpOf 45 = .ok (.aload_n 0, 1) := by decide +kernel
theorem dX5_seekLimpOf_46 : decode cX5_seekLimpOf 46 = .ok (.dup, 1) := by decide +kernel
theorem dX5_seekLimpOf_47 : decode cX5_seekLimpOf 47 = .ok (.getfield 21, 3) := by decide +kernel
theorem dX5_seekLimpOf_50 : decode cX5_seekLimpOf 50 = .ok (.iconst 1, 1) := by decide +kernel
theorem dX5_seekLimpOf_51 : decode cX5_seekLimpOf 51 = .ok (.iadd, 1) := by decide +kernel
theorem dX5_seekLimpOf_52 : decode cX5_seekLimpOf 52 = .ok (.putfield 21, 3) := by decide +kernel
theorem dX5_seekLimpOf_55 : decode cX5_seekLimpOf 55 = .ok (.aload_n 0, 1) := by decide +kernel
theorem dX5_seekLimpOf_56 : decode cX5_seekLimpOf 56 = .ok (.aload_n 0, 1) := by decide +kernel
theorem dX5_seekLimpOf_57 : decode cX5_seekLimpOf 57 = .ok (.getfield 25, 3) := by decide +kernel
theorem dX5_seekLimpOf_60 : decode cX5_seekLimpOf 60 = .ok (.iconst (-1), 1) := by decide +kernel
theorem dX5_seekLimpOf_61 : decode cX5_seekLimpOf 61 = .ok (.if_icmp .ne 13, 3) := by decide +kernel
theorem dX5_seekLimpOf_64 : decode cX5_seekLimpOf 64 = .ok (.bipush 10, 2) := by decide +kernel
theorem dX5_seekLimpOf_66 : decode cX5_seekLimpOf 66 = .ok (.iload_n 2, 1) := by decide +kernel
theorem dX5_seekLimpOf_67 : decode cX5_seekLimpOf 67 = .ok (.imul, 1) := by decide +kernel
theorem dX5_seekLimpOf_68 : decode cX5_seekLimpOf 68 = .ok (.iload 4, 2) := by decide +kernel
theorem dX5_seekLimpOf_70 : decode cX5_seekLimpOf 70 = .ok (.iadd, 1) := by decide +kernel
theorem dX5_seekLimpOf_71 : decode cX5_seekLimpOf 71 = .ok (.goto 7, 3) := by decide +kernel
theorem dX5_seekLimpOf_74 : decode cX5_seekLimpOf 74 = .ok (.aload_n 0, 1) := by decide +kernel
theorem dX5_seekLimpOf_75 : decode cX5_seekLimpOf 75 = .ok (.getfield 25, 3) := by decide +kernel
theorem dX5_seekLimpOf_78 : decode cX5_seekLimpOf 78 = .ok (.putfield 25, 3) := by decide +kernel
theorem dX5_seekLimpOf_81 : decode cX5_seekLimpOf 81 = .ok (.iinc 4 1, 3) := by decide +kernel
theorem dX5_seekLimpOf_84 : decode cX5_seekLimpOf 84 = .ok (.goto (-71), 3) := by decide +kernel
theorem dX5_seekLimpOf_87 : decode cX5_seekLimpOf 87 = .ok (.aload_n 0, 1) := by decide +kernel
theorem dX5_seekLimpOf_88 : decode cX5_seekLimpOf 88 = .ok (.getfield 32, 3) := by decide +kernel
theorem dX5_seekLimpOf_91 : decode cX5_seekLimpOf 91 = .ok (.getfield 57, 3) := by decide +kernel
theorem dX5_seekLimpOf_94 : decode cX5_seekLimpOf 94 = .ok (.iload_n 2, 1) := by decide +kernel
theorem dX5_seekLimpOf_95 : decode cX5_seekLimpOf 95 = .ok (.iload_n 3, 1) := by decide +kernel
theorem dX5_seekLimpOf_96 : decode cX5_seekLimpOf 96 = .ok (.iastore, 1) := by decide +kernel
theorem dX5_seekLimpOf_97 : decode cX5_seekLimpOf 97 = .ok (.return_, 1) := by decide +kernel
theorem dX5_isAsSeen_0 : decode cX5_isAsSeen 0 = .ok (.aload_n 0, 1) := by decide +kernel
theorem dX5_isAsSeen_1 : decode cX5_isAsSeen 1 = .ok (.getfield 32, 3) := by decide +kernel
theorem dX5_isAsSeen_4 : decode cX5_isAsSeen 4 = .ok (.getfield 65, 3) := by decide +kernel
theorem dX5_isAsSeen_7 : decode cX5_isAsSeen 7 = .ok (.aload_n 0, 1) := by decide +kernel
theorem dX5_isAsSeen_8 : decode cX5_isAsSeen 8 = .ok (.getfield 28, 3) := by decide +kernel
theorem dX5_isAsSeen_11 : decode cX5_isAsSeen 11 = .ok (.getfield 68, 3) := by decide +kernel
theorem dX5_isAsSeen_14 : decode cX5_isAsSeen 14 = .ok (.invokevirtual 71, 3) := by decide +kernel
theorem dX5_isAsSeen_17 : decode cX5_isAsSeen 17 = .ok (.iconst 0, 1) := by decide +kernel
theorem dX5_isAsSeen_18 : decode cX5_isAsSeen 18 = .ok (.istore_n 2, 1) := by decide +kernel
theorem dX5_isAsSeen_19 : decode cX5_isAsSeen 19 = .ok (.iconst 0, 1) := by decide +kernel
theorem dX5_isAsSeen_20 : decode cX5_isAsSeen 20 = .ok (.istore_n 3, 1) := by decide +kernel
theorem dX5_isAsSeen_21 : decode cX5_isAsSeen 21 = .ok (.iload_n 3, 1) := by decide +kernel
theorem dX5_isAsSeen_22 : decode cX5_isAsSeen 22 = .ok (.aload_n 1, 1) := by decide +kernel
theorem dX5_isAsSeen_23 : decode cX5_isAsSeen 23 = .ok (.getfield 103, 3) := by decide +kernel
theorem dX5_isAsSeen_26 : decode cX5_isAsSeen 26 = .ok (.if_icmp .ge 33, 3) := by decide +kernel
theorem dX5_isAsSeen_29 : decode cX5_isAsSeen 29 = .ok (.iload_n 2, 1) := by decide +kernel
theorem dX5_isAsSeen_30 : decode cX5_isAsSeen 30 = .ok (.aload_n 1, 1) := by decide +kernel
theorem dX5_isAsSeen_31 : decode cX5_isAsSeen 31 = .ok (.getfield 108, 3) := by decide +kernel
theorem dX5_isAsSeen_34 : decode cX5_isAsSeen 34 = .ok (.iload_n 3, 1) := by decide +kernel
theorem dX5_isAsSeen_35 : decode cX5_isAsSeen 35 = .ok (.iaload, 1) := by decide +kernel
theorem dX5_isAsSeen_36 : decode cX5_isAsSeen 36 = .ok (.aload_n 0, 1) := by decide +kernel
theorem dX5_isAsSeen_37 : decode cX5_isAsSeen 37 = .ok (.getfield 32, 3) := by decide +kernel
theorem dX5_isAsSeen_40 : decode cX5_isAsSeen 40 = .ok (.getfield 36, 3) := by decide +kernel
theorem dX5_isAsSeen_43 : decode cX5_isAsSeen 43 = .ok (.if_icmp .ne 7, 3) := by decide +kernel
theorem dX5_isAsSeen_46 : decode cX5_isAsSeen 46 = .ok (.iconst 1, 1) := by decide +kernel
theorem dX5_isAsSeen_47 : decode cX5_isAsSeen 47 = .ok (.goto 4, 3) := by decide +kernel
theorem dX5_isAsSeen_50 : decode cX5_isAsSeen 50 = .ok (.iconst 0, 1) := by decide +kernel
theorem dX5_isAsSeen_51 : decode cX5_isAsSeen 51 = .ok (.iadd, 1) := by decide +kernel
theorem dX5_isAsSeen_52 : decode cX5_isAsSeen 52 = .ok (.istore_n 2, 1) := by decide +kernel
theorem dX5_isAsSeen_53 : decode cX5_isAsSeen 53 = .ok (.iinc 3 1, 3) := by decide +kernel
theorem dX5_isAsSeen_56 : decode cX5_isAsSeen 56 = .ok (.goto (-35), 3) := by decide +kernel
theorem dX5_isAsSeen_59 : decode cX5_isAsSeen 59 = .ok (.iconst 0, 1) := by decide +kernel
theorem dX5_isAsSeen_60 : decode cX5_isAsSeen 60 = .ok (.istore_n 3, 1) := by decide +kernel
theorem dX5_isAsSeen_61 : decode cX5_isAsSeen 61 = .ok (.iload_n 3, 1) := by decide +kernel
theorem dX5_isAsSeen_62 : decode cX5_isAsSeen 62 = .ok (.aload_n 0, 1) := by decide +kernel
theorem dX5_isAsSeen_63 : decode cX5_isAsSeen 63 = .ok (.getfield 32, 3) := by decide +kernel
theorem dX5_isAsSeen_66 : decode cX5_isAsSeen 66 = .ok (.getfield 47, 3) := by decide +kernel
theorem dX5_isAsSeen_69 : decode cX5_isAsSeen 69 = .ok (.if_icmp .ge 87, 3) := by decide +kernel
theorem dX5_isAsSeen_72 : decode cX5_isAsSeen 72 = .ok (.iload_n 2, 1) := by decide +kernel
theorem dX5_isAsSeen_73 : decode cX5_isAsSeen 73 = .ok (.ifCond .le 83, 3) := by decide +kernel
theorem dX5_isAsSeen_76 : decode cX5_isAsSeen 76 = .ok (.aload_n 0, 1) := by decide +kernel
theorem dX5_isAsSeen_77 : decode cX5_isAsSeen 77 = .ok (.getfield 32, 3) := by decide +kernel
theorem dX5_isAsSeen_80 : decode cX5_isAsSeen 80 = .ok (.iload_n 3, 1) := by decide +kernel
theorem dX5_isAsSeen_81 : decode cX5_isAsSeen 81 = .ok (.invokevirtual 111, 3) := by decide +kernel
theorem dX5_isAsSeen_84 : decode cX5_isAsSeen 84 = .ok (.ifCond .ne 5, 3) := by decide +kernel
theorem dX5_isAsSeen_87 : decode cX5_isAsSeen 87 = .ok (.iconst 0, 1) := by decide +kernel
theorem dX5_isAsSeen_88 : decode cX5_isAsSeen 88 = .ok (.ireturn, 1) := by decide +kernel
theorem dX5_isAsSeen_89 : decode cX5_isAsSeen 89 = .ok (.iconst 0, 1) := by decide +kernel
theorem dX5_isAsSeen_90 : decode cX5_isAsSeen 90 = .ok (.istore 4, 2) := by decide +kernel
theorem dX5_isAsSeen_92 : decode cX5_isAsSeen 92 = .ok (.iload 4, 2) := by decide +kernel
theorem dX5_isAsSeen_94 : decode cX5_isAsSeen 94 = .ok (.aload_n 1, 1) := by decide +kernel
theorem dX5_isAsSeen_95 : decode cX5_isAsSeen 95 = .ok (.getfield 103, 3) := by decide +kernel
theorem dX5_isAsSeen_98 : decode cX5_isAsSeen 98 = .ok (.if_icmp .ge 52, 3) := by decide +kernel
theorem dX5_isAsSeen_101 : decode cX5_isAsSeen 101 = .ok (.aload_n 1, 1) := by decide +kernel
theorem dX5_isAsSeen_102 : decode cX5_isAsSeen 102 = .ok (.getfield 108, 3) := by decide +kernel
theorem dX5_isAsSeen_105 : decode cX5_isAsSeen 105 = .ok (.iload 4, 2) := by decide +kernel
theorem dX5_isAsSeen_107 : decode cX5_isAsSeen 107 = .ok (.iaload, 1) := by decide +kernel
theorem dX5_isAsSeen_108 : decode cX5_isAsSeen 108 = .ok (.aload_n 0, 1) := by decide +kernel
theorem dX5_isAsSeen_109 : decode cX5_isAsSeen 109 = .ok (.getfield 32, 3) := by decide +kernel
theorem dX5_isAsSeen_112 : decode cX5_isAsSeen 112 = .ok (.getfield 36, 3) := by decide +kernel
theorem dX5_isAsSeen_115 : decode cX5_isAsSeen 115 = .ok (.if_icmp .ne 29, 3) := by decide +kernel
theorem dX5_isAsSeen_118 : decode cX5_isAsSeen 118 = .ok (.aload_n 1, 1) := by decide +kernel
theorem dX5_isAsSeen_119 : decode cX5_isAsSeen 119 = .ok (.getfield 114, 3) := by decide +kernel
theorem dX5_isAsSeen_122 : decode cX5_isAsSeen 122 = .ok (.iload 4, 2) := by decide +kernel
theorem dX5_isAsSeen_124 : decode cX5_isAsSeen 124 = .ok (.iaload, 1) := by decide +kernel
theorem dX5_isAsSeen_125 : decode cX5_isAsSeen 125 = .ok (.iload_n 3, 1) := by decide +kernel
theorem dX5_isAsSeen_126 : decode cX5_isAsSeen 126 = .ok (.if_icmp .ne 18, 3) := by decide +kernel
theorem dX5_isAsSeen_129 : decode cX5_isAsSeen 129 = .ok (.aload_n 0, 1) := by decide +kernel
theorem dX5_isAsSeen_130 : decode cX5_isAsSeen 130 = .ok (.aload_n 1, 1) := by decide +kernel
theorem dX5_isAsSeen_131 : decode cX5_isAsSeen 131 = .ok (.iload 4, 2) := by decide +kernel
theorem dX5_isAsSeen_133 : decode cX5_isAsSeen 133 = .ok (.invokevirtual 117, 3) := by decide +kernel
theorem dX5_isAsSeen_136 : decode cX5_isAsSeen 136 = .ok (.ifCond .ne 5, 3) := by decide +kernel
theorem dX5_isAsSeen_139 : decode cX5_isAsSeen 139 = .ok (.iconst 0, 1) := by decide +kernel
theorem dX5_isAsSeen_140 : decode cX5_isAsSeen 140 = .ok (.ireturn, 1) := by decide +kernel
theorem dX5_isAsSeen_141 : decode cX5_isAsSeen 141 = .ok (.iinc 2 (-1), 3) := by decide +kernel
theorem dX5_isAsSeen_144 : decode cX5_isAsSeen 144 = .ok (.iinc 4 1, 3) := by decide +kernel
theorem dX5_isAsSeen_147 : decode cX5_isAsSeen 147 = .ok (.goto (-55), 3) := by decide +kernel
theorem dX5_isAsSeen_150 : decode cX5_isAsSeen 150 = .ok (.iinc 3 1, 3) := by decide +kernel
theorem dX5_isAsSeen_153 : decode cX5_isAsSeen 153 = .ok (.goto (-92), 3) := by decide +kernel
theorem dX5_isAsSeen_156 : decode cX5_isAsSeen 156 = .ok (.iload_n 2, 1) := by decide +kernel
theorem dX5_isAsSeen_157 : decode cX5_isAsSeen 157 = .ok (.ifCond .ne 7, 3) := by decide +kernel
theorem dX5_isAsSeen_160 : decode cX5_isAsSeen 160 = .ok (.iconst 1, 1) := by decide +kernel
theorem dX5_isAsSeen_161 : decode cX5_isAsSeen 161 = .ok (.goto 4, 3) := by decide +kernel
theorem dX5_isAsSeen_164 : decode cX5_isAsSeen 164 = .ok (.iconst 0, 1) := by decide +kernel
theorem dX5_isAsSeen_165 : decode cX5_isAsSeen 165 = .ok (.ireturn, 1) := by decide +kernel
theorem dX5_isThere_0 : decode cX5_isThere 0 = .ok (.aload_n 1, 1) := by decide +kernel
theorem dX5_isThere_1 : decode cX5_isThere 1 = .ok (.getfield 121, 3) := by decide +kernel
theorem dX5_isThere_4 : decode cX5_isThere 4 = .ok (.iload_n 2, 1) := by decide +kernel
theorem dX5_isThere_5 : decode cX5_isThere 5 = .ok (.iaload, 1) := by decide +kernel
theorem dX5_isThere_6 : decode cX5_isThere 6 = .ok (.istore_n 3, 1) := by decide +kernel
theorem dX5_isThere_7 : decode cX5_isThere 7 = .ok (.aload_n 0, 1) := by decide +kernel
theorem dX5_isThere_8 : decode cX5_isThere 8 = .ok (.getfield 32, 3) := by decide +kernel
theorem dX5_isThere_11 : decode cX5_isThere 11 = .ok (.getfield 65, 3) := by decide +kernel
theorem dX5_isThere_14 : decode cX5_isThere 14 = .ok (.getfield 124, 3) := by decide +kernel
theorem dX5_isThere_17 : decode cX5_isThere 17 = .ok (.iload_n 3, 1) := by decide +kernel
theorem dX5_isThere_18 : decode cX5_isThere 18 = .ok (.iaload, 1) := by decide +kernel
theorem dX5_isThere_19 : decode cX5_isThere 19 = .ok (.aload_n 1, 1) := by decide +kernel
theorem dX5_isThere_20 : decode cX5_isThere 20 = .ok (.getfield 127, 3) := by decide +kernel
theorem dX5_isThere_23 : decode cX5_isThere 23 = .ok (.iload_n 2, 1) := by decide +kernel
theorem dX5_isThere_24 : decode cX5_isThere 24 = .ok (.iaload, 1) := by decide +kernel
theorem dX5_isThere_25 : decode cX5_isThere 25 = .ok (.if_icmp .ne 28, 3) := by decide +kernel
theorem dX5_isThere_28 : decode cX5_isThere 28 = .ok (.aload_n 0, 1) := by decide +kernel
theorem dX5_isThere_29 : decode cX5_isThere 29 = .ok (.getfield 32, 3) := by decide +kernel
theorem dX5_isThere_32 : decode cX5_isThere 32 = .ok (.getfield 65, 3) := by decide +kernel
theorem dX5_isThere_35 : decode cX5_isThere 35 = .ok (.getfield 130, 3) := by decide +kernel
theorem dX5_isThere_38 : decode cX5_isThere 38 = .ok (.iload_n 3, 1) := by decide +kernel
theorem dX5_isThere_39 : decode cX5_isThere 39 = .ok (.iaload, 1) := by decide +kernel
theorem dX5_isThere_40 : decode cX5_isThere 40 = .ok (.aload_n 1, 1) := by decide +kernel
theorem dX5_isThere_41 : decode cX5_isThere 41 = .ok (.getfield 133, 3) := by decide +kernel
theorem dX5_isThere_44 : decode cX5_isThere 44 = .ok (.iload_n 2, 1) := by decide +kernel
theorem dX5_isThere_45 : decode cX5_isThere 45 = .ok (.iaload, 1) := by decide +kernel
theorem dX5_isThere_46 : decode cX5_isThere 46 = .ok (.if_icmp .ne 7, 3) := by decide +kernel
theorem dX5_isThere_49 : decode cX5_isThere 49 = .ok (.iconst 1, 1) := by decide +kernel
theorem dX5_isThere_50 : decode cX5_isThere 50 = .ok (.goto 4, 3) := by decide +kernel
theorem dX5_isThere_53 : decode cX5_isThere 53 = .ok (.iconst 0, 1) := by decide +kernel
theorem dX5_isThere_54 : decode cX5_isThere 54 = .ok (.ireturn, 1) := by decide +kernel
theorem dX6_init_0 : decode cX6_init 0 = .ok (.aload_n 0, 1) := by decide +kernel
theorem dX6_init_1 : decode cX6_init 1 = .ok (.invokespecial 3, 3) := by decide +kernel
theorem dX6_init_4 : decode cX6_init 4 = .ok (.aload_n 0, 1) := by decide +kernel
theorem dX6_init_5 : decode cX6_init 5 = .ok (.bipush 6, 2) := by decide +kernel
theorem dX6_init_7 : decode cX6_init 7 = .ok (.newarray .int, 2) := by decide +kernel
theorem dX6_init_9 : decode cX6_init 9 = .ok (.putfield 11, 3) := by decide +kernel
theorem dX6_init_12 : decode cX6_init 12 = .ok (.aload_n 0, 1) := by decide +kernel
theorem dX6_init_13 : decode cX6_init 13 = .ok (.sipush 128, 3) := by decide +kernel
theorem dX6_init_16 : decode cX6_init 16 = .ok (.newarray .int, 2) := by decide +kernel
theorem dX6_init_18 : decode cX6_init 18 = .ok (.putfield 17, 3) := by decide +kernel
theorem dX6_init_21 : decode cX6_init 21 = .ok (.aload_n 0, 1) := by decide +kernel
theorem dX6_init_22 : decode cX6_init 22 = .ok (.iconst 0, 1) := by decide +kernel
theorem dX6_init_23 : decode cX6_init 23 = .ok (.putfield 20, 3) := by decide +kernel
theorem dX6_init_26 : decode cX6_init 26 = .ok (.aload_n 0, 1) := by decide +kernel
theorem dX6_init_27 : decode cX6_init 27 = .ok (.iconst (-1), 1) := by decide +kernel
theorem dX6_init_28 : decode cX6_init 28 = .ok (.putfield 24, 3) := by decide +kernel
theorem dX6_init_31 : decode cX6_init 31 = .ok (.aload_n 0, 1) := by decide +kernel
theorem dX6_init_32 : decode cX6_init 32 = .ok (.aload_n 1, 1) := by decide +kernel
theorem dX6_init_33 : decode cX6_init 33 = .ok (.putfield 27, 3) := by decide +kernel
theorem dX6_init_36 : decode cX6_init 36 = .ok (.aload_n 0, 1) := by decide +kernel
theorem dX6_init_37 : decode cX6_init 37 = .ok (.aload_n 2, 1) := by decide +kernel
theorem dX6_init_38 : decode cX6_init 38 = .ok (.putfield 31, 3) := by decide +kernel
theorem dX6_init_41 : decode cX6_init 41 = .ok (.return_, 1) := by decide +kernel
theorem dX6_rowOf_0 : decode cX6_rowOf 0 = .ok (.iload_n 0, 1) := by decide +kernel
theorem dX6_rowOf_1 : decode cX6_rowOf 1 = .ok (.iconst 2, 1) := by decide +kernel
theorem dX6_rowOf_2 : decode cX6_rowOf 2 = .ok (.imul, 1) := by decide +kernel
theorem dX6_rowOf_3 : decode cX6_rowOf 3 = .ok (.iload_n 1, 1) := by decide +kernel
theorem dX6_rowOf_4 : decode cX6_rowOf 4 = .ok (.iadd, 1) := by decide +kernel
theorem dX6_rowOf_5 : decode cX6_rowOf 5 = .ok (.bipush 8, 2) := by decide +kernel
theorem dX6_rowOf_7 : decode cX6_rowOf 7 = .ok (.imul, 1) := by decide +kernel
theorem dX6_rowOf_8 : decode cX6_rowOf 8 = .ok (.iload_n 2, 1) := by decide +kernel
theorem dX6_rowOf_9 : decode cX6_rowOf 9 = .ok (.iadd, 1) := by decide +kernel
theorem dX6_rowOf_10 : decode cX6_rowOf 10 = .ok (.ireturn, 1) := by decide +kernel
theorem dX6_weighAll_0 : decode cX6_weighAll 0 = .ok (.aload_n 0, 1) := by decide +kernel
theorem dX6_weighAll_1 : decode cX6_weighAll 1 = .ok (.getfield 17, 3) := by decide +kernel
theorem dX6_weighAll_4 : decode cX6_weighAll 4 = .ok (.iconst (-1), 1) := by decide +kernel
theorem dX6_weighAll_5 : decode cX6_weighAll 5 = .ok (.invokestatic 35, 3) := by decide +kernel
theorem dX6_weighAll_8 : decode cX6_weighAll 8 = .ok (.iconst 0, 1) := by decide +kernel
theorem dX6_weighAll_9 : decode cX6_weighAll 9 = .ok (.istore_n 2, 1) := by decide +kernel
theorem dX6_weighAll_10 : decode cX6_weighAll 10 = .ok (.iload_n 2, 1) := by decide +kernel
theorem dX6_weighAll_11 : decode cX6_weighAll 11 = .ok (.aload_n 0, 1) := by decide +kernel
theorem dX6_weighAll_12 : decode cX6_weighAll 12 = .ok (.getfield 27, 3) := by decide +kernel
theorem dX6_weighAll_15 : decode cX6_weighAll 15 = .ok (.getfield 41, 3) := by decide +kernel
theorem dX6_weighAll_18 : decode cX6_weighAll 18 = .ok (.if_icmp .ge 29, 3) := by decide +kernel
theorem dX6_weighAll_21 : decode cX6_weighAll 21 = .ok (.iload_n 1, 1) := by decide +kernel
theorem dX6_weighAll_22 : decode cX6_weighAll 22 = .ok (.iload_n 2, 1) := by decide +kernel
theorem dX6_weighAll_23 : decode cX6_weighAll 23 = .ok (.ishr, 1) := by decide +kernel
theorem dX6_weighAll_24 : decode cX6_weighAll 24 = .ok (.iconst 1, 1) := by decide +kernel
theorem dX6_weighAll_25 : decode cX6_weighAll 25 = .ok (.iand, 1) := by decide +kernel
theorem dX6_weighAll_26 : decode cX6_weighAll 26 = .ok (.ifCond .eq 15, 3) := by decide +kernel
theorem dX6_weighAll_29 : decode cX6_weighAll 29 = .ok (.aload_n 0, 1) := by decide +kernel
theorem dX6_weighAll_30 : decode cX6_weighAll 30 = .ok (.iload_n 2, 1) := by decide +kernel
theorem dX6_weighAll_31 : decode cX6_weighAll 31 = .ok (.iconst 0, 1) := by decide +kernel
theorem dX6_weighAll_32 : decode cX6_weighAll 32 = .ok (.invokevirtual 46, 3) := by decide +kernel
theorem dX6_weighAll_35 : decode cX6_weighAll 35 = .ok (.aload_n 0, 1) := by decide +kernel
theorem dX6_weighAll_36 : decode cX6_weighAll 36 = .ok (.iload_n 2, 1) := by decide +kernel
theorem dX6_weighAll_37 : decode cX6_weighAll 37 = .ok (.iconst 1, 1) := by decide +kernel
theorem dX6_weighAll_38 : decode cX6_weighAll 38 = .ok (.invokevirtual 46, 3) := by decide +kernel
theorem dX6_weighAll_41 : decode cX6_weighAll 41 = .ok (.iinc 2 1, 3) := by decide +kernel
theorem dX6_weighAll_44 : decode cX6_weighAll 44 = .ok (.goto (-34), 3) := by decide +kernel
theorem dX6_weighAll_47 : decode cX6_weighAll 47 = .ok (.return_, 1) := by decide +kernel
theorem dX6_weigh_0 : decode cX6_weigh 0 = .ok (.iconst 0, 1) := by decide +kernel
theorem dX6_weigh_1 : decode cX6_weigh 1 = .ok (.istore_n 3, 1) := by decide +kernel
theorem dX6_weigh_2 : decode cX6_weigh 2 = .ok (.iload_n 3, 1) := by decide +kernel
theorem dX6_weigh_3 : decode cX6_weigh 3 = .ok (.aload_n 0, 1) := by decide +kernel
theorem dX6_weigh_4 : decode cX6_weigh 4 = .ok (.getfield 27, 3) := by decide +kernel
theorem dX6_weigh_7 : decode cX6_weigh 7 = .ok (.getfield 50, 3) := by decide +kernel
theorem dX6_weigh_10 : decode cX6_weigh 10 = .ok (.iload_n 1, 1) := by decide +kernel
theorem dX6_weigh_11 : decode cX6_weigh 11 = .ok (.iaload, 1) := by decide +kernel
theorem dX6_weigh_12 : decode cX6_weigh 12 = .ok (.if_icmp .ge 89, 3) := by decide +kernel
theorem dX6_weigh_15 : decode cX6_weigh 15 = .ok (.aload_n 0, 1) := by decide +kernel
theorem dX6_weigh_16 : decode cX6_weigh 16 = .ok (.iload_n 1, 1) := by decide +kernel
theorem dX6_weigh_17 : decode cX6_weigh 17 = .ok (.iload_n 3, 1) := by decide +kernel
theorem dX6_weigh_18 : decode cX6_weigh 18 = .ok (.iload_n 2, 1) := by decide +kernel
theorem dX6_weigh_19 : decode cX6_weigh 19 = .ok (.invokevirtual 53, 3) := by decide +kernel
theorem dX6_weigh_22 : decode cX6_weigh 22 = .ok (.ifCond .eq 73, 3) := by decide +kernel
theorem dX6_weigh_25 : decode cX6_weigh 25 = .ok (.iload_n 1, 1) := by decide +kernel
theorem dX6_weigh_26 : decode cX6_weigh 26 = .ok (.iload_n 2, 1) := by decide +kernel
theorem dX6_weigh_27 : decode cX6_weigh 27 = .ok (.aload_n 0, 1) := by decide +kernel
theorem dX6_weigh_28 : decode cX6_weigh 28 = .ok (.getfield 27, 3) := by decide +kernel
theorem dX6_weigh_31 : decode cX6_weigh 31 = .ok (.getfield 57, 3) := by decide +kernel
theorem dX6_weigh_34 : decode cX6_weigh 34 = .ok (.iload_n 1, 1) := by decide +kernel
theorem dX6_weigh_35 : decode cX6_weigh 35 = .ok (.iload_n 3, 1) := by decide +kernel
theorem dX6_weigh_36 : decode cX6_weigh 36 = .ok (.invokestatic 60, 3) := by decide +kernel
theorem dX6_weigh_39 : decode cX6_weigh 39 = .ok (.iaload, 1) := by decide +kernel
theorem dX6_weigh_40 : decode cX6_weigh 40 = .ok (.invokestatic 64, 3) := by decide +kernel
theorem dX6_weigh_43 : decode cX6_weigh 43 = .ok (.istore 4, 2) := by decide +kernel
theorem dX6_weigh_45 : decode cX6_weigh 45 = .ok (.aload_n 0, 1) := by decide +kernel
theorem dX6_weigh_46 : decode cX6_weigh 46 = .ok (.iload_n 1, 1) := by decide +kernel
theorem dX6_weigh_47 : decode cX6_weigh 47 = .ok (.iload_n 3, 1) := by decide +kernel
theorem dX6_weigh_48 : decode cX6_weigh 48 = .ok (.iload_n 2, 1) := by decide +kernel
theorem dX6_weigh_49 : decode cX6_weigh 49 = .ok (.aload_n 0, 1) := by decide +kernel
theorem dX6_weigh_50 : decode cX6_weigh 50 = .ok (.getfield 27, 3) := by decide +kernel
theorem dX6_weigh_53 : decode cX6_weigh 53 = .ok (.getfield 68, 3) := by decide +kernel
theorem dX6_weigh_56 : decode cX6_weigh 56 = .ok (.iload_n 1, 1) := by decide +kernel
theorem dX6_weigh_57 : decode cX6_weigh 57 = .ok (.iaload, 1) := by decide +kernel
theorem dX6_weigh_58 : decode cX6_weigh 58 = .ok (.invokevirtual 71, 3) := by decide +kernel
theorem dX6_weigh_61 : decode cX6_weigh 61 = .ok (.istore 5, 2) := by decide +kernel
theorem dX6_weigh_63 : decode cX6_weigh 63 = .ok (.aload_n 0, 1) := by decide +kernel
theorem dX6_weigh_64 : decode cX6_weigh 64 = .ok (.getfield 17, 3) := by decide +kernel
theorem dX6_weigh_67 : decode cX6_weigh 67 = .ok (.iload 4, 2) := by decide +kernel
theorem dX6_weigh_69 : decode cX6_weigh 69 = .ok (.iaload, 1) := by decide +kernel
theorem dX6_weigh_70 : decode cX6_weigh 70 = .ok (.iconst (-1), 1) := by decide +kernel
theorem dX6_weigh_71 : decode cX6_weigh 71 = .ok (.if_icmp .eq 15, 3) := by decide +kernel
theorem dX6_weigh_74 : decode cX6_weigh 74 = .ok (.iload 5, 2) := by decide +kernel
theorem dX6_weigh_76 : decode cX6_weigh 76 = .ok (.aload_n 0, 1) := by decide +kernel
theorem dX6_weigh_77 : decode cX6_weigh 77 = .ok (.getfield 17, 3) := by decide +kernel
theorem dX6_weigh_80 : decode cX6_weigh 80 = .ok (.iload 4, 2) := by decide +kernel
theorem dX6_weigh_82 : decode cX6_weigh 82 = .ok (.iaload, 1) := by decide +kernel
theorem dX6_weigh_83 : decode cX6_weigh 83 = .ok (.if_icmp .ge 12, 3) := by decide +kernel
theorem dX6_weigh_86 : decode cX6_weigh 86 = .ok (.aload_n 0, 1) := by decide +kernel
theorem dX6_weigh_87 : decode cX6_weigh 87 = .ok (.getfield 17, 3) := by decide +kernel
theorem dX6_weigh_90 : decode cX6_weigh 90 = .ok (.iload 4, 2) := by decide +kernel
theorem dX6_weigh_92 : decode cX6_weigh 92 = .ok (.iload 5, 2) := by decide +kernel
theorem dX6_weigh_94 : decode cX6_weigh 94 = .ok (.iastore, 1) := by decide +kernel
theorem dX6_weigh_95 : decode cX6_weigh 95 = .ok (.iinc 3 1, 3) := by decide +kernel
theorem dX6_weigh_98 : decode cX6_weigh 98 = .ok (.goto (-96), 3) := by decide +kernel
theorem dX6_weigh_101 : decode cX6_weigh 101 = .ok (.return_, 1) := by decide +kernel
theorem dX6_leastOf_0 : decode cX6_leastOf 0 = .ok (.aload_n 0, 1) := by decide +kernel
theorem dX6_leastOf_1 : decode cX6_leastOf 1 = .ok (.getfield 17, 3) := by decide +kernel
theorem dX6_leastOf_4 : decode cX6_leastOf 4 = .ok (.iload_n 1, 1) := by decide +kernel
theorem dX6_leastOf_5 : decode cX6_leastOf 5 = .ok (.iload_n 2, 1) := by decide +kernel
theorem dX6_leastOf_6 : decode cX6_leastOf 6 = .ok (.iload_n 3, 1) := by decide +kernel
theorem dX6_leastOf_7 : decode cX6_leastOf 7 = .ok (.invokestatic 64, 3) := by decide +kernel
theorem dX6_leastOf_10 : decode cX6_leastOf 10 = .ok (.iaload, 1) := by decide +kernel
theorem dX6_leastOf_11 : decode cX6_leastOf 11 = .ok (.ireturn, 1) := by decide +kernel
theorem dX6_isClause_0 : decode cX6_isClause 0 = .ok (.aload_n 0, 1) := by decide +kernel
theorem dX6_isClause_1 : decode cX6_isClause 1 = .ok (.getfield 27, 3) := by decide +kernel
theorem dX6_isClause_4 : decode cX6_isClause 4 = .ok (.iload_n 1, 1) := by decide +kernel
theorem dX6_isClause_5 : decode cX6_isClause 5 = .ok (.iload_n 2, 1) := by decide +kernel
theorem dX6_isClause_6 : decode cX6_isClause 6 = .ok (.invokevirtual 75, 3) := by decide +kernel
theorem dX6_isClause_9 : decode cX6_isClause 9 = .ok (.ifCond .eq 23, 3) := by decide +kernel
theorem dX6_isClause_12 : decode cX6_isClause 12 = .ok (.aload_n 0, 1) := by decide +kernel
theorem dX6_isClause_13 : decode cX6_isClause 13 = .ok (.getfield 31, 3) := by decide +kernel
theorem dX6_isClause_16 : decode cX6_isClause 16 = .ok (.getfield 79, 3) := by decide +kernel
theorem dX6_isClause_19 : decode cX6_isClause 19 = .ok (.iload_n 1, 1) := by decide +kernel
theorem dX6_isClause_20 : decode cX6_isClause 20 = .ok (.iload_n 2, 1) := by decide +kernel
theorem dX6_isClause_21 : decode cX6_isClause 21 = .ok (.invokestatic 60, 3) := by decide +kernel
theorem dX6_isClause_24 : decode cX6_isClause 24 = .ok (.iaload, 1) := by decide +kernel
theorem dX6_isClause_25 : decode cX6_isClause 25 = .ok (.ifCond .eq 7, 3) := by decide +kernel
theorem dX6_isClause_28 : decode cX6_isClause 28 = .ok (.iconst 1, 1) := by decide +kernel
theorem dX6_isClause_29 : decode cX6_isClause 29 = .ok (.goto 4, 3) := by decide +kernel
theorem dX6_isClause_32 : decode cX6_isClause 32 = .ok (.iconst 0, 1) := by decide +kernel
theorem dX6_isClause_33 : decode cX6_isClause 33 = .ok (.ireturn, 1) := by decide +kernel
theorem dX6_isBoundBy_0 : decode cX6_isBoundBy 0 = .ok (.aload_n 0, 1) := by decide +kernel
theorem dX6_isBoundBy_1 : decode cX6_isBoundBy 1 = .ok (.iload_n 1, 1) := by decide +kernel
theorem dX6_isBoundBy_2 : decode cX6_isBoundBy 2 = .ok (.iload_n 2, 1) := by decide +kernel
theorem dX6_isBoundBy_3 : decode cX6_isBoundBy 3 = .ok (.invokevirtual 84, 3) := by decide +kernel
theorem dX6_isBoundBy_6 : decode cX6_isBoundBy 6 = .ok (.ifCond .eq 42, 3) := by decide +kernel
theorem dX6_isBoundBy_9 : decode cX6_isBoundBy 9 = .ok (.aload_n 0, 1) := by decide +kernel
theorem dX6_isBoundBy_10 : decode cX6_isBoundBy 10 = .ok (.getfield 27, 3) := by decide +kernel
theorem dX6_isBoundBy_13 : decode cX6_isBoundBy 13 = .ok (.iload_n 1, 1) := by decide +kernel
theorem dX6_isBoundBy_14 : decode cX6_isBoundBy 14 = .ok (.iload_n 2, 1) := by decide +kernel
theorem dX6_isBoundBy_15 : decode cX6_isBoundBy 15 = .ok (.iload_n 3, 1) := by decide +kernel
theorem dX6_isBoundBy_16 : decode cX6_isBoundBy 16 = .ok (.invokevirtual 87, 3) := by decide +kernel
theorem dX6_isBoundBy_19 : decode cX6_isBoundBy 19 = .ok (.ifCond .eq 29, 3) := by decide +kernel
theorem dX6_isBoundBy_22 : decode cX6_isBoundBy 22 = .ok (.aload_n 0, 1) := by decide +kernel
theorem dX6_isBoundBy_23 : decode cX6_isBoundBy 23 = .ok (.iload_n 1, 1) := by decide +kernel
theorem dX6_isBoundBy_24 : decode cX6_isBoundBy 24 = .ok (.iload_n 3, 1) := by decide +kernel
theorem dX6_isBoundBy_25 : decode cX6_isBoundBy 25 = .ok (.aload_n 0, 1) := by decide +kernel
theorem dX6_isBoundBy_26 : decode cX6_isBoundBy 26 = .ok (.getfield 27, 3) := by decide +kernel
theorem dX6_isBoundBy_29 : decode cX6_isBoundBy 29 = .ok (.getfield 57, 3) := by decide +kernel
theorem dX6_isBoundBy_32 : decode cX6_isBoundBy 32 = .ok (.iload_n 1, 1) := by decide +kernel
theorem dX6_isBoundBy_33 : decode cX6_isBoundBy 33 = .ok (.iload_n 2, 1) := by decide +kernel
theorem dX6_isBoundBy_34 : decode cX6_isBoundBy 34 = .ok (.invokestatic 60, 3) := by decide +kernel
theorem dX6_isBoundBy_37 : decode cX6_isBoundBy 37 = .ok (.iaload, 1) := by decide +kernel
theorem dX6_isBoundBy_38 : decode cX6_isBoundBy 38 = .ok (.invokevirtual 90, 3) := by decide +kernel
theorem dX6_isBoundBy_41 : decode cX6_isBoundBy 41 = .ok (.ifCond .ne 7, 3) := by decide +kernel
theorem dX6_isBoundBy_44 : decode cX6_isBoundBy 44 = .ok (.iconst 1, 1) := by decide +kernel
theorem dX6_isBoundBy_45 : decode cX6_isBoundBy 45 = .ok (.goto 4, 3) := by decide +kernel
theorem dX6_isBoundBy_48 : decode cX6_isBoundBy 48 = .ok (.iconst 0, 1) := by decide +kernel
theorem dX6_isBoundBy_49 : decode cX6_isBoundBy 49 = .ok (.ireturn, 1) := by decide +kernel
theorem dX6_isGloved_0 : decode cX6_isGloved 0 = .ok (.iconst 0, 1) := by decide +kernel
theorem dX6_isGloved_1 : decode cX6_isGloved 1 = .ok (.istore 4, 2) := by decide +kernel
theorem dX6_isGloved_3 : decode cX6_isGloved 3 = .ok (.iload 4, 2) := by decide +kernel
theorem dX6_isGloved_5 : decode cX6_isGloved 5 = .ok (.aload_n 0, 1) := by decide +kernel
theorem dX6_isGloved_6 : decode cX6_isGloved 6 = .ok (.getfield 27, 3) := by decide +kernel
theorem dX6_isGloved_9 : decode cX6_isGloved 9 = .ok (.getfield 50, 3) := by decide +kernel
theorem dX6_isGloved_12 : decode cX6_isGloved 12 = .ok (.iload_n 1, 1) := by decide +kernel
theorem dX6_isGloved_13 : decode cX6_isGloved 13 = .ok (.iaload, 1) := by decide +kernel
theorem dX6_isGloved_14 : decode cX6_isGloved 14 = .ok (.if_icmp .ge 61, 3) := by decide +kernel
theorem dX6_isGloved_17 : decode cX6_isGloved 17 = .ok (.iload_n 1, 1) := by decide +kernel
theorem dX6_isGloved_18 : decode cX6_isGloved 18 = .ok (.iload 4, 2) := by decide +kernel
theorem dX6_isGloved_20 : decode cX6_isGloved 20 = .ok (.invokestatic 60, 3) := by decide +kernel
theorem dX6_isGloved_23 : decode cX6_isGloved 23 = .ok (.istore 5, 2) := by decide +kernel
theorem dX6_isGloved_25 : decode cX6_isGloved 25 = .ok (.aload_n 0, 1) := by decide +kernel
theorem dX6_isGloved_26 : decode cX6_isGloved 26 = .ok (.getfield 27, 3) := by decide +kernel
theorem dX6_isGloved_29 : decode cX6_isGloved 29 = .ok (.getfield 93, 3) := by decide +kernel
theorem dX6_isGloved_32 : decode cX6_isGloved 32 = .ok (.iload 5, 2) := by decide +kernel
theorem dX6_isGloved_34 : decode cX6_isGloved 34 = .ok (.iaload, 1) := by decide +kernel
theorem dX6_isGloved_35 : decode cX6_isGloved 35 = .ok (.iconst 3, 1) := by decide +kernel
theorem dX6_isGloved_36 : decode cX6_isGloved 36 = .ok (.if_icmp .ne 33, 3) := by decide +kernel
theorem dX6_isGloved_39 : decode cX6_isGloved 39 = .ok (.aload_n 0, 1) := by decide +kernel
theorem dX6_isGloved_40 : decode cX6_isGloved 40 = .ok (.getfield 27, 3) := by decide +kernel
theorem dX6_isGloved_43 : decode cX6_isGloved 43 = .ok (.getfield 57, 3) := by decide +kernel
theorem dX6_isGloved_46 : decode cX6_isGloved 46 = .ok (.iload 5, 2) := by decide +kernel
theorem dX6_isGloved_48 : decode cX6_isGloved 48 = .ok (.iaload, 1) := by decide +kernel
theorem dX6_isGloved_49 : decode cX6_isGloved 49 = .ok (.iload_n 3, 1) := by decide +kernel
theorem dX6_isGloved_50 : decode cX6_isGloved 50 = .ok (.if_icmp .ne 19, 3) := by decide +kernel
theorem dX6_isGloved_53 : decode cX6_isGloved 53 = .ok (.aload_n 0, 1) := by decide +kernel
theorem dX6_isGloved_54 : decode cX6_isGloved 54 = .ok (.getfield 27, 3) := by decide +kernel
theorem dX6_isGloved_57 : decode cX6_isGloved 57 = .ok (.iload_n 1, 1) := by decide +kernel
theorem dX6_isGloved_58 : decode cX6_isGloved 58 = .ok (.iload 4, 2) := by decide +kernel
theorem dX6_isGloved_60 : decode cX6_isGloved 60 = .ok (.iload_n 2, 1) := by decide +kernel
theorem dX6_isGloved_61 : decode cX6_isGloved 61 = .ok (.invokevirtual 87, 3) := by decide +kernel
theorem dX6_isGloved_64 : decode cX6_isGloved 64 = .ok (.ifCond .eq 5, 3) := by decide +kernel
theorem dX6_isGloved_67 : decode cX6_isGloved 67 = .ok (.iconst 1, 1) := by decide +kernel
theorem dX6_isGloved_68 : decode cX6_isGloved 68 = .ok (.ireturn, 1) := by decide +kernel
theorem dX6_isGloved_69 : decode cX6_isGloved 69 = .ok (.iinc 4 1, 3) := by decide +kernel
theorem dX6_isGloved_72 : decode cX6_isGloved 72 = .ok (.goto (-69), 3) := by decide +kernel
theorem dX6_isGloved_75 : decode cX6_isGloved 75 = .ok (.iconst 0, 1) := by decide +kernel
theorem dX6_isGloved_76 : decode cX6_isGloved 76 = .ok (.ireturn, 1) := by decide +kernel
theorem dX6_limitOf_0 : decode cX6_limitOf 0 = .ok (.iload_n 1, 1) := by decide +kernel
theorem dX6_limitOf_1 : decode cX6_limitOf 1 = .ok (.iload_n 2, 1) := by decide +kernel
theorem dX6_limitOf_2 : decode cX6_limitOf 2 = .ok (.invokestatic 60, 3) := by decide +kernel
theorem dX6_limitOf_5 : decode cX6_limitOf 5 = .ok (.istore 5, 2) := by decide +kernel
theorem dX6_limitOf_7 : decode cX6_limitOf 7 = .ok (.aload_n 0, 1) := by decide +kernel
theorem dX6_limitOf_8 : decode cX6_limitOf 8 = .ok (.getfield 27, 3) := by decide +kernel
theorem dX6_limitOf_11 : decode cX6_limitOf 11 = .ok (.getfield 96, 3) := by decide +kernel
theorem dX6_limitOf_14 : decode cX6_limitOf 14 = .ok (.ifCond .ne 17, 3) := by decide +kernel
theorem dX6_limitOf_17 : decode cX6_limitOf 17 = .ok (.aload_n 0, 1) := by decide +kernel
theorem dX6_limitOf_18 : decode cX6_limitOf 18 = .ok (.getfield 31, 3) := by decide +kernel
theorem dX6_limitOf_21 : decode cX6_limitOf 21 = .ok (.getfield 79, 3) := by decide +kernel
theorem dX6_limitOf_24 : decode cX6_limitOf 24 = .ok (.iload 5, 2) := by decide +kernel
theorem dX6_limitOf_26 : decode cX6_limitOf 26 = .ok (.iaload, 1) := by decide +kernel
theorem dX6_limitOf_27 : decode cX6_limitOf 27 = .ok (.iload 4, 2) := by decide +kernel
theorem dX6_limitOf_29 : decode cX6_limitOf 29 = .ok (.imul, 1) := by decide +kernel
theorem dX6_limitOf_30 : decode cX6_limitOf 30 = .ok (.ireturn, 1) := by decide +kernel
theorem dX6_limitOf_31 : decode cX6_limitOf 31 = .ok (.aload_n 0, 1) := by decide +kernel
theorem dX6_limitOf_32 : decode cX6_limitOf 32 = .ok (.getfield 11, 3) := by decide +kernel
theorem dX6_limitOf_35 : decode cX6_limitOf 35 = .ok (.iconst 0, 1) := by decide +kernel
theorem dX6_limitOf_36 : decode cX6_limitOf 36 = .ok (.aload_n 0, 1) := by decide +kernel
theorem dX6_limitOf_37 : decode cX6_limitOf 37 = .ok (.getfield 31, 3) := by decide +kernel
theorem dX6_limitOf_40 : decode cX6_limitOf 40 = .ok (.getfield 79, 3) := by decide +kernel
theorem dX6_limitOf_43 : decode cX6_limitOf 43 = .ok (.iload 5, 2) := by decide +kernel
theorem dX6_limitOf_45 : decode cX6_limitOf 45 = .ok (.iaload, 1) := by decide +kernel
theorem dX6_limitOf_46 : decode cX6_limitOf 46 = .ok (.iastore, 1) := by decide +kernel
theorem dX6_limitOf_47 : decode cX6_limitOf 47 = .ok (.aload_n 0, 1) := by decide +kernel
theorem dX6_limitOf_48 : decode cX6_limitOf 48 = .ok (.getfield 11, 3) := by decide +kernel
theorem dX6_limitOf_51 : decode cX6_limitOf 51 = .ok (.iconst 1, 1) := by decide +kernel
theorem dX6_limitOf_52 : decode cX6_limitOf 52 = .ok (.aload_n 0, 1) := by decide +kernel
theorem dX6_limitOf_53 : decode cX6_limitOf 53 = .ok (.getfield 27, 3) := by decide +kernel
theorem dX6_limitOf_56 : decode cX6_limitOf 56 = .ok (.getfield 57, 3) := by decide +kernel
theorem dX6_limitOf_59 : decode cX6_limitOf 59 = .ok (.iload 5, 2) := by decide +kernel
theorem dX6_limitOf_61 : decode cX6_limitOf 61 = .ok (.iaload, 1) := by decide +kernel
theorem dX6_limitOf_62 : decode cX6_limitOf 62 = .ok (.iastore, 1) := by decide +kernel
theorem dX6_limitOf_63 : decode cX6_limitOf 63 = .ok (.aload_n 0, 1) := by decide +kernel
theorem dX6_limitOf_64 : decode cX6_limitOf 64 = .ok (.getfield 11, 3) := by decide +kernel
theorem dX6_limitOf_67 : decode cX6_limitOf 67 = .ok (.iconst 2, 1) := by decide +kernel
theorem dX6_limitOf_68 : decode cX6_limitOf 68 = .ok (.iload 4, 2) := by decide +kernel
theorem dX6_limitOf_70 : decode cX6_limitOf 70 = .ok (.iastore, 1) := by decide +kernel
theorem dX6_limitOf_71 : decode cX6_limitOf 71 = .ok (.aload_n 0, 1) := by decide +kernel
theorem dX6_limitOf_72 : decode cX6_limitOf 72 = .ok (.getfield 11, 3) := by decide +kernel
theorem dX6_limitOf_75 : decode cX6_limitOf 75 = .ok (.iconst 3, 1) := by decide +kernel
theorem dX6_limitOf_76 : decode cX6_limitOf 76 = .ok (.aload_n 0, 1) := by decide +kernel
theorem dX6_limitOf_77 : decode cX6_limitOf 77 = .ok (.getfield 27, 3) := by decide +kernel
theorem dX6_limitOf_80 : decode cX6_limitOf 80 = .ok (.getfield 93, 3) := by decide +kernel
theorem dX6_limitOf_83 : decode cX6_limitOf 83 = .ok (.iload 5, 2) := by decide +kernel
theorem dX6_limitOf_85 : decode cX6_limitOf 85 = .ok (.iaload, 1) := by decide +kernel
theorem dX6_limitOf_86 : decode cX6_limitOf 86 = .ok (.iconst 2, 1) := by decide +kernel
theorem dX6_limitOf_87 : decode cX6_limitOf 87 = .ok (.if_icmp .ne 7, 3) := by decide +kernel
theorem dX6_limitOf_90 : decode cX6_limitOf 90 = .ok (.iconst 1, 1) := by decide +kernel
theorem dX6_limitOf_91 : decode cX6_limitOf 91 = .ok (.goto 4, 3) := by decide +kernel
theorem dX6_limitOf_94 : decode cX6_limitOf 94 = .ok (.iconst 0, 1) := by decide +kernel
theorem dX6_limitOf_95 : decode cX6_limitOf 95 = .ok (.iastore, 1) := by decide +kernel
theorem dX6_limitOf_96 : decode cX6_limitOf 96 = .ok (.aload_n 0, 1) := by decide +kernel
theorem dX6_limitOf_97 : decode cX6_limitOf 97 = .ok (.getfield 11, 3) := by decide +kernel
theorem dX6_limitOf_100 : decode cX6_limitOf 100 = .ok (.iconst 4, 1) := by decide +kernel
theorem dX6_limitOf_101 : decode cX6_limitOf 101 = .ok (.iload_n 2, 1) := by decide +kernel
theorem dX6_limitOf_102 : decode cX6_limitOf 102 = .ok (.iastore, 1) := by decide +kernel
theorem dX6_limitOf_103 : decode cX6_limitOf 103 = .ok (.aload_n 0, 1) := by decide +kernel
theorem dX6_limitOf_104 : decode cX6_limitOf 104 = .ok (.getfield 11, 3) := by decide +kernel
theorem dX6_limitOf_107 : decode cX6_limitOf 107 = .ok (.iconst 5, 1) := by decide +kernel
theorem dX6_limitOf_108 : decode cX6_limitOf 108 = .ok (.iload_n 3, 1) := by decide +kernel
theorem dX6_limitOf_109 : decode cX6_limitOf 109 = .ok (.ifCond .ne 7, 3) := by decide +kernel
theorem dX6_limitOf_112 : decode cX6_limitOf 112 = .ok (.iconst 1, 1) := by decide +kernel
theorem dX6_limitOf_113 : decode cX6_limitOf 113 = .ok (.goto 4, 3) := by decide +kernel
theorem dX6_limitOf_116 : decode cX6_limitOf 116 = .ok (.iconst 0, 1) := by decide +kernel
theorem dX6_limitOf_117 : decode cX6_limitOf 117 = .ok (.iastore, 1) := by decide +kernel
theorem dX6_limitOf_118 : decode cX6_limitOf 118 = .ok (.iconst 0, 1) := by decide +kernel
theorem dX6_limitOf_119 : decode cX6_limitOf 119 = .ok (.bipush 99, 2) := by decide +kernel
theorem dX6_limitOf_121 : decode cX6_limitOf 121 = .ok (.aload_n 0, 1) := by decide +kernel
theorem dX6_limitOf_122 : decode cX6_limitOf 122 = .ok (.getfield 27, 3) := by decide +kernel
theorem dX6_limitOf_125 : decode cX6_limitOf 125 = .ok (.getfield 100, 3) := by decide +kernel
theorem dX6_limitOf_128 : decode cX6_limitOf 128 = .ok (.aload_n 0, 1) := by decide +kernel
theorem dX6_limitOf_129 : decode cX6_limitOf 129 = .ok (.getfield 11, 3) := by decide +kernel
theorem dX6_limitOf_132 : decode cX6_limitOf 132 = .ok (.invokevirtual 104, 3) := by decide +kernel
theorem dX6_limitOf_135 : decode cX6_limitOf 135 = .ok (.invokestatic 108, 3) := by decide +kernel
theorem dX6_limitOf_138 : decode cX6_limitOf 138 = .ok (.invokestatic 113, 3) := by decide +kernel
theorem dX6_limitOf_141 : decode cX6_limitOf 141 = .ok (.ireturn, 1) := by decide +kernel
theorem dX6_boundTo_0 : decode cX6_boundTo 0 = .ok (.iconst (-1), 1) := by decide +kernel
theorem dX6_boundTo_1 : decode cX6_boundTo 1 = .ok (.istore_n 3, 1) := by decide +kernel
theorem dX6_boundTo_2 : decode cX6_boundTo 2 = .ok (.iconst 0, 1) := by decide +kernel
theorem dX6_boundTo_3 : decode cX6_boundTo 3 = .ok (.istore 4, 2) := by decide +kernel
theorem dX6_boundTo_5 : decode cX6_boundTo 5 = .ok (.iload 4, 2) := by decide +kernel
theorem dX6_boundTo_7 : decode cX6_boundTo 7 = .ok (.aload_n 0, 1) := by decide +kernel
theorem dX6_boundTo_8 : decode cX6_boundTo 8 = .ok (.getfield 27, 3) := by decide +kernel
theorem dX6_boundTo_11 : decode cX6_boundTo 11 = .ok (.getfield 41, 3) := by decide +kernel
theorem dX6_boundTo_14 : decode cX6_boundTo 14 = .ok (.if_icmp .ge 63, 3) := by decide +kernel
theorem dX6_boundTo_17 : decode cX6_boundTo 17 = .ok (.aload_n 0, 1) := by decide +kernel
theorem dX6_boundTo_18 : decode cX6_boundTo 18 = .ok (.iload 4, 2) := by decide +kernel
theorem dX6_boundTo_20 : decode cX6_boundTo 20 = .ok (.iload_n 1, 1) := by decide +kernel
theorem dX6_boundTo_21 : decode cX6_boundTo 21 = .ok (.invokevirtual 116, 3) := by decide +kernel
theorem dX6_boundTo_24 : decode cX6_boundTo 24 = .ok (.istore 5, 2) := by decide +kernel
theorem dX6_boundTo_26 : decode cX6_boundTo 26 = .ok (.iload 5, 2) := by decide +kernel
theorem dX6_boundTo_28 : decode cX6_boundTo 28 = .ok (.iconst (-1), 1) := by decide +kernel
theorem dX6_boundTo_29 : decode cX6_boundTo 29 = .ok (.if_icmp .ne 7, 3) := by decide +kernel
theorem dX6_boundTo_32 : decode cX6_boundTo 32 = .ok (.iconst (-1), 1) := by decide +kernel
theorem dX6_boundTo_33 : decode cX6_boundTo 33 = .ok (.goto 16, 3) := by decide +kernel
theorem dX6_boundTo_36 : decode cX6_boundTo 36 = .ok (.aload_n 0, 1) := by decide +kernel
theorem dX6_boundTo_37 : decode cX6_boundTo 37 = .ok (.getfield 17, 3) := by decide +kernel
theorem dX6_boundTo_40 : decode cX6_boundTo 40 = .ok (.iload 4, 2) := by decide +kernel
theorem dX6_boundTo_42 : decode cX6_boundTo 42 = .ok (.iload 5, 2) := by decide +kernel
theorem dX6_boundTo_44 : decode cX6_boundTo 44 = .ok (.iload_n 2, 1) := by decide +kernel
theorem dX6_boundTo_45 : decode cX6_boundTo 45 = .ok (.invokestatic 64, 3) := by decide +kernel
theorem dX6_boundTo_48 : decode cX6_boundTo 48 = .ok (.iaload, 1) := by decide +kernel
theorem dX6_boundTo_49 : decode cX6_boundTo 49 = .ok (.istore 6, 2) := by decide +kernel
theorem dX6_boundTo_51 : decode cX6_boundTo 51 = .ok (.iload 6, 2) := by decide +kernel
theorem dX6_boundTo_53 : decode cX6_boundTo 53 = .ok (.iconst (-1), 1) := by decide +kernel
theorem dX6_boundTo_54 : decode cX6_boundTo 54 = .ok (.if_icmp .eq 17, 3) := by decide +kernel
theorem dX6_boundTo_57 : decode cX6_boundTo 57 = .ok (.iload_n 3, 1) := by decide +kernel
theorem dX6_boundTo_58 : decode cX6_boundTo 58 = .ok (.iconst (-1), 1) := by decide +kernel
theorem dX6_boundTo_59 : decode cX6_boundTo 59 = .ok (.if_icmp .eq 9, 3) := by decide +kernel
theorem dX6_boundTo_62 : decode cX6_boundTo 62 = .ok (.iload 6, 2) := by decide +kernel
theorem dX6_boundTo_64 : decode cX6_boundTo 64 = .ok (.iload_n 3, 1) := by decide +kernel
theorem dX6_boundTo_65 : decode cX6_boundTo 65 = .ok (.if_icmp .ge 6, 3) := by decide +kernel
theorem dX6_boundTo_68 : decode cX6_boundTo 68 = .ok (.iload 6, 2) := by decide +kernel
theorem dX6_boundTo_70 : decode cX6_boundTo 70 = .ok (.istore_n 3, 1) := by decide +kernel
theorem dX6_boundTo_71 : decode cX6_boundTo 71 = .ok (.iinc 4 1, 3) := by decide +kernel
theorem dX6_boundTo_74 : decode cX6_boundTo 74 = .ok (.goto (-69), 3) := by decide +kernel
theorem dX6_boundTo_77 : decode cX6_boundTo 77 = .ok (.iload_n 3, 1) := by decide +kernel
theorem dX6_boundTo_78 : decode cX6_boundTo 78 = .ok (.ireturn, 1) := by decide +kernel
theorem dX6_sideOf_0 : decode cX6_sideOf 0 = .ok (.aload_n 0, 1) := by decide +kernel
theorem dX6_sideOf_1 : decode cX6_sideOf 1 = .ok (.getfield 27, 3) := by decide +kernel
theorem dX6_sideOf_4 : decode cX6_sideOf 4 = .ok (.getfield 119, 3) := by decide +kernel
theorem dX6_sideOf_7 : decode cX6_sideOf 7 = .ok (.iload_n 1, 1) := by decide +kernel
theorem dX6_sideOf_8 : decode cX6_sideOf 8 = .ok (.iaload, 1) := by decide +kernel
theorem dX6_sideOf_9 : decode cX6_sideOf 9 = .ok (.iload_n 2, 1) := by decide +kernel
theorem dX6_sideOf_10 : decode cX6_sideOf 10 = .ok (.if_icmp .ne 5, 3) := by decide +kernel
theorem dX6_sideOf_13 : decode cX6_sideOf 13 = .ok (.iconst 0, 1) := by decide +kernel
theorem dX6_sideOf_14 : decode cX6_sideOf 14 = .ok (.ireturn, 1) := by decide +kernel
theorem dX6_sideOf_15 : decode cX6_sideOf 15 = .ok (.aload_n 0, 1) := by decide +kernel
theorem dX6_sideOf_16 : decode cX6_sideOf 16 = .ok (.getfield 27, 3) := by decide +kernel
theorem dX6_sideOf_19 : decode cX6_sideOf 19 = .ok (.getfield 122, 3) := by decide +kernel
theorem dX6_sideOf_22 : decode cX6_sideOf 22 = .ok (.iload_n 1, 1) := by decide +kernel
theorem dX6_sideOf_23 : decode cX6_sideOf 23 = .ok (.iaload, 1) := by decide +kernel
theorem dX6_sideOf_24 : decode cX6_sideOf 24 = .ok (.iload_n 2, 1) := by decide +kernel
theorem dX6_sideOf_25 : decode cX6_sideOf 25 = .ok (.if_icmp .ne 7, 3) := by decide +kernel
theorem dX6_sideOf_28 : decode cX6_sideOf 28 = .ok (.iconst 1, 1) := by decide +kernel
theorem dX6_sideOf_29 : decode cX6_sideOf 29 = .ok (.goto 4, 3) := by decide +kernel
theorem dX6_sideOf_32 : decode cX6_sideOf 32 = .ok (.iconst (-1), 1) := by decide +kernel
theorem dX6_sideOf_33 : decode cX6_sideOf 33 = .ok (.ireturn, 1) := by decide +kernel
theorem dX6_hasStamped_0 : decode cX6_hasStamped 0 = .ok (.aload_n 0, 1) := by decide +kernel
theorem dX6_hasStamped_1 : decode cX6_hasStamped 1 = .ok (.iload_n 1, 1) := by decide +kernel
theorem dX6_hasStamped_2 : decode cX6_hasStamped 2 = .ok (.iload_n 2, 1) := by decide +kernel
theorem dX6_hasStamped_3 : decode cX6_hasStamped 3 = .ok (.invokevirtual 125, 3) := by decide +kernel
theorem dX6_hasStamped_6 : decode cX6_hasStamped 6 = .ok (.istore 4, 2) := by decide +kernel
theorem dX6_hasStamped_8 : decode cX6_hasStamped 8 = .ok (.iload 4, 2) := by decide +kernel
theorem dX6_hasStamped_10 : decode cX6_hasStamped 10 = .ok (.iconst (-1), 1) := by decide +kernel
theorem dX6_hasStamped_11 : decode cX6_hasStamped 11 = .ok (.if_icmp .eq 28, 3) := by decide +kernel
theorem dX6_hasStamped_14 : decode cX6_hasStamped 14 = .ok (.aload_n 0, 1) := by decide +kernel
theorem dX6_hasStamped_15 : decode cX6_hasStamped 15 = .ok (.getfield 31, 3) := by decide +kernel
theorem dX6_hasStamped_18 : decode cX6_hasStamped 18 = .ok (.getfield 128, 3) := by decide +kernel
theorem dX6_hasStamped_21 : decode cX6_hasStamped 21 = .ok (.iload_n 1, 1) := by decide +kernel
theorem dX6_hasStamped_22 : decode cX6_hasStamped 22 = .ok (.bipush 8, 2) := by decide +kernel
theorem dX6_hasStamped_24 : decode cX6_hasStamped 24 = .ok (.imul, 1) := by decide +kernel
theorem dX6_hasStamped_25 : decode cX6_hasStamped 25 = .ok (.iload_n 2, 1) := by decide +kernel
theorem dX6_hasStamped_26 : decode cX6_hasStamped 26 = .ok (.iadd, 1) := by decide +kernel
theorem dX6_hasStamped_27 : decode cX6_hasStamped 27 = .ok (.iaload, 1) := by decide +kernel
theorem dX6_hasStamped_28 : decode cX6_hasStamped 28 = .ok (.iload_n 3, 1) := by decide +kernel
theorem dX6_hasStamped_29 : decode cX6_hasStamped 29 = .ok (.iadd, 1) := by decide +kernel
theorem dX6_hasStamped_30 : decode cX6_hasStamped 30 = .ok (.iload 4, 2) := by decide +kernel
theorem dX6_hasStamped_32 : decode cX6_hasStamped 32 = .ok (.if_icmp .le 7, 3) := by decide +kernel
theorem dX6_hasStamped_35 : decode cX6_hasStamped 35 = .ok (.iconst 1, 1) := by decide +kernel
theorem dX6_hasStamped_36 : decode cX6_hasStamped 36 = .ok (.goto 4, 3) := by decide +kernel
theorem dX6_hasStamped_39 : decode cX6_hasStamped 39 = .ok (.iconst 0, 1) := by decide +kernel
theorem dX6_hasStamped_40 : decode cX6_hasStamped 40 = .ok (.ireturn, 1) := by decide +kernel
theorem dX6_countStamped_0 : decode cX6_countStamped 0 = .ok (.iconst 0, 1) := by decide +kernel
theorem dX6_countStamped_1 : decode cX6_countStamped 1 = .ok (.istore_n 1, 1) := by decide +kernel
theorem dX6_countStamped_2 : decode cX6_countStamped 2 = .ok (.iconst 0, 1) := by decide +kernel
theorem dX6_countStamped_3 : decode cX6_countStamped 3 = .ok (.istore_n 2, 1) := by decide +kernel
theorem dX6_countStamped_4 : decode cX6_countStamped 4 = .ok (.iload_n 2, 1) := by decide +kernel
theorem dX6_countStamped_5 : decode cX6_countStamped 5 = .ok (.aload_n 0, 1) := by decide +kernel
theorem dX6_countStamped_6 : decode cX6_countStamped 6 = .ok (.getfield 27, 3) := by decide +kernel
theorem dX6_countStamped_9 : decode cX6_countStamped 9 = .ok (.getfield 131, 3) := by decide +kernel
theorem dX6_countStamped_12 : decode cX6_countStamped 12 = .ok (.if_icmp .ge 60, 3) := by decide +kernel
theorem dX6_countStamped_15 : decode cX6_countStamped 15 = .ok (.iconst 0, 1) := by decide +kernel
theorem dX6_countStamped_16 : decode cX6_countStamped 16 = .ok (.istore_n 3, 1) := by decide +kernel
theorem dX6_countStamped_17 : decode cX6_countStamped 17 = .ok (.iconst 0, 1) := by decide +kernel
theorem dX6_countStamped_18 : decode cX6_countStamped 18 = .ok (.istore 4, 2) := by decide +kernel
theorem dX6_countStamped_20 : decode cX6_countStamped 20 = .ok (.iload 4, 2) := by decide +kernel
theorem dX6_countStamped_22 : decode cX6_countStamped 22 = .ok (.bipush 8, 2) := by decide +kernel
theorem dX6_countStamped_24 : decode cX6_countStamped 24 = .ok (.if_icmp .ge 30, 3) := by decide +kernel
theorem dX6_countStamped_27 : decode cX6_countStamped 27 = .ok (.iload_n 3, 1) := by decide +kernel
theorem dX6_countStamped_28 : decode cX6_countStamped 28 = .ok (.ifCond .ne 14, 3) := by decide +kernel
theorem dX6_countStamped_31 : decode cX6_countStamped 31 = .ok (.aload_n 0, 1) := by decide +kernel
theorem dX6_countStamped_32 : decode cX6_countStamped 32 = .ok (.iload_n 2, 1) := by decide +kernel
theorem dX6_countStamped_33 : decode cX6_countStamped 33 = .ok (.iload 4, 2) := by decide +kernel
theorem dX6_countStamped_35 : decode cX6_countStamped 35 = .ok (.iconst 0, 1) := by decide +kernel
theorem dX6_countStamped_36 : decode cX6_countStamped 36 = .ok (.invokevirtual 134, 3) := by decide +kernel
theorem dX6_countStamped_39 : decode cX6_countStamped 39 = .ok (.ifCond .eq 7, 3) := by decide +kernel
theorem dX6_countStamped_42 : decode cX6_countStamped 42 = .ok (.iconst 1, 1) := by decide +kernel
theorem dX6_countStamped_43 : decode cX6_countStamped 43 = .ok (.goto 4, 3) := by decide +kernel
theorem dX6_countStamped_46 : decode cX6_countStamped 46 = .ok (.iconst 0, 1) := by decide +kernel
theorem dX6_countStamped_47 : decode cX6_countStamped 47 = .ok (.istore_n 3, 1) := by decide +kernel
theorem dX6_countStamped_48 : decode cX6_countStamped 48 = .ok (.iinc 4 1, 3) := by decide +kernel
theorem dX6_countStamped_51 : decode cX6_countStamped 51 = .ok (.goto (-31), 3) := by decide +kernel
theorem dX6_countStamped_54 : decode cX6_countStamped 54 = .ok (.iload_n 1, 1) := by decide +kernel
theorem dX6_countStamped_55 : decode cX6_countStamped 55 = .ok (.iload_n 3, 1) := by decide +kernel
theorem dX6_countStamped_56 : decode cX6_countStamped 56 = .ok (.ifCond .eq 7, 3) := by decide +kernel
theorem dX6_countStamped_59 : decode cX6_countStamped 59 = .ok (.iconst 1, 1) := by decide +kernel
theorem dX6_countStamped_60 : decode cX6_countStamped 60 = .ok (.goto 4, 3) := by decide +kernel
theorem dX6_countStamped_63 : decode cX6_countStamped 63 = .ok (.iconst 0, 1) := by decide +kernel
theorem dX6_countStamped_64 : decode cX6_countStamped 64 = .ok (.iadd, 1) := by decide +kernel
theorem dX6_countStamped_65 : decode cX6_countStamped 65 = .ok (.istore_n 1, 1) := by decide +kernel
theorem dX6_countStamped_66 : decode cX6_countStamped 66 = .ok (.iinc 2 1, 3) := by decide +kernel
theorem dX6_countStamped_69 : decode cX6_countStamped 69 = .ok (.goto (-65), 3) := by decide +kernel
theorem dX6_countStamped_72 : decode cX6_countStamped 72 = .ok (.iload_n 1, 1) := by decide +kernel
theorem dX6_countStamped_73 : decode cX6_countStamped 73 = .ok (.ireturn, 1) := by decide +kernel
theorem dX6_countOf_0 : decode cX6_countOf 0 = .ok (.iconst 0, 1) := by decide +kernel
theorem dX6_countOf_1 : decode cX6_countOf 1 = .ok (.istore 4, 2) := by decide +kernel
theorem dX6_countOf_3 : decode cX6_countOf 3 = .ok (.iconst 0, 1) := by decide +kernel
theorem dX6_countOf_4 : decode cX6_countOf 4 = .ok (.istore 5, 2) := by decide +kernel
theorem dX6_countOf_6 : decode cX6_countOf 6 = .ok (.iload 5, 2) := by decide +kernel
theorem dX6_countOf_8 : decode cX6_countOf 8 = .ok (.aload_n 0, 1) := by decide +kernel
theorem dX6_countOf_9 : decode cX6_countOf 9 = .ok (.getfield 27, 3) := by decide +kernel
theorem dX6_countOf_12 : decode cX6_countOf 12 = .ok (.getfield 41, 3) := by decide +kernel
theorem dX6_countOf_15 : decode cX6_countOf 15 = .ok (.if_icmp .ge 47, 3) := by decide +kernel
theorem dX6_countOf_18 : decode cX6_countOf 18 = .ok (.aload_n 0, 1) := by decide +kernel
theorem dX6_countOf_19 : decode cX6_countOf 19 = .ok (.iload 5, 2) := by decide +kernel
theorem dX6_countOf_21 : decode cX6_countOf 21 = .ok (.iload_n 1, 1) := by decide +kernel
theorem dX6_countOf_22 : decode cX6_countOf 22 = .ok (.invokevirtual 116, 3) := by decide +kernel
theorem dX6_countOf_25 : decode cX6_countOf 25 = .ok (.istore 6, 2) := by decide +kernel
theorem dX6_countOf_27 : decode cX6_countOf 27 = .ok (.iload 6, 2) := by decide +kernel
theorem dX6_countOf_29 : decode cX6_countOf 29 = .ok (.iconst (-1), 1) := by decide +kernel
theorem dX6_countOf_30 : decode cX6_countOf 30 = .ok (.if_icmp .eq 26, 3) := by decide +kernel
theorem dX6_countOf_33 : decode cX6_countOf 33 = .ok (.iload_n 3, 1) := by decide +kernel
theorem dX6_countOf_34 : decode cX6_countOf 34 = .ok (.iload 5, 2) := by decide +kernel
theorem dX6_countOf_36 : decode cX6_countOf 36 = .ok (.ishr, 1) := by decide +kernel
theorem dX6_countOf_37 : decode cX6_countOf 37 = .ok (.iconst 1, 1) := by decide +kernel
theorem dX6_countOf_38 : decode cX6_countOf 38 = .ok (.iand, 1) := by decide +kernel
theorem dX6_countOf_39 : decode cX6_countOf 39 = .ok (.ifCond .eq 17, 3) := by decide +kernel
theorem dX6_countOf_42 : decode cX6_countOf 42 = .ok (.iload 4, 2) := by decide +kernel
theorem dX6_countOf_44 : decode cX6_countOf 44 = .ok (.aload_n 0, 1) := by decide +kernel
theorem dX6_countOf_45 : decode cX6_countOf 45 = .ok (.iload 5, 2) := by decide +kernel
theorem dX6_countOf_47 : decode cX6_countOf 47 = .ok (.iload 6, 2) := by decide +kernel
theorem dX6_countOf_49 : decode cX6_countOf 49 = .ok (.iload_n 2, 1) := by decide +kernel
theorem dX6_countOf_50 : decode cX6_countOf 50 = .ok (.invokevirtual 137, 3) := by decide +kernel
theorem dX6_countOf_53 : decode cX6_countOf 53 = .ok (.iadd, 1) := by decide +kernel
theorem dX6_countOf_54 : decode cX6_countOf 54 = .ok (.istore 4, 2) := by decide +kernel
theorem dX6_countOf_56 : decode cX6_countOf 56 = .ok (.iinc 5 1, 3) := by decide +kernel
theorem dX6_countOf_59 : decode cX6_countOf 59 = .ok (.goto (-53), 3) := by decide +kernel
theorem dX6_countOf_62 : decode cX6_countOf 62 = .ok (.iload 4, 2) := by decide +kernel
theorem dX6_countOf_64 : decode cX6_countOf 64 = .ok (.ireturn, 1) := by decide +kernel
theorem dX6_countIn_0 : decode cX6_countIn 0 = .ok (.iconst 0, 1) := by decide +kernel
theorem dX6_countIn_1 : decode cX6_countIn 1 = .ok (.istore 4, 2) := by decide +kernel
theorem dX6_countIn_3 : decode cX6_countIn 3 = .ok (.iconst 0, 1) := by decide +kernel
theorem dX6_countIn_4 : decode cX6_countIn 4 = .ok (.istore 5, 2) := by decide +kernel
theorem dX6_countIn_6 : decode cX6_countIn 6 = .ok (.iload 5, 2) := by decide +kernel
theorem dX6_countIn_8 : decode cX6_countIn 8 = .ok (.aload_n 0, 1) := by decide +kernel
theorem dX6_countIn_9 : decode cX6_countIn 9 = .ok (.getfield 27, 3) := by decide +kernel
theorem dX6_countIn_12 : decode cX6_countIn 12 = .ok (.getfield 50, 3) := by decide +kernel
theorem dX6_countIn_15 : decode cX6_countIn 15 = .ok (.iload_n 1, 1) := by decide +kernel
theorem dX6_countIn_16 : decode cX6_countIn 16 = .ok (.iaload, 1) := by decide +kernel
theorem dX6_countIn_17 : decode cX6_countIn 17 = .ok (.if_icmp .ge 122, 3) := by decide +kernel
theorem dX6_countIn_20 : decode cX6_countIn 20 = .ok (.aload_n 0, 1) := by decide +kernel
theorem dX6_countIn_21 : decode cX6_countIn 21 = .ok (.getfield 27, 3) := by decide +kernel
theorem dX6_countIn_24 : decode cX6_countIn 24 = .ok (.getfield 93, 3) := by decide +kernel
theorem dX6_countIn_27 : decode cX6_countIn 27 = .ok (.iload_n 1, 1) := by decide +kernel
theorem dX6_countIn_28 : decode cX6_countIn 28 = .ok (.iload 5, 2) := by decide +kernel
theorem dX6_countIn_30 : decode cX6_countIn 30 = .ok (.invokestatic 60, 3) := by decide +kernel
theorem dX6_countIn_33 : decode cX6_countIn 33 = .ok (.iaload, 1) := by decide +kernel
theorem dX6_countIn_34 : decode cX6_countIn 34 = .ok (.istore 6, 2) := by decide +kernel
theorem dX6_countIn_36 : decode cX6_countIn 36 = .ok (.iload_n 3, 1) := by decide +kernel
theorem dX6_countIn_37 : decode cX6_countIn 37 = .ok (.ifCond .ne 14, 3) := by decide +kernel
theorem dX6_countIn_40 : decode cX6_countIn 40 = .ok (.aload_n 0, 1) := by decide +kernel
theorem dX6_countIn_41 : decode cX6_countIn 41 = .ok (.iload_n 1, 1) := by decide +kernel
theorem dX6_countIn_42 : decode cX6_countIn 42 = .ok (.iload 5, 2) := by decide +kernel
theorem dX6_countIn_44 : decode cX6_countIn 44 = .ok (.iload_n 2, 1) := by decide +kernel
theorem dX6_countIn_45 : decode cX6_countIn 45 = .ok (.invokevirtual 53, 3) := by decide +kernel
theorem dX6_countIn_48 : decode cX6_countIn 48 = .ok (.ifCond .ne 63, 3) := by decide +kernel
theorem dX6_countIn_51 : decode cX6_countIn 51 = .ok (.iload_n 3, 1) := by decide +kernel
theorem dX6_countIn_52 : decode cX6_countIn 52 = .ok (.iconst 1, 1) := by decide +kernel
theorem dX6_countIn_53 : decode cX6_countIn 53 = .ok (.if_icmp .ne 33, 3) := by decide +kernel
theorem dX6_countIn_56 : decode cX6_countIn 56 = .ok (.iload 6, 2) := by decide +kernel
theorem dX6_countIn_58 : decode cX6_countIn 58 = .ok (.iconst 2, 1) := by decide +kernel
theorem dX6_countIn_59 : decode cX6_countIn 59 = .ok (.if_icmp .ne 27, 3) := by decide +kernel
theorem dX6_countIn_62 : decode cX6_countIn 62 = .ok (.aload_n 0, 1) := by decide +kernel
theorem dX6_countIn_63 : decode cX6_countIn 63 = .ok (.iload_n 1, 1) := by decide +kernel
theorem dX6_countIn_64 : decode cX6_countIn 64 = .ok (.iload 5, 2) := by decide +kernel
theorem dX6_countIn_66 : decode cX6_countIn 66 = .ok (.invokevirtual 84, 3) := by decide +kernel
theorem dX6_countIn_69 : decode cX6_countIn 69 = .ok (.ifCond .eq 17, 3) := by decide +kernel
theorem dX6_countIn_72 : decode cX6_countIn 72 = .ok (.aload_n 0, 1) := by decide +kernel
theorem dX6_countIn_73 : decode cX6_countIn 73 = .ok (.getfield 27, 3) := by decide +kernel
theorem dX6_countIn_76 : decode cX6_countIn 76 = .ok (.iload_n 1, 1) := by decide +kernel
theorem dX6_countIn_77 : decode cX6_countIn 77 = .ok (.iload 5, 2) := by decide +kernel
theorem dX6_countIn_79 : decode cX6_countIn 79 = .ok (.iload_n 2, 1) := by decide +kernel
theorem dX6_countIn_80 : decode cX6_countIn 80 = .ok (.invokevirtual 87, 3) := by decide +kernel
theorem dX6_countIn_83 : decode cX6_countIn 83 = .ok (.ifCond .eq 28, 3) := by decide +kernel
theorem dX6_countIn_86 : decode cX6_countIn 86 = .ok (.iload_n 3, 1) := by decide +kernel
theorem dX6_countIn_87 : decode cX6_countIn 87 = .ok (.iconst 2, 1) := by decide +kernel
theorem dX6_countIn_88 : decode cX6_countIn 88 = .ok (.if_icmp .ne 27, 3) := by decide +kernel
theorem dX6_countIn_91 : decode cX6_countIn 91 = .ok (.iload 6, 2) := by decide +kernel
theorem dX6_countIn_93 : decode cX6_countIn 93 = .ok (.iconst 3, 1) := by decide +kernel
theorem dX6_countIn_94 : decode cX6_countIn 94 = .ok (.if_icmp .ne 21, 3) := by decide +kernel
theorem dX6_countIn_97 : decode cX6_countIn 97 = .ok (.aload_n 0, 1) := by decide +kernel
theorem dX6_countIn_98 : decode cX6_countIn 98 = .ok (.getfield 27, 3) := by decide +kernel
theorem dX6_countIn_101 : decode cX6_countIn 101 = .ok (.iload_n 1, 1) := by decide +kernel
theorem dX6_countIn_102 : decode cX6_countIn 102 = .ok (.iload 5, 2) := by decide +kernel
theorem dX6_countIn_104 : decode cX6_countIn 104 = .ok (.iload_n 2, 1) := by decide +kernel
theorem dX6_countIn_105 : decode cX6_countIn 105 = .ok (.invokevirtual 87, 3) := by decide +kernel
theorem dX6_countIn_108 : decode cX6_countIn 108 = .ok (.ifCond .eq 7, 3) := by decide +kernel
theorem dX6_countIn_111 : decode cX6_countIn 111 = .ok (.iconst 1, 1) := by decide +kernel
theorem dX6_countIn_112 : decode cX6_countIn 112 = .ok (.goto 4, 3) := by decide +kernel
theorem dX6_countIn_115 : decode cX6_countIn 115 = .ok (.iconst 0, 1) := by decide +kernel
theorem dX6_countIn_116 : decode cX6_countIn 116 = .ok (.istore 7, 2) := by decide +kernel
theorem dX6_countIn_118 : decode cX6_countIn 118 = .ok (.iload 4, 2) := by decide +kernel
theorem dX6_countIn_120 : decode cX6_countIn 120 = .ok (.iload 7, 2) := by decide +kernel
theorem dX6_countIn_122 : decode cX6_countIn 122 = .ok (.ifCond .eq 7, 3) := by decide +kernel
theorem dX6_countIn_125 : decode cX6_countIn 125 = .ok (.iconst 1, 1) := by decide +kernel
theorem dX6_countIn_126 : decode cX6_countIn 126 = .ok (.goto 4, 3) := by decide +kernel
theorem dX6_countIn_129 : decode cX6_countIn 129 = .ok (.iconst 0, 1) := by decide +kernel
theorem dX6_countIn_130 : decode cX6_countIn 130 = .ok (.iadd, 1) := by decide +kernel
theorem dX6_countIn_131 : decode cX6_countIn 131 = .ok (.istore 4, 2) := by decide +kernel
theorem dX6_countIn_133 : decode cX6_countIn 133 = .ok (.iinc 5 1, 3) := by decide +kernel
theorem dX6_countIn_136 : decode cX6_countIn 136 = .ok (.goto (-130), 3) := by decide +kernel
theorem dX6_countIn_139 : decode cX6_countIn 139 = .ok (.iload 4, 2) := by decide +kernel
theorem dX6_countIn_141 : decode cX6_countIn 141 = .ok (.ireturn, 1) := by decide +kernel
theorem dX6_countChanged_0 : decode cX6_countChanged 0 = .ok (.iconst 0, 1) := by decide +kernel
theorem dX6_countChanged_1 : decode cX6_countChanged 1 = .ok (.istore_n 3, 1) := by decide +kernel
theorem dX6_countChanged_2 : decode cX6_countChanged 2 = .ok (.iconst 0, 1) := by decide +kernel
theorem dX6_countChanged_3 : decode cX6_countChanged 3 = .ok (.istore 4, 2) := by decide +kernel
theorem dX6_countChanged_5 : decode cX6_countChanged 5 = .ok (.iload 4, 2) := by decide +kernel
theorem dX6_countChanged_7 : decode cX6_countChanged 7 = .ok (.aload_n 0, 1) := by decide +kernel
theorem dX6_countChanged_8 : decode cX6_countChanged 8 = .ok (.getfield 27, 3) := by decide +kernel
theorem dX6_countChanged_11 : decode cX6_countChanged 11 = .ok (.getfield 50, 3) := by decide +kernel
theorem dX6_countChanged_14 : decode cX6_countChanged 14 = .ok (.iload_n 1, 1) := by decide +kernel
theorem dX6_countChanged_15 : decode cX6_countChanged 15 = .ok (.iaload, 1) := by decide +kernel
theorem dX6_countChanged_16 : decode cX6_countChanged 16 = .ok (.if_icmp .ge 36, 3) := by decide +kernel
theorem dX6_countChanged_19 : decode cX6_countChanged 19 = .ok (.aload_n 0, 1) := by decide +kernel
theorem dX6_countChanged_20 : decode cX6_countChanged 20 = .ok (.iload_n 1, 1) := by decide +kernel
theorem dX6_countChanged_21 : decode cX6_countChanged 21 = .ok (.iload 4, 2) := by decide +kernel
theorem dX6_countChanged_23 : decode cX6_countChanged 23 = .ok (.iconst 0, 1) := by decide +kernel
theorem dX6_countChanged_24 : decode cX6_countChanged 24 = .ok (.iload_n 2, 1) := by decide +kernel
theorem dX6_countChanged_25 : decode cX6_countChanged 25 = .ok (.invokevirtual 140, 3) := by decide +kernel
theorem dX6_countChanged_28 : decode cX6_countChanged 28 = .ok (.ifCond .ne 15, 3) := by decide +kernel
theorem dX6_countChanged_31 : decode cX6_countChanged 31 = .ok (.aload_n 0, 1) := by decide +kernel
theorem dX6_countChanged_32 : decode cX6_countChanged 32 = .ok (.iload_n 1, 1) := by decide +kernel
theorem dX6_countChanged_33 : decode cX6_countChanged 33 = .ok (.iload 4, 2) := by decide +kernel
theorem dX6_countChanged_35 : decode cX6_countChanged 35 = .ok (.iconst 1, 1) := by decide +kernel
theorem dX6_countChanged_36 : decode cX6_countChanged 36 = .ok (.iload_n 2, 1) := by decide +kernel
theorem dX6_countChanged_37 : decode cX6_countChanged 37 = .ok (.invokevirtual 140, 3) := by decide +kernel
theorem dX6_countChanged_40 : decode cX6_countChanged 40 = .ok (.ifCond .eq 6, 3) := by decide +kernel
theorem dX6_countChanged_43 : decode cX6_countChanged 43 = .ok (.iinc 3 1, 3) := by decide +kernel
theorem dX6_countChanged_46 : decode cX6_countChanged 46 = .ok (.iinc 4 1, 3) := by decide +kernel
theorem dX6_countChanged_49 : decode cX6_countChanged 49 = .ok (.goto (-44), 3) := by decide +kernel
theorem dX6_countChanged_52 : decode cX6_countChanged 52 = .ok (.iload_n 3, 1) := by decide +kernel
theorem dX6_countChanged_53 : decode cX6_countChanged 53 = .ok (.ireturn, 1) := by decide +kernel
theorem dX6_changesIn_0 : decode cX6_changesIn 0 = .ok (.aload_n 0, 1) := by decide +kernel
theorem dX6_changesIn_1 : decode cX6_changesIn 1 = .ok (.iload_n 1, 1) := by decide +kernel
theorem dX6_changesIn_2 : decode cX6_changesIn 2 = .ok (.iload_n 2, 1) := by decide +kernel
theorem dX6_changesIn_3 : decode cX6_changesIn 3 = .ok (.iload_n 3, 1) := by decide +kernel
theorem dX6_changesIn_4 : decode cX6_changesIn 4 = .ok (.invokevirtual 53, 3) := by decide +kernel
theorem dX6_changesIn_7 : decode cX6_changesIn 7 = .ok (.ifCond .eq 35, 3) := by decide +kernel
theorem dX6_changesIn_10 : decode cX6_changesIn 10 = .ok (.aload_n 0, 1) := by decide +kernel
theorem dX6_changesIn_11 : decode cX6_changesIn 11 = .ok (.iload_n 1, 1) := by decide +kernel
theorem dX6_changesIn_12 : decode cX6_changesIn 12 = .ok (.iload_n 2, 1) := by decide +kernel
theorem dX6_changesIn_13 : decode cX6_changesIn 13 = .ok (.iload_n 3, 1) := by decide +kernel
theorem dX6_changesIn_14 : decode cX6_changesIn 14 = .ok (.iload 4, 2) := by decide +kernel
theorem dX6_changesIn_16 : decode cX6_changesIn 16 = .ok (.invokevirtual 71, 3) := by decide +kernel
theorem dX6_changesIn_19 : decode cX6_changesIn 19 = .ok (.aload_n 0, 1) := by decide +kernel
theorem dX6_changesIn_20 : decode cX6_changesIn 20 = .ok (.iload_n 1, 1) := by decide +kernel
theorem dX6_changesIn_21 : decode cX6_changesIn 21 = .ok (.iload_n 2, 1) := by decide +kernel
theorem dX6_changesIn_22 : decode cX6_changesIn 22 = .ok (.iload_n 3, 1) := by decide +kernel
theorem dX6_changesIn_23 : decode cX6_changesIn 23 = .ok (.aload_n 0, 1) := by decide +kernel
theorem dX6_changesIn_24 : decode cX6_changesIn 24 = .ok (.getfield 27, 3) := by decide +kernel
theorem dX6_changesIn_27 : decode cX6_changesIn 27 = .ok (.getfield 68, 3) := by decide +kernel
theorem dX6_changesIn_30 : decode cX6_changesIn 30 = .ok (.iload_n 1, 1) := by decide +kernel
theorem dX6_changesIn_31 : decode cX6_changesIn 31 = .ok (.iaload, 1) := by decide +kernel
theorem dX6_changesIn_32 : decode cX6_changesIn 32 = .ok (.invokevirtual 71, 3) := by decide +kernel
theorem dX6_changesIn_35 : decode cX6_changesIn 35 = .ok (.if_icmp .eq 7, 3) := by decide +kernel
theorem dX6_changesIn_38 : decode cX6_changesIn 38 = .ok (.iconst 1, 1) := by decide +kernel
theorem dX6_changesIn_39 : decode cX6_changesIn 39 = .ok (.goto 4, 3) := by decide +kernel
theorem dX6_changesIn_42 : decode cX6_changesIn 42 = .ok (.iconst 0, 1) := by decide +kernel
theorem dX6_changesIn_43 : decode cX6_changesIn 43 = .ok (.ireturn, 1) := by decide +kernel
theorem dX6_gain_0 : decode cX6_gain 0 = .ok (.iconst 3, 1) := by decide +kernel
theorem dX6_gain_1 : decode cX6_gain 1 = .ok (.iload_n 3, 1) := by decide +kernel
theorem dX6_gain_2 : decode cX6_gain 2 = .ok (.imul, 1) := by decide +kernel
theorem dX6_gain_3 : decode cX6_gain 3 = .ok (.aload_n 0, 1) := by decide +kernel
theorem dX6_gain_4 : decode cX6_gain 4 = .ok (.iload_n 1, 1) := by decide +kernel
theorem dX6_gain_5 : decode cX6_gain 5 = .ok (.iload_n 2, 1) := by decide +kernel
theorem dX6_gain_6 : decode cX6_gain 6 = .ok (.iload_n 3, 1) := by decide +kernel
theorem dX6_gain_7 : decode cX6_gain 7 = .ok (.invokevirtual 134, 3) := by decide +kernel
theorem dX6_gain_10 : decode cX6_gain 10 = .ok (.ifCond .eq 8, 3) := by decide +kernel
theorem dX6_gain_13 : decode cX6_gain 13 = .ok (.bipush 20, 2) := by decide +kernel
theorem dX6_gain_15 : decode cX6_gain 15 = .ok (.goto 4, 3) := by decide +kernel
theorem dX6_gain_18 : decode cX6_gain 18 = .ok (.iconst 0, 1) := by decide +kernel
theorem dX6_gain_19 : decode cX6_gain 19 = .ok (.isub, 1) := by decide +kernel
theorem dX6_gain_20 : decode cX6_gain 20 = .ok (.ireturn, 1) := by decide +kernel
theorem dX6_bestGain_0 : decode cX6_bestGain 0 = .ok (.aload_n 0, 1) := by decide +kernel
theorem dX6_bestGain_1 : decode cX6_bestGain 1 = .ok (.iload_n 1, 1) := by decide +kernel
theorem dX6_bestGain_2 : decode cX6_bestGain 2 = .ok (.iload_n 2, 1) := by decide +kernel
theorem dX6_bestGain_3 : decode cX6_bestGain 3 = .ok (.iconst 0, 1) := by decide +kernel
theorem dX6_bestGain_4 : decode cX6_bestGain 4 = .ok (.invokevirtual 144, 3) := by decide +kernel
theorem dX6_bestGain_7 : decode cX6_bestGain 7 = .ok (.istore_n 3, 1) := by decide +kernel
theorem dX6_bestGain_8 : decode cX6_bestGain 8 = .ok (.iconst 1, 1) := by decide +kernel
theorem dX6_bestGain_9 : decode cX6_bestGain 9 = .ok (.istore 4, 2) := by decide +kernel
theorem dX6_bestGain_11 : decode cX6_bestGain 11 = .ok (.iload 4, 2) := by decide +kernel
theorem dX6_bestGain_13 : decode cX6_bestGain 13 = .ok (.bipush 9, 2) := by decide +kernel
theorem dX6_bestGain_15 : decode cX6_bestGain 15 = .ok (.if_icmp .gt 22, 3) := by decide +kernel
theorem dX6_bestGain_18 : decode cX6_bestGain 18 = .ok (.iload_n 3, 1) := by decide +kernel
theorem dX6_bestGain_19 : decode cX6_bestGain 19 = .ok (.aload_n 0, 1) := by decide +kernel
theorem dX6_bestGain_20 : decode cX6_bestGain 20 = .ok (.iload_n 1, 1) := by decide +kernel
theorem dX6_bestGain_21 : decode cX6_bestGain 21 = .ok (.iload_n 2, 1) := by decide +kernel
theorem dX6_bestGain_22 : decode cX6_bestGain 22 = .ok (.iload 4, 2) := by decide +kernel
theorem dX6_bestGain_24 : decode cX6_bestGain 24 = .ok (.invokevirtual 144, 3) := by decide +kernel
theorem dX6_bestGain_27 : decode cX6_bestGain 27 = .ok (.invokestatic 113, 3) := by decide +kernel
theorem dX6_bestGain_30 : decode cX6_bestGain 30 = .ok (.istore_n 3, 1) := by decide +kernel
theorem dX6_bestGain_31 : decode cX6_bestGain 31 = .ok (.iinc 4 1, 3) := by decide +kernel
theorem dX6_bestGain_34 : decode cX6_bestGain 34 = .ok (.goto (-23), 3) := by decide +kernel
theorem dX6_bestGain_37 : decode cX6_bestGain 37 = .ok (.iload_n 3, 1) := by decide +kernel
theorem dX6_bestGain_38 : decode cX6_bestGain 38 = .ok (.ireturn, 1) := by decide +kernel
theorem dX6_play_0 : decode cX6_play 0 = .ok (.aload_n 0, 1) := by decide +kernel
theorem dX6_play_1 : decode cX6_play 1 = .ok (.iload_n 1, 1) := by decide +kernel
theorem dX6_play_2 : decode cX6_play 2 = .ok (.iload_n 3, 1) := by decide +kernel
theorem dX6_play_3 : decode cX6_play 3 = .ok (.invokevirtual 147, 3) := by decide +kernel
theorem dX6_play_6 : decode cX6_play 6 = .ok (.istore 4, 2) := by decide +kernel
theorem dX6_play_8 : decode cX6_play 8 = .ok (.aload_n 0, 1) := by decide +kernel
theorem dX6_play_9 : decode cX6_play 9 = .ok (.iload_n 2, 1) := by decide +kernel
theorem dX6_play_10 : decode cX6_play 10 = .ok (.iload_n 3, 1) := by decide +kernel
theorem dX6_play_11 : decode cX6_play 11 = .ok (.invokevirtual 147, 3) := by decide +kernel
theorem dX6_play_14 : decode cX6_play 14 = .ok (.istore 5, 2) := by decide +kernel
theorem dX6_play_16 : decode cX6_play 16 = .ok (.aload_n 0, 1) := by decide +kernel
theorem dX6_play_17 : decode cX6_play 17 = .ok (.iconst 0, 1) := by decide +kernel
theorem dX6_play_18 : decode cX6_play 18 = .ok (.putfield 20, 3) := by decide +kernel
theorem dX6_play_21 : decode cX6_play 21 = .ok (.aload_n 0, 1) := by decide +kernel
theorem dX6_play_22 : decode cX6_play 22 = .ok (.iconst (-1), 1) := by decide +kernel
theorem dX6_play_23 : decode cX6_play 23 = .ok (.putfield 24, 3) := by decide +kernel
theorem dX6_play_26 : decode cX6_play 26 = .ok (.iconst 0, 1) := by decide +kernel
theorem dX6_play_27 : decode cX6_play 27 = .ok (.istore 6, 2) := by decide +kernel
theorem dX6_play_29 : decode cX6_play 29 = .ok (.iload 6, 2) := by decide +kernel
theorem dX6_play_31 : decode cX6_play 31 = .ok (.bipush 100, 2) := by decide +kernel
theorem dX6_play_33 : decode cX6_play 33 = .ok (.if_icmp .ge 72, 3) := by decide +kernel
theorem dX6_play_36 : decode cX6_play 36 = .ok (.aload_n 0, 1) := by decide +kernel
theorem dX6_play_37 : decode cX6_play 37 = .ok (.iload_n 1, 1) := by decide +kernel
theorem dX6_play_38 : decode cX6_play 38 = .ok (.iload_n 3, 1) := by decide +kernel
theorem dX6_play_39 : decode cX6_play 39 = .ok (.iload 6, 2) := by decide +kernel
theorem dX6_play_41 : decode cX6_play 41 = .ok (.bipush 10, 2) := by decide +kernel
theorem dX6_play_43 : decode cX6_play 43 = .ok (.idiv, 1) := by decide +kernel
theorem dX6_play_44 : decode cX6_play 44 = .ok (.invokevirtual 144, 3) := by decide +kernel
theorem dX6_play_47 : decode cX6_play 47 = .ok (.iload 4, 2) := by decide +kernel
theorem dX6_play_49 : decode cX6_play 49 = .ok (.if_icmp .ne 50, 3) := by decide +kernel
theorem dX6_play_52 : decode cX6_play 52 = .ok (.aload_n 0, 1) := by decide +kernel
theorem dX6_play_53 : decode cX6_play 53 = .ok (.iload_n 2, 1) := by decide +kernel
theorem dX6_play_54 : decode cX6_play 54 = .ok (.iload_n 3, 1) := by decide +kernel
theorem dX6_play_55 : decode cX6_play 55 = .ok (.iload 6, 2) := by decide +kernel
theorem dX6_play_57 : decode cX6_play 57 = .ok (.bipush 10, 2) := by decide +kernel
theorem dX6_play_59 : decode cX6_play 59 = .ok (.irem, 1) := by decide +kernel
theorem dX6_play_60 : decode cX6_play 60 = .ok (.invokevirtual 144, 3) := by decide +kernel
theorem dX6_play_63 : decode cX6_play 63 = .ok (.iload 5, 2) := by decide +kernel
theorem dX6_play_65 : decode cX6_play 65 = .ok (.if_icmp .ne 34, 3) := by decide +kernel
theorem dX6_play_68 : decode cX6_play 68 = .ok (.aload_n 0, 1) := by decide +kernel
theorem dX6_play_69 : decode cX6_play 69 = .ok (.dup, 1) := by decide +kernel
theorem dX6_play_70 : decode cX6_play 70 = .ok (.getfield 20, 3) := by decide +kernel
theorem dX6_play_73 : decode cX6_play 73 = .ok (.iconst 1, 1) := by decide +kernel
theorem dX6_play_74 : decode cX6_play 74 = .ok (.iadd, 1) := by decide +kernel
theorem dX6_play_75 : decode cX6_play 75 = .ok (.putfield 20, 3) := by decide +kernel
theorem dX6_play_78 : decode cX6_play 78 = .ok (.aload_n 0, 1) := by decide +kernel
theorem dX6_play_79 : decode cX6_play 79 = .ok (.aload_n 0, 1) := by decide +kernel
theorem dX6_play_80 : decode cX6_play 80 = .ok (.getfield 24, 3) := by decide +kernel
theorem dX6_play_83 : decode cX6_play 83 = .ok (.iconst (-1), 1) := by decide +kernel
theorem dX6_play_84 : decode cX6_play 84 = .ok (.if_icmp .ne 8, 3) := by decide +kernel
theorem dX6_play_87 : decode cX6_play 87 = .ok (.iload 6, 2) := by decide +kernel
theorem dX6_play_89 : decode cX6_play 89 = .ok (.goto 7, 3) := by decide +kernel
theorem dX6_play_92 : decode cX6_play 92 = .ok (.aload_n 0, 1) := by decide +kernel
theorem dX6_play_93 : decode cX6_play 93 = .ok (.getfield 24, 3) := by decide +kernel
theorem dX6_play_96 : decode cX6_play 96 = .ok (.putfield 24, 3) := by decide +kernel
theorem dX6_play_99 : decode cX6_play 99 = .ok (.iinc 6 1, 3) := by decide +kernel
theorem dX6_play_102 : decode cX6_play 102 = .ok (.goto (-73), 3) := by decide +kernel
theorem dX6_play_105 : decode cX6_play 105 = .ok (.return_, 1) := by decide +kernel
theorem dX7_init_0 : decode cX7_init 0 = .ok (.aload_n 0, 1) := by decide +kernel
theorem dX7_init_1 : decode cX7_init 1 = .ok (.invokespecial 3, 3) := by decide +kernel
theorem dX7_init_4 : decode cX7_init 4 = .ok (.aload_n 0, 1) := by decide +kernel
theorem dX7_init_5 : decode cX7_init 5 = .ok (.aload_n 1, 1) := by decide +kernel
theorem dX7_init_6 : decode cX7_init 6 = .ok (.putfield 9, 3) := by decide +kernel
theorem dX7_init_9 : decode cX7_init 9 = .ok (.aload_n 0, 1) := by decide +kernel
theorem dX7_init_10 : decode cX7_init 10 = .ok (.iconst 0, 1) := by decide +kernel
theorem dX7_init_11 : decode cX7_init 11 = .ok (.newarray .int, 2) := by decide +kernel
theorem dX7_init_13 : decode cX7_init 13 = .ok (.putfield 15, 3) := by decide +kernel
theorem dX7_init_16 : decode cX7_init 16 = .ok (.aload_n 0, 1) := by decide +kernel
theorem dX7_init_17 : decode cX7_init 17 = .ok (.iconst 0, 1) := by decide +kernel
theorem dX7_init_18 : decode cX7_init 18 = .ok (.putfield 19, 3) := by decide +kernel
theorem dX7_init_21 : decode cX7_init 21 = .ok (.aload_n 0, 1) := by decide +kernel
theorem dX7_init_22 : decode cX7_init 22 = .ok (.iconst 0, 1) := by decide +kernel
theorem dX7_init_23 : decode cX7_init 23 = .ok (.putfield 23, 3) := by decide +kernel
theorem dX7_init_26 : decode cX7_init 26 = .ok (.aload_n 0, 1) := by decide +kernel
theorem dX7_init_27 : decode cX7_init 27 = .ok (.iconst 0, 1) := by decide +kernel
theorem dX7_init_28 : decode cX7_init 28 = .ok (.putfield 26, 3) := by decide +kernel
theorem dX7_init_31 : decode cX7_init 31 = .ok (.aload_n 0, 1) := by decide +kernel
theorem dX7_init_32 : decode cX7_init 32 = .ok (.iconst 0, 1) := by decide +kernel
theorem dX7_init_33 : decode cX7_init 33 = .ok (.putfield 29, 3) := by decide +kernel
theorem dX7_init_36 : decode cX7_init 36 = .ok (.aload_n 0, 1) := by decide +kernel
theorem dX7_init_37 : decode cX7_init 37 = .ok (.iconst 0, 1) := by decide +kernel
theorem dX7_init_38 : decode cX7_init 38 = .ok (.putfield 32, 3) := by decide +kernel
theorem dX7_init_41 : decode cX7_init 41 = .ok (.aload_n 0, 1) := by decide +kernel
theorem dX7_init_42 : decode cX7_init 42 = .ok (.iconst (-1), 1) := by decide +kernel
theorem dX7_init_43 : decode cX7_init 43 = .ok (.putfield 35, 3) := by decide +kernel
theorem dX7_init_46 : decode cX7_init 46 = .ok (.return_, 1) := by decide +kernel
theorem dX7_readText_0 : decode cX7_readText 0 = .ok (.aload_n 0, 1) := by decide +kernel
theorem dX7_readText_1 : decode cX7_readText 1 = .ok (.aload_n 1, 1) := by decide +kernel
theorem dX7_readText_2 : decode cX7_readText 2 = .ok (.putfield 15, 3) := by decide +kernel
theorem dX7_readText_5 : decode cX7_readText 5 = .ok (.aload_n 0, 1) := by decide +kernel
theorem dX7_readText_6 : decode cX7_readText 6 = .ok (.iload_n 2, 1) := by decide +kernel
theorem dX7_readText_7 : decode cX7_readText 7 = .ok (.aload_n 1, 1) := by decide +kernel
theorem dX7_readText_8 : decode cX7_readText 8 = .ok (.arraylength, 1) := by decide +kernel
theorem dX7_readText_9 : decode cX7_readText 9 = .ok (.invokestatic 38, 3) := by decide +kernel
theorem dX7_readText_12 : decode cX7_readText 12 = .ok (.putfield 19, 3) := by decide +kernel
theorem dX7_readText_15 : decode cX7_readText 15 = .ok (.aload_n 0, 1) := by decide +kernel
theorem dX7_readText_16 : decode cX7_readText 16 = .ok (.iconst 0, 1) := by decide +kernel
theorem dX7_readText_17 : decode cX7_readText 17 = .ok (.putfield 29, 3) := by decide +kernel
theorem dX7_readText_20 : decode cX7_readText 20 = .ok (.aload_n 0, 1) := by decide +kernel
theorem dX7_readText_21 : decode cX7_readText 21 = .ok (.iconst 0, 1) := by decide +kernel
theorem dX7_readText_22 : decode cX7_readText 22 = .ok (.putfield 32, 3) := by decide +kernel
theorem dX7_readText_25 : decode cX7_readText 25 = .ok (.aload_n 0, 1) := by decide +kernel
theorem dX7_readText_26 : decode cX7_readText 26 = .ok (.iconst (-1), 1) := by decide +kernel
theorem dX7_readText_27 : decode cX7_readText 27 = .ok (.putfield 35, 3) := by decide +kernel
theorem dX7_readText_30 : decode cX7_readText 30 = .ok (.aload_n 0, 1) := by decide +kernel
theorem dX7_readText_31 : decode cX7_readText 31 = .ok (.getfield 9, 3) := by decide +kernel
theorem dX7_readText_34 : decode cX7_readText 34 = .ok (.invokevirtual 44, 3) := by decide +kernel
theorem dX7_readText_37 : decode cX7_readText 37 = .ok (.aload_n 0, 1) := by decide +kernel
theorem dX7_readText_38 : decode cX7_readText 38 = .ok (.invokevirtual 49, 3) := by decide +kernel
theorem dX7_readText_41 : decode cX7_readText 41 = .ok (.iconst 0, 1) := by decide +kernel
theorem dX7_readText_42 : decode cX7_readText 42 = .ok (.istore_n 3, 1) := by decide +kernel
theorem dX7_readText_43 : decode cX7_readText 43 = .ok (.iload_n 3, 1) := by decide +kernel
theorem dX7_readText_44 : decode cX7_readText 44 = .ok (.sipush 700, 3) := by decide +kernel
theorem dX7_readText_47 : decode cX7_readText 47 = .ok (.if_icmp .gt 34, 3) := by decide +kernel
theorem dX7_readText_50 : decode cX7_readText 50 = .ok (.aload_n 0, 1) := by decide +kernel
theorem dX7_readText_51 : decode cX7_readText 51 = .ok (.getfield 23, 3) := by decide +kernel
theorem dX7_readText_54 : decode cX7_readText 54 = .ok (.ifCond .eq 27, 3) := by decide +kernel
theorem dX7_readText_57 : decode cX7_readText 57 = .ok (.aload_n 0, 1) := by decide +kernel
theorem dX7_readText_58 : decode cX7_readText 58 = .ok (.invokevirtual 52, 3) := by decide +kernel
theorem dX7_readText_61 : decode cX7_readText 61 = .ok (.ifCond .eq 12, 3) := by decide +kernel
theorem dX7_readText_64 : decode cX7_readText 64 = .ok (.aload_n 0, 1) := by decide +kernel
theorem dX7_readText_65 : decode cX7_readText 65 = .ok (.bipush 59, 2) := by decide +kernel
theorem dX7_readText_67 : decode cX7_readText 67 = .ok (.invokevirtual 56, 3) := by decide +kernel
theorem dX7_readText_70 : decode cX7_readText 70 = .ok (.ifCond .ne 5, 3) := by decide +kernel
theorem dX7_readText_73 : decode cX7_readText 73 = .ok (.iconst 0, 1) := by decide +kernel
theorem dX7_readText_74 : decode cX7_readText 74 = .ok (.ireturn, 1) := by decide +kernel
theorem dX7_readText_75 : decode cX7_readText 75 = .ok (.iinc 3 1, 3) := by decide +kernel
theorem dX7_readText_78 : decode cX7_readText 78 = .ok (.goto (-35), 3) := by decide +kernel
theorem dX7_readText_81 : decode cX7_readText 81 = .ok (.iconst 1, 1) := by decide +kernel
theorem dX7_readText_82 : decode cX7_readText 82 = .ok (.ireturn, 1) := by decide +kernel
theorem dX7_readLine_0 : decode cX7_readLine 0 = .ok (.aload_n 0, 1) := by decide +kernel
theorem dX7_readLine_1 : decode cX7_readLine 1 = .ok (.ldc 60, 2) := by decide +kernel
theorem dX7_readLine_3 : decode cX7_readLine 3 = .ok (.invokevirtual 62, 3) := by decide +kernel
theorem dX7_readLine_6 : decode cX7_readLine 6 = .ok (.ifCond .eq 8, 3) := by decide +kernel
theorem dX7_readLine_9 : decode cX7_readLine 9 = .ok (.aload_n 0, 1) := by decide +kernel
theorem dX7_readLine_10 : decode cX7_readLine 10 = .ok (.invokevirtual 66, 3) := by decide +kernel
theorem dX7_readLine_13 : decode cX7_readLine 13 = .ok (.ireturn, 1) := by decide +kernel
theorem dX7_readLine_14 : decode cX7_readLine 14 = .ok (.aload_n 0, 1) := by decide +kernel
theorem dX7_readLine_15 : decode cX7_readLine 15 = .ok (.ldc 69, 2) := by decide +kernel
theorem dX7_readLine_17 : decode cX7_readLine 17 = .ok (.invokevirtual 62, 3) := by decide +kernel
theorem dX7_readLine_20 : decode cX7_readLine 20 = .ok (.ifCond .eq 8, 3) := by decide +kernel
theorem dX7_readLine_23 : decode cX7_readLine 23 = .ok (.aload_n 0, 1) := by decide +kernel
theorem dX7_readLine_24 : decode cX7_readLine 24 = .ok (.invokevirtual 71, 3) := by decide +kernel
theorem dX7_readLine_27 : decode cX7_readLine 27 = .ok (.ireturn, 1) := by decide +kernel
theorem dX7_readLine_28 : decode cX7_readLine 28 = .ok (.aload_n 0, 1) := by decide +kernel
theorem dX7_readLine_29 : decode cX7_readLine 29 = .ok (.ldc 74, 2) := by decide +kernel
theorem dX7_readLine_31 : decode cX7_readLine 31 = .ok (.invokevirtual 62, 3) := by decide +kernel
theorem dX7_readLine_34 : decode cX7_readLine 34 = .ok (.ifCond .eq 8, 3) := by decide +kernel
theorem dX7_readLine_37 : decode cX7_readLine 37 = .ok (.aload_n 0, 1) := by decide +kernel
theorem dX7_readLine_38 : decode cX7_readLine 38 = .ok (.invokevirtual 76, 3) := by decide +kernel
theorem dX7_readLine_41 : decode cX7_readLine 41 = .ok (.ireturn, 1) := by decide +kernel
theorem dX7_readLine_42 : decode cX7_readLine 42 = .ok (.aload_n 0, 1) := by decide +kernel
theorem dX7_readLine_43 : decode cX7_readLine 43 = .ok (.ldc 79, 2) := by decide +kernel
theorem dX7_readLine_45 : decode cX7_readLine 45 = .ok (.invokevirtual 62, 3) := by decide +kernel
theorem dX7_readLine_48 : decode cX7_readLine 48 = .ok (.ifCond .eq 8, 3) := by decide +kernel
theorem dX7_readLine_51 : decode cX7_readLine 51 = .ok (.aload_n 0, 1) := by decide +kernel
theorem dX7_readLine_52 : decode cX7_readLine 52 = .ok (.invokevirtual 81, 3) := by decide +kernel
theorem dX7_readLine_55 : decode cX7_readLine 55 = .ok (.ireturn, 1) := by decide +kernel
theorem dX7_readLine_56 : decode cX7_readLine 56 = .ok (.aload_n 0, 1) := by decide +kernel
theorem dX7_readLine_57 : decode cX7_readLine 57 = .ok (.invokevirtual 84, 3) := by decide +kernel
theorem dX7_readLine_60 : decode cX7_readLine 60 = .ok (.ireturn, 1) := by decide +kernel
theorem dX7_readValley_0 : decode cX7_readValley 0 = .ok (.aload_n 0, 1) := by decide +kernel
theorem dX7_readValley_1 : decode cX7_readValley 1 = .ok (.getfield 9, 3) := by decide +kernel
theorem dX7_readValley_4 : decode cX7_readValley 4 = .ok (.getfield 87, 3) := by decide +kernel
theorem dX7_readValley_7 : decode cX7_readValley 7 = .ok (.bipush 6, 2) := by decide +kernel
theorem dX7_readValley_9 : decode cX7_readValley 9 = .ok (.if_icmp .lt 9, 3) := by decide +kernel
theorem dX7_readValley_12 : decode cX7_readValley 12 = .ok (.aload_n 0, 1) := by decide +kernel
theorem dX7_readValley_13 : decode cX7_readValley 13 = .ok (.iconst 2, 1) := by decide +kernel
theorem dX7_readValley_14 : decode cX7_readValley 14 = .ok (.invokevirtual 90, 3) := by decide +kernel
theorem dX7_readValley_17 : decode cX7_readValley 17 = .ok (.ireturn, 1) := by decide +kernel
theorem dX7_readValley_18 : decode cX7_readValley 18 = .ok (.aload_n 0, 1) := by decide +kernel
theorem dX7_readValley_19 : decode cX7_readValley 19 = .ok (.invokevirtual 49, 3) := by decide +kernel
theorem dX7_readValley_22 : decode cX7_readValley 22 = .ok (.aload_n 0, 1) := by decide +kernel
theorem dX7_readValley_23 : decode cX7_readValley 23 = .ok (.iconst 0, 1) := by decide +kernel
theorem dX7_readValley_24 : decode cX7_readValley 24 = .ok (.bipush 9, 2) := by decide +kernel
theorem dX7_readValley_26 : decode cX7_readValley 26 = .ok (.invokevirtual 94, 3) := by decide +kernel
theorem dX7_readValley_29 : decode cX7_readValley 29 = .ok (.istore_n 1, 1) := by decide +kernel
theorem dX7_readValley_30 : decode cX7_readValley 30 = .ok (.iload_n 1, 1) := by decide +kernel
theorem dX7_readValley_31 : decode cX7_readValley 31 = .ok (.iconst (-1), 1) := by decide +kernel
theorem dX7_readValley_32 : decode cX7_readValley 32 = .ok (.if_icmp .ne 5, 3) := by decide +kernel
theorem dX7_readValley_35 : decode cX7_readValley 35 = .ok (.iconst 0, 1) := by decide +kernel
theorem dX7_readValley_36 : decode cX7_readValley 36 = .ok (.ireturn, 1) := by decide +kernel
theorem dX7_readValley_37 : decode cX7_readValley 37 = .ok (.aload_n 0, 1) := by decide +kernel
theorem dX7_readValley_38 : decode cX7_readValley 38 = .ok (.getfield 9, 3) := by decide +kernel
theorem dX7_readValley_41 : decode cX7_readValley 41 = .ok (.getfield 97, 3) := by decide +kernel
theorem dX7_readValley_44 : decode cX7_readValley 44 = .ok (.aload_n 0, 1) := by decide +kernel
theorem dX7_readValley_45 : decode cX7_readValley 45 = .ok (.getfield 9, 3) := by decide +kernel
theorem dX7_readValley_48 : decode cX7_readValley 48 = .ok (.getfield 87, 3) := by decide +kernel
theorem dX7_readValley_51 : decode cX7_readValley 51 = .ok (.iload_n 1, 1) := by decide +kernel
theorem dX7_readValley_52 : decode cX7_readValley 52 = .ok (.iastore, 1) := by decide +kernel
theorem dX7_readValley_53 : decode cX7_readValley 53 = .ok (.aload_n 0, 1) := by decide +kernel
theorem dX7_readValley_54 : decode cX7_readValley 54 = .ok (.getfield 9, 3) := by decide +kernel
theorem dX7_readValley_57 : decode cX7_readValley 57 = .ok (.dup, 1) := by decide +kernel
theorem dX7_readValley_58 : decode cX7_readValley 58 = .ok (.getfield 87, 3) := by decide +kernel
theorem dX7_readValley_61 : decode cX7_readValley 61 = .ok (.iconst 1, 1) := by decide +kernel
theorem dX7_readValley_62 : decode cX7_readValley 62 = .ok (.iadd, 1) := by decide +kernel
theorem dX7_readValley_63 : decode cX7_readValley 63 = .ok (.putfield 87, 3) := by decide +kernel
theorem dX7_readValley_66 : decode cX7_readValley 66 = .ok (.iconst 1, 1) := by decide +kernel
theorem dX7_readValley_67 : decode cX7_readValley 67 = .ok (.ireturn, 1) := by decide +kernel
theorem dX7_readDance_0 : decode cX7_readDance 0 = .ok (.aload_n 0, 1) := by decide +kernel
theorem dX7_readDance_1 : decode cX7_readDance 1 = .ok (.getfield 9, 3) := by decide +kernel
theorem dX7_readDance_4 : decode cX7_readDance 4 = .ok (.getfield 100, 3) := by decide +kernel
theorem dX7_readDance_7 : decode cX7_readDance 7 = .ok (.bipush 8, 2) := by decide +kernel
theorem dX7_readDance_9 : decode cX7_readDance 9 = .ok (.if_icmp .lt 9, 3) := by decide +kernel
theorem dX7_readDance_12 : decode cX7_readDance 12 = .ok (.aload_n 0, 1) := by decide +kernel
theorem dX7_readDance_13 : decode cX7_readDance 13 = .ok (.iconst 2, 1) := by decide +kernel
theorem dX7_readDance_14 : decode cX7_readDance 14 = .ok (.invokevirtual 90, 3) := by decide +kernel
theorem dX7_readDance_17 : decode cX7_readDance 17 = .ok (.ireturn, 1) := by decide +kernel
theorem dX7_readDance_18 : decode cX7_readDance 18 = .ok (.aload_n 0, 1) := by decide +kernel
theorem dX7_readDance_19 : decode cX7_readDance 19 = .ok (.invokevirtual 49, 3) := by decide +kernel
theorem dX7_readDance_22 : decode cX7_readDance 22 = .ok (.aload_n 0, 1) := by decide +kernel
theorem dX7_readDance_23 : decode cX7_readDance 23 = .ok (.invokevirtual 103, 3) := by decide +kernel
theorem dX7_readDance_26 : decode cX7_readDance 26 = .ok (.istore_n 1, 1) := by decide +kernel
theorem dX7_readDance_27 : decode cX7_readDance 27 = .ok (.iload_n 1, 1) := by decide +kernel
theorem dX7_readDance_28 : decode cX7_readDance 28 = .ok (.iconst (-1), 1) := by decide +kernel
theorem dX7_readDance_29 : decode cX7_readDance 29 = .ok (.if_icmp .ne 5, 3) := by decide +kernel
theorem dX7_readDance_32 : decode cX7_readDance 32 = .ok (.iconst 0, 1) := by decide +kernel
theorem dX7_readDance_33 : decode cX7_readDance 33 = .ok (.ireturn, 1) := by decide +kernel
theorem dX7_readDance_34 : decode cX7_readDance 34 = .ok (.aload_n 0, 1) := by decide +kernel
theorem dX7_readDance_35 : decode cX7_readDance 35 = .ok (.iload_n 1, 1) := by decide +kernel
theorem dX7_readDance_36 : decode cX7_readDance 36 = .ok (.aload_n 0, 1) := by decide +kernel
theorem dX7_readDance_37 : decode cX7_readDance 37 = .ok (.invokevirtual 107, 3) := by decide +kernel
theorem dX7_readDance_40 : decode cX7_readDance 40 = .ok (.invokevirtual 110, 3) := by decide +kernel
theorem dX7_readDance_43 : decode cX7_readDance 43 = .ok (.ifCond .eq 9, 3) := by decide +kernel
theorem dX7_readDance_46 : decode cX7_readDance 46 = .ok (.aload_n 0, 1) := by decide +kernel
theorem dX7_readDance_47 : decode cX7_readDance 47 = .ok (.iconst 4, 1) := by decide +kernel
theorem dX7_readDance_48 : decode cX7_readDance 48 = .ok (.invokevirtual 90, 3) := by decide +kernel
theorem dX7_readDance_51 : decode cX7_readDance 51 = .ok (.ireturn, 1) := by decide +kernel
theorem dX7_readDance_52 : decode cX7_readDance 52 = .ok (.aload_n 0, 1) := by decide +kernel
theorem dX7_readDance_53 : decode cX7_readDance 53 = .ok (.invokevirtual 103, 3) := by decide +kernel
theorem dX7_readDance_56 : decode cX7_readDance 56 = .ok (.istore_n 2, 1) := by decide +kernel
theorem dX7_readDance_57 : decode cX7_readDance 57 = .ok (.iload_n 2, 1) := by decide +kernel
theorem dX7_readDance_58 : decode cX7_readDance 58 = .ok (.iconst (-1), 1) := by decide +kernel
theorem dX7_readDance_59 : decode cX7_readDance 59 = .ok (.if_icmp .ne 5, 3) := by decide +kernel
theorem dX7_readDance_62 : decode cX7_readDance 62 = .ok (.iconst 0, 1) := by decide +kernel
theorem dX7_readDance_63 : decode cX7_readDance 63 = .ok (.ireturn, 1) := by decide +kernel
theorem dX7_readDance_64 : decode cX7_readDance 64 = .ok (.aload_n 0, 1) := by decide +kernel
theorem dX7_readDance_65 : decode cX7_readDance 65 = .ok (.iconst 1, 1) := by decide +kernel
theorem dX7_readDance_66 : decode cX7_readDance 66 = .ok (.iconst 4, 1) := by decide +kernel
theorem dX7_readDance_67 : decode cX7_readDance 67 = .ok (.invokevirtual 94, 3) := by decide +kernel
theorem dX7_readDance_70 : decode cX7_readDance 70 = .ok (.istore_n 3, 1) := by decide +kernel
theorem dX7_readDance_71 : decode cX7_readDance 71 = .ok (.iload_n 3, 1) := by decide +kernel
theorem dX7_readDance_72 : decode cX7_readDance 72 = .ok (.iconst (-1), 1) := by decide +kernel
theorem dX7_readDance_73 : decode cX7_readDance 73 = .ok (.if_icmp .ne 5, 3) := by decide +kernel
theorem dX7_readDance_76 : decode cX7_readDance 76 = .ok (.iconst 0, 1) := by decide +kernel
theorem dX7_readDance_77 : decode cX7_readDance 77 = .ok (.ireturn, 1) := by decide +kernel
theorem dX7_readDance_78 : decode cX7_readDance 78 = .ok (.aload_n 0, 1) := by decide +kernel
theorem dX7_readDance_79 : decode cX7_readDance 79 = .ok (.getfield 9, 3) := by decide +kernel
theorem dX7_readDance_82 : decode cX7_readDance 82 = .ok (.getfield 114, 3) := by decide +kernel
theorem dX7_readDance_85 : decode cX7_readDance 85 = .ok (.aload_n 0, 1) := by decide +kernel
theorem dX7_readDance_86 : decode cX7_readDance 86 = .ok (.getfield 9, 3) := by decide +kernel
theorem dX7_readDance_89 : decode cX7_readDance 89 = .ok (.getfield 100, 3) := by decide +kernel
theorem dX7_readDance_92 : decode cX7_readDance 92 = .ok (.iload_n 1, 1) := by decide +kernel
theorem dX7_readDance_93 : decode cX7_readDance 93 = .ok (.iastore, 1) := by decide +kernel
theorem dX7_readDance_94 : decode cX7_readDance 94 = .ok (.aload_n 0, 1) := by decide +kernel
theorem dX7_readDance_95 : decode cX7_readDance 95 = .ok (.getfield 9, 3) := by decide +kernel
theorem dX7_readDance_98 : decode cX7_readDance 98 = .ok (.getfield 117, 3) := by decide +kernel
theorem dX7_readDance_101 : decode cX7_readDance 101 = .ok (.aload_n 0, 1) := by decide +kernel
theorem dX7_readDance_102 : decode cX7_readDance 102 = .ok (.getfield 9, 3) := by decide +kernel
theorem dX7_readDance_105 : decode cX7_readDance 105 = .ok (.getfield 100, 3) := by decide +kernel
theorem dX7_readDance_108 : decode cX7_readDance 108 = .ok (.iload_n 2, 1) := by decide +kernel
theorem dX7_readDance_109 : decode cX7_readDance 109 = .ok (.iastore, 1) := by decide +kernel
theorem dX7_readDance_110 : decode cX7_readDance 110 = .ok (.aload_n 0, 1) := by decide +kernel
theorem dX7_readDance_111 : decode cX7_readDance 111 = .ok (.getfield 9, 3) := by decide +kernel
theorem dX7_readDance_114 : decode cX7_readDance 114 = .ok (.getfield 120, 3) := by decide +kernel
theorem dX7_readDance_117 : decode cX7_readDance 117 = .ok (.aload_n 0, 1) := by decide +kernel
theorem dX7_readDance_118 : decode cX7_readDance 118 = .ok (.getfield 9, 3) := by decide +kernel
theorem dX7_readDance_121 : decode cX7_readDance 121 = .ok (.getfield 100, 3) := by decide +kernel
theorem dX7_readDance_124 : decode cX7_readDance 124 = .ok (.iload_n 3, 1) := by decide +kernel
theorem dX7_readDance_125 : decode cX7_readDance 125 = .ok (.iastore, 1) := by decide +kernel
theorem dX7_readDance_126 : decode cX7_readDance 126 = .ok (.aload_n 0, 1) := by decide +kernel
theorem dX7_readDance_127 : decode cX7_readDance 127 = .ok (.getfield 9, 3) := by decide +kernel
theorem dX7_readDance_130 : decode cX7_readDance 130 = .ok (.getfield 123, 3) := by decide +kernel
theorem dX7_readDance_133 : decode cX7_readDance 133 = .ok (.aload_n 0, 1) := by decide +kernel
theorem dX7_readDance_134 : decode cX7_readDance 134 = .ok (.getfield 9, 3) := by decide +kernel
theorem dX7_readDance_137 : decode cX7_readDance 137 = .ok (.getfield 100, 3) := by decide +kernel
theorem dX7_readDance_140 : decode cX7_readDance 140 = .ok (.iconst 0, 1) := by decide +kernel
theorem dX7_readDance_141 : decode cX7_readDance 141 = .ok (.iastore, 1) := by decide +kernel
theorem dX7_readDance_142 : decode cX7_readDance 142 = .ok (.aload_n 0, 1) := by decide +kernel
theorem dX7_readDance_143 : decode cX7_readDance 143 = .ok (.getfield 9, 3) := by decide +kernel
theorem dX7_readDance_146 : decode cX7_readDance 146 = .ok (.dup, 1) := by decide +kernel
theorem dX7_readDance_147 : decode cX7_readDance 147 = .ok (.getfield 100, 3) := by decide +kernel
theorem dX7_readDance_150 : decode cX7_readDance 150 = .ok (.iconst 1, 1) := by decide +kernel
theorem dX7_readDance_151 : decode cX7_readDance 151 = .ok (.iadd, 1) := by decide +kernel
theorem dX7_readDance_152 : decode cX7_readDance 152 = .ok (.putfield 100, 3) := by decide +kernel
theorem dX7_readDance_155 : decode cX7_readDance 155 = .ok (.iconst 1, 1) := by decide +kernel
theorem dX7_readDance_156 : decode cX7_readDance 156 = .ok (.ireturn, 1) := by decide +kernel
theorem dX7_readFloor_0 : decode cX7_readFloor 0 = .ok (.aload_n 0, 1) := by decide +kernel
theorem dX7_readFloor_1 : decode cX7_readFloor 1 = .ok (.getfield 9, 3) := by decide +kernel
theorem dX7_readFloor_4 : decode cX7_readFloor 4 = .ok (.getfield 126, 3) := by decide +kernel
theorem dX7_readFloor_7 : decode cX7_readFloor 7 = .ok (.ifCond .eq 9, 3) := by decide +kernel
theorem dX7_readFloor_10 : decode cX7_readFloor 10 = .ok (.aload_n 0, 1) := by decide +kernel
theorem dX7_readFloor_11 : decode cX7_readFloor 11 = .ok (.iconst 5, 1) := by decide +kernel
theorem dX7_readFloor_12 : decode cX7_readFloor 12 = .ok (.invokevirtual 90, 3) := by decide +kernel
theorem dX7_readFloor_15 : decode cX7_readFloor 15 = .ok (.ireturn, 1) := by decide +kernel
theorem dX7_readFloor_16 : decode cX7_readFloor 16 = .ok (.aload_n 0, 1) := by decide +kernel
theorem dX7_readFloor_17 : decode cX7_readFloor 17 = .ok (.invokevirtual 49, 3) := by decide +kernel
theorem dX7_readFloor_20 : decode cX7_readFloor 20 = .ok (.aload_n 0, 1) := by decide +kernel
theorem dX7_readFloor_21 : decode cX7_readFloor 21 = .ok (.iconst 4, 1) := by decide +kernel
theorem dX7_readFloor_22 : decode cX7_readFloor 22 = .ok (.bipush 20, 2) := by decide +kernel
theorem dX7_readFloor_24 : decode cX7_readFloor 24 = .ok (.invokevirtual 94, 3) := by decide +kernel
theorem dX7_readFloor_27 : decode cX7_readFloor 27 = .ok (.istore_n 1, 1) := by decide +kernel
theorem dX7_readFloor_28 : decode cX7_readFloor 28 = .ok (.iload_n 1, 1) := by decide +kernel
theorem dX7_readFloor_29 : decode cX7_readFloor 29 = .ok (.iconst (-1), 1) := by decide +kernel
theorem dX7_readFloor_30 : decode cX7_readFloor 30 = .ok (.if_icmp .ne 5, 3) := by decide +kernel
theorem dX7_readFloor_33 : decode cX7_readFloor 33 = .ok (.iconst 0, 1) := by decide +kernel
theorem dX7_readFloor_34 : decode cX7_readFloor 34 = .ok (.ireturn, 1) := by decide +kernel
theorem dX7_readFloor_35 : decode cX7_readFloor 35 = .ok (.aload_n 0, 1) := by decide +kernel
theorem dX7_readFloor_36 : decode cX7_readFloor 36 = .ok (.getfield 9, 3) := by decide +kernel
theorem dX7_readFloor_39 : decode cX7_readFloor 39 = .ok (.iload_n 1, 1) := by decide +kernel
theorem dX7_readFloor_40 : decode cX7_readFloor 40 = .ok (.putfield 130, 3) := by decide +kernel
theorem dX7_readFloor_43 : decode cX7_readFloor 43 = .ok (.aload_n 0, 1) := by decide +kernel
theorem dX7_readFloor_44 : decode cX7_readFloor 44 = .ok (.getfield 9, 3) := by decide +kernel
theorem dX7_readFloor_47 : decode cX7_readFloor 47 = .ok (.iconst 1, 1) := by decide +kernel
theorem dX7_readFloor_48 : decode cX7_readFloor 48 = .ok (.putfield 126, 3) := by decide +kernel
theorem dX7_readFloor_51 : decode cX7_readFloor 51 = .ok (.iconst 1, 1) := by decide +kernel
theorem dX7_readFloor_52 : decode cX7_readFloor 52 = .ok (.ireturn, 1) := by decide +kernel
theorem dX7_readLimit_0 : decode cX7_readLimit 0 = .ok (.aload_n 0, 1) := by decide +kernel
theorem dX7_readLimit_1 : decode cX7_readLimit 1 = .ok (.getfield 9, 3) := by decide +kernel
theorem dX7_readLimit_4 : decode cX7_readLimit 4 = .ok (.getfield 132, 3) := by decide +kernel
theorem dX7_readLimit_7 : decode cX7_readLimit 7 = .ok (.ifCond .eq 9, 3) := by decide +kernel
theorem dX7_readLimit_10 : decode cX7_readLimit 10 = .ok (.aload_n 0, 1) := by decide +kernel
theorem dX7_readLimit_11 : decode cX7_readLimit 11 = .ok (.iconst 5, 1) := by decide +kernel
theorem dX7_readLimit_12 : decode cX7_readLimit 12 = .ok (.invokevirtual 90, 3) := by decide +kernel
theorem dX7_readLimit_15 : decode cX7_readLimit 15 = .ok (.ireturn, 1) := by decide +kernel
theorem dX7_readLimit_16 : decode cX7_readLimit 16 = .ok (.aload_n 0, 1) := by decide +kernel
theorem dX7_readLimit_17 : decode cX7_readLimit 17 = .ok (.invokevirtual 49, 3) := by decide +kernel
theorem dX7_readLimit_20 : decode cX7_readLimit 20 = .ok (.aload_n 0, 1) := by decide +kernel
theorem dX7_readLimit_21 : decode cX7_readLimit 21 = .ok (.getfield 9, 3) := by decide +kernel
theorem dX7_readLimit_24 : decode cX7_readLimit 24 = .ok (.iconst 1, 1) := by decide +kernel
theorem dX7_readLimit_25 : decode cX7_readLimit 25 = .ok (.putfield 132, 3) := by decide +kernel
theorem dX7_readLimit_28 : decode cX7_readLimit 28 = .ok (.aload_n 0, 1) := by decide +kernel
theorem dX7_readLimit_29 : decode cX7_readLimit 29 = .ok (.iconst 0, 1) := by decide +kernel
theorem dX7_readLimit_30 : decode cX7_readLimit 30 = .ok (.invokevirtual 135, 3) := by decide +kernel
theorem dX7_readLimit_33 : decode cX7_readLimit 33 = .ok (.ireturn, 1) := by decide +kernel
theorem dX7_readStep_0 : decode cX7_readStep 0 = .ok (.aload_n 0, 1) := by decide +kernel
theorem dX7_readStep_1 : decode cX7_readStep 1 = .ok (.invokevirtual 138, 3) := by decide +kernel
theorem dX7_readStep_4 : decode cX7_readStep 4 = .ok (.istore_n 1, 1) := by decide +kernel
theorem dX7_readStep_5 : decode cX7_readStep 5 = .ok (.iload_n 1, 1) := by decide +kernel
theorem dX7_readStep_6 : decode cX7_readStep 6 = .ok (.iconst (-1), 1) := by decide +kernel
theorem dX7_readStep_7 : decode cX7_readStep 7 = .ok (.if_icmp .eq 13, 3) := by decide +kernel
theorem dX7_readStep_10 : decode cX7_readStep 10 = .ok (.aload_n 0, 1) := by decide +kernel
theorem dX7_readStep_11 : decode cX7_readStep 11 = .ok (.getfield 9, 3) := by decide +kernel
theorem dX7_readStep_14 : decode cX7_readStep 14 = .ok (.getfield 100, 3) := by decide +kernel
theorem dX7_readStep_17 : decode cX7_readStep 17 = .ok (.ifCond .ne 9, 3) := by decide +kernel
theorem dX7_readStep_20 : decode cX7_readStep 20 = .ok (.aload_n 0, 1) := by decide +kernel
theorem dX7_readStep_21 : decode cX7_readStep 21 = .ok (.iconst 1, 1) := by decide +kernel
theorem dX7_readStep_22 : decode cX7_readStep 22 = .ok (.invokevirtual 90, 3) := by decide +kernel
theorem dX7_readStep_25 : decode cX7_readStep 25 = .ok (.ireturn, 1) := by decide +kernel
theorem dX7_readStep_26 : decode cX7_readStep 26 = .ok (.aload_n 0, 1) := by decide +kernel
theorem dX7_readStep_27 : decode cX7_readStep 27 = .ok (.getfield 9, 3) := by decide +kernel
theorem dX7_readStep_30 : decode cX7_readStep 30 = .ok (.getfield 100, 3) := by decide +kernel
theorem dX7_readStep_33 : decode cX7_readStep 33 = .ok (.iconst 1, 1) := by decide +kernel
theorem dX7_readStep_34 : decode cX7_readStep 34 = .ok (.isub, 1) := by decide +kernel
theorem dX7_readStep_35 : decode cX7_readStep 35 = .ok (.istore_n 2, 1) := by decide +kernel
theorem dX7_readStep_36 : decode cX7_readStep 36 = .ok (.aload_n 0, 1) := by decide +kernel
theorem dX7_readStep_37 : decode cX7_readStep 37 = .ok (.getfield 9, 3) := by decide +kernel
theorem dX7_readStep_40 : decode cX7_readStep 40 = .ok (.getfield 123, 3) := by decide +kernel
theorem dX7_readStep_43 : decode cX7_readStep 43 = .ok (.iload_n 2, 1) := by decide +kernel
theorem dX7_readStep_44 : decode cX7_readStep 44 = .ok (.iaload, 1) := by decide +kernel
theorem dX7_readStep_45 : decode cX7_readStep 45 = .ok (.istore_n 3, 1) := by decide +kernel
theorem dX7_readStep_46 : decode cX7_readStep 46 = .ok (.iload_n 3, 1) := by decide +kernel
theorem dX7_readStep_47 : decode cX7_readStep 47 = .ok (.bipush 10, 2) := by decide +kernel
theorem dX7_readStep_49 : decode cX7_readStep 49 = .ok (.if_icmp .lt 9, 3) := by decide +kernel
theorem dX7_readStep_52 : decode cX7_readStep 52 = .ok (.aload_n 0, 1) := by decide +kernel
theorem dX7_readStep_53 : decode cX7_readStep 53 = .ok (.iconst 2, 1) := by decide +kernel
theorem dX7_readStep_54 : decode cX7_readStep 54 = .ok (.invokevirtual 90, 3) := by decide +kernel
theorem dX7_readStep_57 : decode cX7_readStep 57 = .ok (.ireturn, 1) := by decide +kernel
theorem dX7_readStep_58 : decode cX7_readStep 58 = .ok (.aload_n 0, 1) := by decide +kernel
theorem dX7_readStep_59 : decode cX7_readStep 59 = .ok (.invokevirtual 49, 3) := by decide +kernel
theorem dX7_readStep_62 : decode cX7_readStep 62 = .ok (.iload_n 1, 1) := by decide +kernel
theorem dX7_readStep_63 : decode cX7_readStep 63 = .ok (.iconst 4, 1) := by decide +kernel
theorem dX7_readStep_64 : decode cX7_readStep 64 = .ok (.if_icmp .ne 7, 3) := by decide +kernel
theorem dX7_readStep_67 : decode cX7_readStep 67 = .ok (.iconst 2, 1) := by decide +kernel
theorem dX7_readStep_68 : decode cX7_readStep 68 = .ok (.goto 9, 3) := by decide +kernel
theorem dX7_readStep_71 : decode cX7_readStep 71 = .ok (.aload_n 0, 1) := by decide +kernel
theorem dX7_readStep_72 : decode cX7_readStep 72 = .ok (.iconst 0, 1) := by decide +kernel
theorem dX7_readStep_73 : decode cX7_readStep 73 = .ok (.iconst 2, 1) := by decide +kernel
theorem dX7_readStep_74 : decode cX7_readStep 74 = .ok (.invokevirtual 94, 3) := by decide +kernel
theorem dX7_readStep_77 : decode cX7_readStep 77 = .ok (.istore 4, 2) := by decide +kernel
theorem dX7_readStep_79 : decode cX7_readStep 79 = .ok (.iload 4, 2) := by decide +kernel
theorem dX7_readStep_81 : decode cX7_readStep 81 = .ok (.iconst (-1), 1) := by decide +kernel
theorem dX7_readStep_82 : decode cX7_readStep 82 = .ok (.if_icmp .ne 5, 3) := by decide +kernel
theorem dX7_readStep_85 : decode cX7_readStep 85 = .ok (.iconst 0, 1) := by decide +kernel
theorem dX7_readStep_86 : decode cX7_readStep 86 = .ok (.ireturn, 1) := by decide +kernel
theorem dX7_readStep_87 : decode cX7_readStep 87 = .ok (.iload_n 1, 1) := by decide +kernel
theorem dX7_readStep_88 : decode cX7_readStep 88 = .ok (.iconst 4, 1) := by decide +kernel
theorem dX7_readStep_89 : decode cX7_readStep 89 = .ok (.if_icmp .eq 8, 3) := by decide +kernel
theorem dX7_readStep_92 : decode cX7_readStep 92 = .ok (.iload_n 1, 1) := by decide +kernel
theorem dX7_readStep_93 : decode cX7_readStep 93 = .ok (.iconst 3, 1) := by decide +kernel
theorem dX7_readStep_94 : decode cX7_readStep 94 = .ok (.if_icmp .ne 7, 3) := by decide +kernel
theorem dX7_readStep_97 : decode cX7_readStep 97 = .ok (.iconst 0, 1) := by decide +kernel
theorem dX7_readStep_98 : decode cX7_readStep 98 = .ok (.goto 10, 3) := by decide +kernel
theorem dX7_readStep_101 : decode cX7_readStep 101 = .ok (.aload_n 0, 1) := by decide +kernel
theorem dX7_readStep_102 : decode cX7_readStep 102 = .ok (.iconst 0, 1) := by decide +kernel
theorem dX7_readStep_103 : decode cX7_readStep 103 = .ok (.bipush 9, 2) := by decide +kernel
theorem dX7_readStep_105 : decode cX7_readStep 105 = .ok (.invokevirtual 94, 3) := by decide +kernel
theorem dX7_readStep_108 : decode cX7_readStep 108 = .ok (.istore 5, 2) := by decide +kernel
theorem dX7_readStep_110 : decode cX7_readStep 110 = .ok (.iload 5, 2) := by decide +kernel
theorem dX7_readStep_112 : decode cX7_readStep 112 = .ok (.iconst (-1), 1) := by decide +kernel
theorem dX7_readStep_113 : decode cX7_readStep 113 = .ok (.if_icmp .ne 5, 3) := by decide +kernel
theorem dX7_readStep_116 : decode cX7_readStep 116 = .ok (.iconst 0, 1) := by decide +kernel
theorem dX7_readStep_117 : decode cX7_readStep 117 = .ok (.ireturn, 1) := by decide +kernel
theorem dX7_readStep_118 : decode cX7_readStep 118 = .ok (.iload_n 1, 1) := by decide +kernel
theorem dX7_readStep_119 : decode cX7_readStep 119 = .ok (.iconst 4, 1) := by decide +kernel
theorem dX7_readStep_120 : decode cX7_readStep 120 = .ok (.if_icmp .eq 8, 3) := by decide +kernel
theorem dX7_readStep_123 : decode cX7_readStep 123 = .ok (.iload_n 1, 1) := by decide +kernel
theorem dX7_readStep_124 : decode cX7_readStep 124 = .ok (.iconst 1, 1) := by decide +kernel
theorem dX7_readStep_125 : decode cX7_readStep 125 = .ok (.if_icmp .ne 7, 3) := by decide +kernel
theorem dX7_readStep_128 : decode cX7_readStep 128 = .ok (.iconst 0, 1) := by decide +kernel
theorem dX7_readStep_129 : decode cX7_readStep 129 = .ok (.goto 10, 3) := by decide +kernel
theorem dX7_readStep_132 : decode cX7_readStep 132 = .ok (.aload_n 0, 1) := by decide +kernel
theorem dX7_readStep_133 : decode cX7_readStep 133 = .ok (.iconst 0, 1) := by decide +kernel
theorem dX7_readStep_134 : decode cX7_readStep 134 = .ok (.bipush 7, 2) := by decide +kernel
theorem dX7_readStep_136 : decode cX7_readStep 136 = .ok (.invokevirtual 94, 3) := by decide +kernel
theorem dX7_readStep_139 : decode cX7_readStep 139 = .ok (.istore 6, 2) := by decide +kernel
theorem dX7_readStep_141 : decode cX7_readStep 141 = .ok (.iload 6, 2) := by decide +kernel
theorem dX7_readStep_143 : decode cX7_readStep 143 = .ok (.iconst (-1), 1) := by decide +kernel
theorem dX7_readStep_144 : decode cX7_readStep 144 = .ok (.if_icmp .ne 5, 3) := by decide +kernel
theorem dX7_readStep_147 : decode cX7_readStep 147 = .ok (.iconst 0, 1) := by decide +kernel
theorem dX7_readStep_148 : decode cX7_readStep 148 = .ok (.ireturn, 1) := by decide +kernel
theorem dX7_readStep_149 : decode cX7_readStep 149 = .ok (.iload_n 2, 1) := by decide +kernel
theorem dX7_readStep_150 : decode cX7_readStep 150 = .ok (.iload_n 3, 1) := by decide +kernel
theorem dX7_readStep_151 : decode cX7_readStep 151 = .ok (.invokestatic 141, 3) := by decide +kernel
theorem dX7_readStep_154 : decode cX7_readStep 154 = .ok (.istore 7, 2) := by decide +kernel
theorem dX7_readStep_156 : decode cX7_readStep 156 = .ok (.aload_n 0, 1) := by decide +kernel
theorem dX7_readStep_157 : decode cX7_readStep 157 = .ok (.getfield 9, 3) := by decide +kernel
theorem dX7_readStep_160 : decode cX7_readStep 160 = .ok (.getfield 144, 3) := by decide +kernel
theorem dX7_readStep_163 : decode cX7_readStep 163 = .ok (.iload 7, 2) := by decide +kernel
theorem dX7_readStep_165 : decode cX7_readStep 165 = .ok (.iload_n 1, 1) := by decide +kernel
theorem dX7_readStep_166 : decode cX7_readStep 166 = .ok (.iastore, 1) := by decide +kernel
theorem dX7_readStep_167 : decode cX7_readStep 167 = .ok (.aload_n 0, 1) := by decide +kernel
theorem dX7_readStep_168 : decode cX7_readStep 168 = .ok (.getfield 9, 3) := by decide +kernel
theorem dX7_readStep_171 : decode cX7_readStep 171 = .ok (.getfield 147, 3) := by decide +kernel
theorem dX7_readStep_174 : decode cX7_readStep 174 = .ok (.iload 7, 2) := by decide +kernel
theorem dX7_readStep_176 : decode cX7_readStep 176 = .ok (.iload 4, 2) := by decide +kernel
theorem dX7_readStep_178 : decode cX7_readStep 178 = .ok (.iastore, 1) := by decide +kernel
theorem dX7_readStep_179 : decode cX7_readStep 179 = .ok (.aload_n 0, 1) := by decide +kernel
theorem dX7_readStep_180 : decode cX7_readStep 180 = .ok (.getfield 9, 3) := by decide +kernel
theorem dX7_readStep_183 : decode cX7_readStep 183 = .ok (.getfield 150, 3) := by decide +kernel
theorem dX7_readStep_186 : decode cX7_readStep 186 = .ok (.iload 7, 2) := by decide +kernel
theorem dX7_readStep_188 : decode cX7_readStep 188 = .ok (.iload 5, 2) := by decide +kernel
theorem dX7_readStep_190 : decode cX7_readStep 190 = .ok (.iastore, 1) := by decide +kernel
theorem dX7_readStep_191 : decode cX7_readStep 191 = .ok (.aload_n 0, 1) := by decide +kernel
theorem dX7_readStep_192 : decode cX7_readStep 192 = .ok (.getfield 9, 3) := by decide +kernel
theorem dX7_readStep_195 : decode cX7_readStep 195 = .ok (.getfield 153, 3) := by decide +kernel
theorem dX7_readStep_198 : decode cX7_readStep 198 = .ok (.iload 7, 2) := by decide +kernel
theorem dX7_readStep_200 : decode cX7_readStep 200 = .ok (.iload 6, 2) := by decide +kernel
theorem dX7_readStep_202 : decode cX7_readStep 202 = .ok (.iastore, 1) := by decide +kernel
theorem dX7_readStep_203 : decode cX7_readStep 203 = .ok (.aload_n 0, 1) := by decide +kernel
theorem dX7_readStep_204 : decode cX7_readStep 204 = .ok (.getfield 9, 3) := by decide +kernel
theorem dX7_readStep_207 : decode cX7_readStep 207 = .ok (.getfield 123, 3) := by decide +kernel
theorem dX7_readStep_210 : decode cX7_readStep 210 = .ok (.iload_n 2, 1) := by decide +kernel
theorem dX7_readStep_211 : decode cX7_readStep 211 = .ok (.dup2, 1) := by decide +kernel
theorem dX7_readStep_212 : decode cX7_readStep 212 = .ok (.iaload, 1) := by decide +kernel
theorem dX7_readStep_213 : decode cX7_readStep 213 = .ok (.iconst 1, 1) := by decide +kernel
theorem dX7_readStep_214 : decode cX7_readStep 214 = .ok (.iadd, 1) := by decide +kernel
theorem dX7_readStep_215 : decode cX7_readStep 215 = .ok (.iastore, 1) := by decide +kernel
theorem dX7_readStep_216 : decode cX7_readStep 216 = .ok (.iconst 1, 1) := by decide +kernel
theorem dX7_readStep_217 : decode cX7_readStep 217 = .ok (.ireturn, 1) := by decide +kernel
theorem dX7_kindOfWord_0 : decode cX7_kindOfWord 0 = .ok (.aload_n 0, 1) := by decide +kernel
theorem dX7_kindOfWord_1 : decode cX7_kindOfWord 1 = .ok (.ldc 156, 2) := by decide +kernel
theorem dX7_kindOfWord_3 : decode cX7_kindOfWord 3 = .ok (.invokevirtual 62, 3) := by decide +kernel
theorem dX7_kindOfWord_6 : decode cX7_kindOfWord 6 = .ok (.ifCond .eq 5, 3) := by decide +kernel
theorem dX7_kindOfWord_9 : decode cX7_kindOfWord 9 = .ok (.iconst 0, 1) := by decide +kernel
theorem dX7_kindOfWord_10 : decode cX7_kindOfWord 10 = .ok (.ireturn, 1) := by decide +kernel
theorem dX7_kindOfWord_11 : decode cX7_kindOfWord 11 = .ok (.aload_n 0, 1) := by decide +kernel
theorem dX7_kindOfWord_12 : decode cX7_kindOfWord 12 = .ok (.ldc 158, 2) := by decide +kernel
theorem dX7_kindOfWord_14 : decode cX7_kindOfWord 14 = .ok (.invokevirtual 62, 3) := by decide +kernel
theorem dX7_kindOfWord_17 : decode cX7_kindOfWord 17 = .ok (.ifCond .eq 5, 3) := by decide +kernel
theorem dX7_kindOfWord_20 : decode cX7_kindOfWord 20 = .ok (.iconst 1, 1) := by decide +kernel
theorem dX7_kindOfWord_21 : decode cX7_kindOfWord 21 = .ok (.ireturn, 1) := by decide +kernel
theorem dX7_kindOfWord_22 : decode cX7_kindOfWord 22 = .ok (.aload_n 0, 1) := by decide +kernel
theorem dX7_kindOfWord_23 : decode cX7_kindOfWord 23 = .ok (.ldc 160, 2) := by decide +kernel
theorem dX7_kindOfWord_25 : decode cX7_kindOfWord 25 = .ok (.invokevirtual 62, 3) := by decide +kernel
theorem dX7_kindOfWord_28 : decode cX7_kindOfWord 28 = .ok (.ifCond .eq 5, 3) := by decide +kernel
theorem dX7_kindOfWord_31 : decode cX7_kindOfWord 31 = .ok (.iconst 2, 1) := by decide +kernel
theorem dX7_kindOfWord_32 : decode cX7_kindOfWord 32 = .ok (.ireturn, 1) := by decide +kernel
theorem dX7_kindOfWord_33 : decode cX7_kindOfWord 33 = .ok (.aload_n 0, 1) := by decide +kernel
theorem dX7_kindOfWord_34 : decode cX7_kindOfWord 34 = .ok (.ldc 162, 2) := by decide +kernel
theorem dX7_kindOfWord_36 : decode cX7_kindOfWord 36 = .ok (.invokevirtual 62, 3) := by decide +kernel
theorem dX7_kindOfWord_39 : decode cX7_kindOfWord 39 = .ok (.ifCond .eq 5, 3) := by decide +kernel
theorem dX7_kindOfWord_42 : decode cX7_kindOfWord 42 = .ok (.iconst 3, 1) := by decide +kernel
theorem dX7_kindOfWord_43 : decode cX7_kindOfWord 43 = .ok (.ireturn, 1) := by decide +kernel
theorem dX7_kindOfWord_44 : decode cX7_kindOfWord 44 = .ok (.aload_n 0, 1) := by decide +kernel
theorem dX7_kindOfWord_45 : decode cX7_kindOfWord 45 = .ok (.ldc 164, 2) := by decide +kernel
theorem dX7_kindOfWord_47 : decode cX7_kindOfWord 47 = .ok (.invokevirtual 62, 3) := by decide +kernel
theorem dX7_kindOfWord_50 : decode cX7_kindOfWord 50 = .ok (.ifCond .eq 7, 3) := by decide +kernel
theorem dX7_kindOfWord_53 : decode cX7_kindOfWord 53 = .ok (.iconst 4, 1) := by decide +kernel
theorem dX7_kindOfWord_54 : decode cX7_kindOfWord 54 = .ok (.goto 4, 3) := by decide +kernel
theorem dX7_kindOfWord_57 : decode cX7_kindOfWord 57 = .ok (.iconst (-1), 1) := by decide +kernel
theorem dX7_kindOfWord_58 : decode cX7_kindOfWord 58 = .ok (.ireturn, 1) := by decide +kernel
theorem dX7_readExpr_0 : decode cX7_readExpr 0 = .ok (.iload_n 1, 1) := by decide +kernel
theorem dX7_readExpr_1 : decode cX7_readExpr 1 = .ok (.iconst 5, 1) := by decide +kernel
theorem dX7_readExpr_2 : decode cX7_readExpr 2 = .ok (.if_icmp .le 20, 3) := by decide +kernel
theorem dX7_readExpr_5 : decode cX7_readExpr 5 = .ok (.aload_n 0, 1) := by decide +kernel
theorem dX7_readExpr_6 : decode cX7_readExpr 6 = .ok (.aload_n 0, 1) := by decide +kernel
theorem dX7_readExpr_7 : decode cX7_readExpr 7 = .ok (.invokevirtual 166, 3) := by decide +kernel
theorem dX7_readExpr_10 : decode cX7_readExpr 10 = .ok (.ifCond .eq 7, 3) := by decide +kernel
theorem dX7_readExpr_13 : decode cX7_readExpr 13 = .ok (.iconst 2, 1) := by decide +kernel
theorem dX7_readExpr_14 : decode cX7_readExpr 14 = .ok (.goto 4, 3) := by decide +kernel
theorem dX7_readExpr_17 : decode cX7_readExpr 17 = .ok (.iconst 1, 1) := by decide +kernel
theorem dX7_readExpr_18 : decode cX7_readExpr 18 = .ok (.invokevirtual 90, 3) := by decide +kernel
theorem dX7_readExpr_21 : decode cX7_readExpr 21 = .ok (.ireturn, 1) := by decide +kernel
theorem dX7_readExpr_22 : decode cX7_readExpr 22 = .ok (.aload_n 0, 1) := by decide +kernel
theorem dX7_readExpr_23 : decode cX7_readExpr 23 = .ok (.iload_n 1, 1) := by decide +kernel
theorem dX7_readExpr_24 : decode cX7_readExpr 24 = .ok (.invokevirtual 169, 3) := by decide +kernel
theorem dX7_readExpr_27 : decode cX7_readExpr 27 = .ok (.ifCond .ne 5, 3) := by decide +kernel
theorem dX7_readExpr_30 : decode cX7_readExpr 30 = .ok (.iconst 0, 1) := by decide +kernel
theorem dX7_readExpr_31 : decode cX7_readExpr 31 = .ok (.ireturn, 1) := by decide +kernel
theorem dX7_readExpr_32 : decode cX7_readExpr 32 = .ok (.iconst 0, 1) := by decide +kernel
theorem dX7_readExpr_33 : decode cX7_readExpr 33 = .ok (.istore_n 2, 1) := by decide +kernel
theorem dX7_readExpr_34 : decode cX7_readExpr 34 = .ok (.iload_n 2, 1) := by decide +kernel
theorem dX7_readExpr_35 : decode cX7_readExpr 35 = .ok (.sipush 700, 3) := by decide +kernel
theorem dX7_readExpr_38 : decode cX7_readExpr 38 = .ok (.if_icmp .ge 44, 3) := by decide +kernel
theorem dX7_readExpr_41 : decode cX7_readExpr 41 = .ok (.aload_n 0, 1) := by decide +kernel
theorem dX7_readExpr_42 : decode cX7_readExpr 42 = .ok (.ldc 172, 2) := by decide +kernel
theorem dX7_readExpr_44 : decode cX7_readExpr 44 = .ok (.invokevirtual 62, 3) := by decide +kernel
theorem dX7_readExpr_47 : decode cX7_readExpr 47 = .ok (.ifCond .eq 35, 3) := by decide +kernel
theorem dX7_readExpr_50 : decode cX7_readExpr 50 = .ok (.aload_n 0, 1) := by decide +kernel
theorem dX7_readExpr_51 : decode cX7_readExpr 51 = .ok (.invokevirtual 49, 3) := by decide +kernel
theorem dX7_readExpr_54 : decode cX7_readExpr 54 = .ok (.aload_n 0, 1) := by decide +kernel
theorem dX7_readExpr_55 : decode cX7_readExpr 55 = .ok (.iload_n 1, 1) := by decide +kernel
theorem dX7_readExpr_56 : decode cX7_readExpr 56 = .ok (.invokevirtual 169, 3) := by decide +kernel
theorem dX7_readExpr_59 : decode cX7_readExpr 59 = .ok (.ifCond .ne 5, 3) := by decide +kernel
theorem dX7_readExpr_62 : decode cX7_readExpr 62 = .ok (.iconst 0, 1) := by decide +kernel
theorem dX7_readExpr_63 : decode cX7_readExpr 63 = .ok (.ireturn, 1) := by decide +kernel
theorem dX7_readExpr_64 : decode cX7_readExpr 64 = .ok (.aload_n 0, 1) := by decide +kernel
theorem dX7_readExpr_65 : decode cX7_readExpr 65 = .ok (.getfield 9, 3) := by decide +kernel
theorem dX7_readExpr_68 : decode cX7_readExpr 68 = .ok (.getfield 174, 3) := by decide +kernel
theorem dX7_readExpr_71 : decode cX7_readExpr 71 = .ok (.bipush (-12), 2) := by decide +kernel
theorem dX7_readExpr_73 : decode cX7_readExpr 73 = .ok (.invokevirtual 180, 3) := by decide +kernel
theorem dX7_readExpr_76 : decode cX7_readExpr 76 = .ok (.iinc 2 1, 3) := by decide +kernel
theorem dX7_readExpr_79 : decode cX7_readExpr 79 = .ok (.goto (-45), 3) := by decide +kernel
theorem dX7_readExpr_82 : decode cX7_readExpr 82 = .ok (.iconst 1, 1) := by decide +kernel
theorem dX7_readExpr_83 : decode cX7_readExpr 83 = .ok (.ireturn, 1) := by decide +kernel
theorem dX7_readAnd_0 : decode cX7_readAnd 0 = .ok (.aload_n 0, 1) := by decide +kernel
theorem dX7_readAnd_1 : decode cX7_readAnd 1 = .ok (.iload_n 1, 1) := by decide +kernel
theorem dX7_readAnd_2 : decode cX7_readAnd 2 = .ok (.invokevirtual 184, 3) := by decide +kernel
theorem dX7_readAnd_5 : decode cX7_readAnd 5 = .ok (.ifCond .ne 5, 3) := by decide +kernel
theorem dX7_readAnd_8 : decode cX7_readAnd 8 = .ok (.iconst 0, 1) := by decide +kernel
theorem dX7_readAnd_9 : decode cX7_readAnd 9 = .ok (.ireturn, 1) := by decide +kernel
theorem dX7_readAnd_10 : decode cX7_readAnd 10 = .ok (.iconst 0, 1) := by decide +kernel
theorem dX7_readAnd_11 : decode cX7_readAnd 11 = .ok (.istore_n 2, 1) := by decide +kernel
theorem dX7_readAnd_12 : decode cX7_readAnd 12 = .ok (.iload_n 2, 1) := by decide +kernel
theorem dX7_readAnd_13 : decode cX7_readAnd 13 = .ok (.sipush 700, 3) := by decide +kernel
theorem dX7_readAnd_16 : decode cX7_readAnd 16 = .ok (.if_icmp .ge 44, 3) := by decide +kernel
theorem dX7_readAnd_19 : decode cX7_readAnd 19 = .ok (.aload_n 0, 1) := by decide +kernel
theorem dX7_readAnd_20 : decode cX7_readAnd 20 = .ok (.ldc 187, 2) := by decide +kernel
theorem dX7_readAnd_22 : decode cX7_readAnd 22 = .ok (.invokevirtual 62, 3) := by decide +kernel
theorem dX7_readAnd_25 : decode cX7_readAnd 25 = .ok (.ifCond .eq 35, 3) := by decide +kernel
theorem dX7_readAnd_28 : decode cX7_readAnd 28 = .ok (.aload_n 0, 1) := by decide +kernel
theorem dX7_readAnd_29 : decode cX7_readAnd 29 = .ok (.invokevirtual 49, 3) := by decide +kernel
theorem dX7_readAnd_32 : decode cX7_readAnd 32 = .ok (.aload_n 0, 1) := by decide +kernel
