theorem dX0_init_0 : decode cX0_init 0 = .ok (.aload_n 0, 1) := by decide +kernel
theorem dX0_init_1 : decode cX0_init 1 = .ok (.invokespecial 3, 3) := by decide +kernel
theorem dX0_init_4 : decode cX0_init 4 = .ok (.aload_n 0, 1) := by decide +kernel
theorem dX0_init_5 : decode cX0_init 5 = .ok (.bipush 15, 2) := by decide +kernel
theorem dX0_init_7 : decode cX0_init 7 = .ok (.putfield 9, 3) := by decide +kernel
theorem dX0_init_10 : decode cX0_init 10 = .ok (.aload_n 0, 1) := by decide +kernel
theorem dX0_init_11 : decode cX0_init 11 = .ok (.bipush 8, 2) := by decide +kernel
theorem dX0_init_13 : decode cX0_init 13 = .ok (.newarray .int, 2) := by decide +kernel
theorem dX0_init_15 : decode cX0_init 15 = .ok (.putfield 15, 3) := by decide +kernel
theorem dX0_init_18 : decode cX0_init 18 = .ok (.aload_n 0, 1) := by decide +kernel
theorem dX0_init_19 : decode cX0_init 19 = .ok (.bipush 8, 2) := by decide +kernel
theorem dX0_init_21 : decode cX0_init 21 = .ok (.newarray .int, 2) := by decide +kernel
theorem dX0_init_23 : decode cX0_init 23 = .ok (.putfield 19, 3) := by decide +kernel
theorem dX0_init_26 : decode cX0_init 26 = .ok (.aload_n 0, 1) := by decide +kernel
theorem dX0_init_27 : decode cX0_init 27 = .ok (.bipush 64, 2) := by decide +kernel
theorem dX0_init_29 : decode cX0_init 29 = .ok (.newarray .int, 2) := by decide +kernel
theorem dX0_init_31 : decode cX0_init 31 = .ok (.putfield 22, 3) := by decide +kernel
theorem dX0_init_34 : decode cX0_init 34 = .ok (.aload_n 0, 1) := by decide +kernel
theorem dX0_init_35 : decode cX0_init 35 = .ok (.bipush 10, 2) := by decide +kernel
theorem dX0_init_37 : decode cX0_init 37 = .ok (.newarray .int, 2) := by decide +kernel
theorem dX0_init_39 : decode cX0_init 39 = .ok (.putfield 25, 3) := by decide +kernel
theorem dX0_init_42 : decode cX0_init 42 = .ok (.aload_n 0, 1) := by decide +kernel
theorem dX0_init_43 : decode cX0_init 43 = .ok (.bipush 10, 2) := by decide +kernel
theorem dX0_init_45 : decode cX0_init 45 = .ok (.newarray .int, 2) := by decide +kernel
theorem dX0_init_47 : decode cX0_init 47 = .ok (.putfield 28, 3) := by decide +kernel
theorem dX0_init_50 : decode cX0_init 50 = .ok (.aload_n 0, 1) := by decide +kernel
theorem dX0_init_51 : decode cX0_init 51 = .ok (.bipush 10, 2) := by decide +kernel
theorem dX0_init_53 : decode cX0_init 53 = .ok (.newarray .int, 2) := by decide +kernel
theorem dX0_init_55 : decode cX0_init 55 = .ok (.putfield 31, 3) := by decide +kernel
theorem dX0_init_58 : decode cX0_init 58 = .ok (.aload_n 0, 1) := by decide +kernel
theorem dX0_init_59 : decode cX0_init 59 = .ok (.bipush 10, 2) := by decide +kernel
theorem dX0_init_61 : decode cX0_init 61 = .ok (.newarray .int, 2) := by decide +kernel
theorem dX0_init_63 : decode cX0_init 63 = .ok (.putfield 34, 3) := by decide +kernel
theorem dX0_init_66 : decode cX0_init 66 = .ok (.aload_n 0, 1) := by decide +kernel
theorem dX0_init_67 : decode cX0_init 67 = .ok (.bipush 10, 2) := by decide +kernel
theorem dX0_init_69 : decode cX0_init 69 = .ok (.newarray .int, 2) := by decide +kernel
theorem dX0_init_71 : decode cX0_init 71 = .ok (.putfield 37, 3) := by decide +kernel
theorem dX0_init_74 : decode cX0_init 74 = .ok (.aload_n 0, 1) := by decide +kernel
theorem dX0_init_75 : decode cX0_init 75 = .ok (.bipush 20, 2) := by decide +kernel
theorem dX0_init_77 : decode cX0_init 77 = .ok (.newarray .int, 2) := by decide +kernel
theorem dX0_init_79 : decode cX0_init 79 = .ok (.putfield 40, 3) := by decide +kernel
theorem dX0_init_82 : decode cX0_init 82 = .ok (.aload_n 0, 1) := by decide +kernel
theorem dX0_init_83 : decode cX0_init 83 = .ok (.bipush 20, 2) := by decide +kernel
theorem dX0_init_85 : decode cX0_init 85 = .ok (.newarray .int, 2) := by decide +kernel
theorem dX0_init_87 : decode cX0_init 87 = .ok (.putfield 43, 3) := by decide +kernel
theorem dX0_init_90 : decode cX0_init 90 = .ok (.aload_n 0, 1) := by decide +kernel
theorem dX0_init_91 : decode cX0_init 91 = .ok (.bipush 20, 2) := by decide +kernel
theorem dX0_init_93 : decode cX0_init 93 = .ok (.newarray .int, 2) := by decide +kernel
theorem dX0_init_95 : decode cX0_init 95 = .ok (.putfield 46, 3) := by decide +kernel
theorem dX0_init_98 : decode cX0_init 98 = .ok (.aload_n 0, 1) := by decide +kernel
theorem dX0_init_99 : decode cX0_init 99 = .ok (.getfield 46, 3) := by decide +kernel
theorem dX0_init_102 : decode cX0_init 102 = .ok (.iconst (-1), 1) := by decide +kernel
theorem dX0_init_103 : decode cX0_init 103 = .ok (.invokestatic 49, 3) := by decide +kernel
theorem dX0_init_106 : decode cX0_init 106 = .ok (.return_, 1) := by decide +kernel
theorem dX0_makeEmpty_0 : decode cX0_makeEmpty 0 = .ok (.aload_n 0, 1) := by decide +kernel
theorem dX0_makeEmpty_1 : decode cX0_makeEmpty 1 = .ok (.iconst 0, 1) := by decide +kernel
theorem dX0_makeEmpty_2 : decode cX0_makeEmpty 2 = .ok (.putfield 55, 3) := by decide +kernel
theorem dX0_makeEmpty_5 : decode cX0_makeEmpty 5 = .ok (.aload_n 0, 1) := by decide +kernel
theorem dX0_makeEmpty_6 : decode cX0_makeEmpty 6 = .ok (.iconst 0, 1) := by decide +kernel
theorem dX0_makeEmpty_7 : decode cX0_makeEmpty 7 = .ok (.putfield 58, 3) := by decide +kernel
theorem dX0_makeEmpty_10 : decode cX0_makeEmpty 10 = .ok (.aload_n 0, 1) := by decide +kernel
theorem dX0_makeEmpty_11 : decode cX0_makeEmpty 11 = .ok (.bipush 15, 2) := by decide +kernel
theorem dX0_makeEmpty_13 : decode cX0_makeEmpty 13 = .ok (.putfield 9, 3) := by decide +kernel
theorem dX0_makeEmpty_16 : decode cX0_makeEmpty 16 = .ok (.aload_n 0, 1) := by decide +kernel
theorem dX0_makeEmpty_17 : decode cX0_makeEmpty 17 = .ok (.iconst 0, 1) := by decide +kernel
theorem dX0_makeEmpty_18 : decode cX0_makeEmpty 18 = .ok (.putfield 61, 3) := by decide +kernel
theorem dX0_makeEmpty_21 : decode cX0_makeEmpty 21 = .ok (.aload_n 0, 1) := by decide +kernel
theorem dX0_makeEmpty_22 : decode cX0_makeEmpty 22 = .ok (.iconst 0, 1) := by decide +kernel
theorem dX0_makeEmpty_23 : decode cX0_makeEmpty 23 = .ok (.putfield 64, 3) := by decide +kernel
theorem dX0_makeEmpty_26 : decode cX0_makeEmpty 26 = .ok (.aload_n 0, 1) := by decide +kernel
theorem dX0_makeEmpty_27 : decode cX0_makeEmpty 27 = .ok (.getfield 46, 3) := by decide +kernel
theorem dX0_makeEmpty_30 : decode cX0_makeEmpty 30 = .ok (.iconst (-1), 1) := by decide +kernel
theorem dX0_makeEmpty_31 : decode cX0_makeEmpty 31 = .ok (.invokestatic 49, 3) := by decide +kernel
theorem dX0_makeEmpty_34 : decode cX0_makeEmpty 34 = .ok (.return_, 1) := by decide +kernel
theorem dX0_copyFrom_0 : decode cX0_copyFrom 0 = .ok (.aload_n 0, 1) := by decide +kernel
theorem dX0_copyFrom_1 : decode cX0_copyFrom 1 = .ok (.aload_n 1, 1) := by decide +kernel
theorem dX0_copyFrom_2 : decode cX0_copyFrom 2 = .ok (.getfield 55, 3) := by decide +kernel
theorem dX0_copyFrom_5 : decode cX0_copyFrom 5 = .ok (.putfield 55, 3) := by decide +kernel
theorem dX0_copyFrom_8 : decode cX0_copyFrom 8 = .ok (.aload_n 0, 1) := by decide +kernel
theorem dX0_copyFrom_9 : decode cX0_copyFrom 9 = .ok (.aload_n 1, 1) := by decide +kernel
theorem dX0_copyFrom_10 : decode cX0_copyFrom 10 = .ok (.getfield 58, 3) := by decide +kernel
theorem dX0_copyFrom_13 : decode cX0_copyFrom 13 = .ok (.putfield 58, 3) := by decide +kernel
theorem dX0_copyFrom_16 : decode cX0_copyFrom 16 = .ok (.aload_n 0, 1) := by decide +kernel
theorem dX0_copyFrom_17 : decode cX0_copyFrom 17 = .ok (.aload_n 1, 1) := by decide +kernel
theorem dX0_copyFrom_18 : decode cX0_copyFrom 18 = .ok (.getfield 9, 3) := by decide +kernel
theorem dX0_copyFrom_21 : decode cX0_copyFrom 21 = .ok (.putfield 9, 3) := by decide +kernel
theorem dX0_copyFrom_24 : decode cX0_copyFrom 24 = .ok (.aload_n 0, 1) := by decide +kernel
theorem dX0_copyFrom_25 : decode cX0_copyFrom 25 = .ok (.aload_n 1, 1) := by decide +kernel
theorem dX0_copyFrom_26 : decode cX0_copyFrom 26 = .ok (.getfield 61, 3) := by decide +kernel
theorem dX0_copyFrom_29 : decode cX0_copyFrom 29 = .ok (.putfield 61, 3) := by decide +kernel
theorem dX0_copyFrom_32 : decode cX0_copyFrom 32 = .ok (.aload_n 0, 1) := by decide +kernel
theorem dX0_copyFrom_33 : decode cX0_copyFrom 33 = .ok (.aload_n 1, 1) := by decide +kernel
theorem dX0_copyFrom_34 : decode cX0_copyFrom 34 = .ok (.getfield 64, 3) := by decide +kernel
theorem dX0_copyFrom_37 : decode cX0_copyFrom 37 = .ok (.putfield 64, 3) := by decide +kernel
theorem dX0_copyFrom_40 : decode cX0_copyFrom 40 = .ok (.aload_n 1, 1) := by decide +kernel
theorem dX0_copyFrom_41 : decode cX0_copyFrom 41 = .ok (.getfield 15, 3) := by decide +kernel
theorem dX0_copyFrom_44 : decode cX0_copyFrom 44 = .ok (.iconst 0, 1) := by decide +kernel
theorem dX0_copyFrom_45 : decode cX0_copyFrom 45 = .ok (.aload_n 0, 1) := by decide +kernel
theorem dX0_copyFrom_46 : decode cX0_copyFrom 46 = .ok (.getfield 15, 3) := by decide +kernel
theorem dX0_copyFrom_49 : decode cX0_copyFrom 49 = .ok (.iconst 0, 1) := by decide +kernel
theorem dX0_copyFrom_50 : decode cX0_copyFrom 50 = .ok (.bipush 8, 2) := by decide +kernel
theorem dX0_copyFrom_52 : decode cX0_copyFrom 52 = .ok (.invokestatic 67, 3) := by decide +kernel
theorem dX0_copyFrom_55 : decode cX0_copyFrom 55 = .ok (.aload_n 1, 1) := by decide +kernel
theorem dX0_copyFrom_56 : decode cX0_copyFrom 56 = .ok (.getfield 19, 3) := by decide +kernel
theorem dX0_copyFrom_59 : decode cX0_copyFrom 59 = .ok (.iconst 0, 1) := by decide +kernel
theorem dX0_copyFrom_60 : decode cX0_copyFrom 60 = .ok (.aload_n 0, 1) := by decide +kernel
theorem dX0_copyFrom_61 : decode cX0_copyFrom 61 = .ok (.getfield 19, 3) := by decide +kernel
theorem dX0_copyFrom_64 : decode cX0_copyFrom 64 = .ok (.iconst 0, 1) := by decide +kernel
theorem dX0_copyFrom_65 : decode cX0_copyFrom 65 = .ok (.bipush 8, 2) := by decide +kernel
theorem dX0_copyFrom_67 : decode cX0_copyFrom 67 = .ok (.invokestatic 67, 3) := by decide +kernel
theorem dX0_copyFrom_70 : decode cX0_copyFrom 70 = .ok (.aload_n 1, 1) := by decide +kernel
theorem dX0_copyFrom_71 : decode cX0_copyFrom 71 = .ok (.getfield 22, 3) := by decide +kernel
theorem dX0_copyFrom_74 : decode cX0_copyFrom 74 = .ok (.iconst 0, 1) := by decide +kernel
theorem dX0_copyFrom_75 : decode cX0_copyFrom 75 = .ok (.aload_n 0, 1) := by decide +kernel
theorem dX0_copyFrom_76 : decode cX0_copyFrom 76 = .ok (.getfield 22, 3) := by decide +kernel
theorem dX0_copyFrom_79 : decode cX0_copyFrom 79 = .ok (.iconst 0, 1) := by decide +kernel
theorem dX0_copyFrom_80 : decode cX0_copyFrom 80 = .ok (.bipush 64, 2) := by decide +kernel
theorem dX0_copyFrom_82 : decode cX0_copyFrom 82 = .ok (.invokestatic 67, 3) := by decide +kernel
theorem dX0_copyFrom_85 : decode cX0_copyFrom 85 = .ok (.aload_n 1, 1) := by decide +kernel
theorem dX0_copyFrom_86 : decode cX0_copyFrom 86 = .ok (.getfield 25, 3) := by decide +kernel
theorem dX0_copyFrom_89 : decode cX0_copyFrom 89 = .ok (.iconst 0, 1) := by decide +kernel
theorem dX0_copyFrom_90 : decode cX0_copyFrom 90 = .ok (.aload_n 0, 1) := by decide +kernel
theorem dX0_copyFrom_91 : decode cX0_copyFrom 91 = .ok (.getfield 25, 3) := by decide +kernel
theorem dX0_copyFrom_94 : decode cX0_copyFrom 94 = .ok (.iconst 0, 1) := by decide +kernel
theorem dX0_copyFrom_95 : decode cX0_copyFrom 95 = .ok (.bipush 10, 2) := by decide +kernel
theorem dX0_copyFrom_97 : decode cX0_copyFrom 97 = .ok (.invokestatic 67, 3) := by decide +kernel
theorem dX0_copyFrom_100 : decode cX0_copyFrom 100 = .ok (.aload_n 1, 1) := by decide +kernel
theorem dX0_copyFrom_101 : decode cX0_copyFrom 101 = .ok (.getfield 28, 3) := by decide +kernel
theorem dX0_copyFrom_104 : decode cX0_copyFrom 104 = .ok (.iconst 0, 1) := by decide +kernel
theorem dX0_copyFrom_105 : decode cX0_copyFrom 105 = .ok (.aload_n 0, 1) := by decide +kernel
theorem dX0_copyFrom_106 : decode cX0_copyFrom 106 = .ok (.getfield 28, 3) := by decide +kernel
theorem dX0_copyFrom_109 : decode cX0_copyFrom 109 = .ok (.iconst 0, 1) := by decide +kernel
theorem dX0_copyFrom_110 : decode cX0_copyFrom 110 = .ok (.bipush 10, 2) := by decide +kernel
theorem dX0_copyFrom_112 : decode cX0_copyFrom 112 = .ok (.invokestatic 67, 3) := by decide +kernel
theorem dX0_copyFrom_115 : decode cX0_copyFrom 115 = .ok (.aload_n 1, 1) := by decide +kernel
theorem dX0_copyFrom_116 : decode cX0_copyFrom 116 = .ok (.getfield 31, 3) := by decide +kernel
theorem dX0_copyFrom_119 : decode cX0_copyFrom 119 = .ok (.iconst 0, 1) := by decide +kernel
theorem dX0_copyFrom_120 : decode cX0_copyFrom 120 = .ok (.aload_n 0, 1) := by decide +kernel
theorem dX0_copyFrom_121 : decode cX0_copyFrom 121 = .ok (.getfield 31, 3) := by decide +kernel
theorem dX0_copyFrom_124 : decode cX0_copyFrom 124 = .ok (.iconst 0, 1) := by decide +kernel
theorem dX0_copyFrom_125 : decode cX0_copyFrom 125 = .ok (.bipush 10, 2) := by decide +kernel
theorem dX0_copyFrom_127 : decode cX0_copyFrom 127 = .ok (.invokestatic 67, 3) := by decide +kernel
theorem dX0_copyFrom_130 : decode cX0_copyFrom 130 = .ok (.aload_n 1, 1) := by decide +kernel
theorem dX0_copyFrom_131 : decode cX0_copyFrom 131 = .ok (.getfield 34, 3) := by decide +kernel
theorem dX0_copyFrom_134 : decode cX0_copyFrom 134 = .ok (.iconst 0, 1) := by decide +kernel
theorem dX0_copyFrom_135 : decode cX0_copyFrom 135 = .ok (.aload_n 0, 1) := by decide +kernel
theorem dX0_copyFrom_136 : decode cX0_copyFrom 136 = .ok (.getfield 34, 3) := by decide +kernel
theorem dX0_copyFrom_139 : decode cX0_copyFrom 139 = .ok (.iconst 0, 1) := by decide +kernel
theorem dX0_copyFrom_140 : decode cX0_copyFrom 140 = .ok (.bipush 10, 2) := by decide +kernel
theorem dX0_copyFrom_142 : decode cX0_copyFrom 142 = .ok (.invokestatic 67, 3) := by decide +kernel
theorem dX0_copyFrom_145 : decode cX0_copyFrom 145 = .ok (.aload_n 1, 1) := by decide +kernel
theorem dX0_copyFrom_146 : decode cX0_copyFrom 146 = .ok (.getfield 37, 3) := by decide +kernel
theorem dX0_copyFrom_149 : decode cX0_copyFrom 149 = .ok (.iconst 0, 1) := by decide +kernel
theorem dX0_copyFrom_150 : decode cX0_copyFrom 150 = .ok (.aload_n 0, 1) := by decide +kernel
theorem dX0_copyFrom_151 : decode cX0_copyFrom 151 = .ok (.getfield 37, 3) := by decide +kernel
theorem dX0_copyFrom_154 : decode cX0_copyFrom 154 = .ok (.iconst 0, 1) := by decide +kernel
theorem dX0_copyFrom_155 : decode cX0_copyFrom 155 = .ok (.bipush 10, 2) := by decide +kernel
theorem dX0_copyFrom_157 : decode cX0_copyFrom 157 = .ok (.invokestatic 67, 3) := by decide +kernel
theorem dX0_copyFrom_160 : decode cX0_copyFrom 160 = .ok (.aload_n 1, 1) := by decide +kernel
theorem dX0_copyFrom_161 : decode cX0_copyFrom 161 = .ok (.getfield 40, 3) := by decide +kernel
theorem dX0_copyFrom_164 : decode cX0_copyFrom 164 = .ok (.iconst 0, 1) := by decide +kernel
theorem dX0_copyFrom_165 : decode cX0_copyFrom 165 = .ok (.aload_n 0, 1) := by decide +kernel
theorem dX0_copyFrom_166 : decode cX0_copyFrom 166 = .ok (.getfield 40, 3) := by decide +kernel
theorem dX0_copyFrom_169 : decode cX0_copyFrom 169 = .ok (.iconst 0, 1) := by decide +kernel
theorem dX0_copyFrom_170 : decode cX0_copyFrom 170 = .ok (.bipush 20, 2) := by decide +kernel
theorem dX0_copyFrom_172 : decode cX0_copyFrom 172 = .ok (.invokestatic 67, 3) := by decide +kernel
theorem dX0_copyFrom_175 : decode cX0_copyFrom 175 = .ok (.aload_n 1, 1) := by decide +kernel
theorem dX0_copyFrom_176 : decode cX0_copyFrom 176 = .ok (.getfield 43, 3) := by decide +kernel
theorem dX0_copyFrom_179 : decode cX0_copyFrom 179 = .ok (.iconst 0, 1) := by decide +kernel
theorem dX0_copyFrom_180 : decode cX0_copyFrom 180 = .ok (.aload_n 0, 1) := by decide +kernel
theorem dX0_copyFrom_181 : decode cX0_copyFrom 181 = .ok (.getfield 43, 3) := by decide +kernel
theorem dX0_copyFrom_184 : decode cX0_copyFrom 184 = .ok (.iconst 0, 1) := by decide +kernel
theorem dX0_copyFrom_185 : decode cX0_copyFrom 185 = .ok (.bipush 20, 2) := by decide +kernel
theorem dX0_copyFrom_187 : decode cX0_copyFrom 187 = .ok (.invokestatic 67, 3) := by decide +kernel
theorem dX0_copyFrom_190 : decode cX0_copyFrom 190 = .ok (.aload_n 1, 1) := by decide +kernel
theorem dX0_copyFrom_191 : decode cX0_copyFrom 191 = .ok (.getfield 46, 3) := by decide +kernel
theorem dX0_copyFrom_194 : decode cX0_copyFrom 194 = .ok (.iconst 0, 1) := by decide +kernel
theorem dX0_copyFrom_195 : decode cX0_copyFrom 195 = .ok (.aload_n 0, 1) := by decide +kernel
theorem dX0_copyFrom_196 : decode cX0_copyFrom 196 = .ok (.getfield 46, 3) := by decide +kernel
theorem dX0_copyFrom_199 : decode cX0_copyFrom 199 = .ok (.iconst 0, 1) := by decide +kernel
theorem dX0_copyFrom_200 : decode cX0_copyFrom 200 = .ok (.bipush 20, 2) := by decide +kernel
theorem dX0_copyFrom_202 : decode cX0_copyFrom 202 = .ok (.invokestatic 67, 3) := by decide +kernel
theorem dX0_copyFrom_205 : decode cX0_copyFrom 205 = .ok (.return_, 1) := by decide +kernel
theorem dX0_hasStand_0 : decode cX0_hasStand 0 = .ok (.iload_n 1, 1) := by decide +kernel
theorem dX0_hasStand_1 : decode cX0_hasStand 1 = .ok (.ifCond .lt 21, 3) := by decide +kernel
theorem dX0_hasStand_4 : decode cX0_hasStand 4 = .ok (.iload_n 1, 1) := by decide +kernel
theorem dX0_hasStand_5 : decode cX0_hasStand 5 = .ok (.aload_n 0, 1) := by decide +kernel
theorem dX0_hasStand_6 : decode cX0_hasStand 6 = .ok (.getfield 55, 3) := by decide +kernel
theorem dX0_hasStand_9 : decode cX0_hasStand 9 = .ok (.if_icmp .ge 13, 3) := by decide +kernel
theorem dX0_hasStand_12 : decode cX0_hasStand 12 = .ok (.iload_n 1, 1) := by decide +kernel
theorem dX0_hasStand_13 : decode cX0_hasStand 13 = .ok (.bipush 8, 2) := by decide +kernel
theorem dX0_hasStand_15 : decode cX0_hasStand 15 = .ok (.if_icmp .ge 7, 3) := by decide +kernel
theorem dX0_hasStand_18 : decode cX0_hasStand 18 = .ok (.iconst 1, 1) := by decide +kernel
theorem dX0_hasStand_19 : decode cX0_hasStand 19 = .ok (.goto 4, 3) := by decide +kernel
theorem dX0_hasStand_22 : decode cX0_hasStand 22 = .ok (.iconst 0, 1) := by decide +kernel
theorem dX0_hasStand_23 : decode cX0_hasStand 23 = .ok (.ireturn, 1) := by decide +kernel
theorem dX0_hasTurn_0 : decode cX0_hasTurn 0 = .ok (.iload_n 1, 1) := by decide +kernel
theorem dX0_hasTurn_1 : decode cX0_hasTurn 1 = .ok (.ifCond .lt 21, 3) := by decide +kernel
theorem dX0_hasTurn_4 : decode cX0_hasTurn 4 = .ok (.iload_n 1, 1) := by decide +kernel
theorem dX0_hasTurn_5 : decode cX0_hasTurn 5 = .ok (.aload_n 0, 1) := by decide +kernel
theorem dX0_hasTurn_6 : decode cX0_hasTurn 6 = .ok (.getfield 58, 3) := by decide +kernel
theorem dX0_hasTurn_9 : decode cX0_hasTurn 9 = .ok (.if_icmp .ge 13, 3) := by decide +kernel
theorem dX0_hasTurn_12 : decode cX0_hasTurn 12 = .ok (.iload_n 1, 1) := by decide +kernel
theorem dX0_hasTurn_13 : decode cX0_hasTurn 13 = .ok (.bipush 10, 2) := by decide +kernel
theorem dX0_hasTurn_15 : decode cX0_hasTurn 15 = .ok (.if_icmp .ge 7, 3) := by decide +kernel
theorem dX0_hasTurn_18 : decode cX0_hasTurn 18 = .ok (.iconst 1, 1) := by decide +kernel
theorem dX0_hasTurn_19 : decode cX0_hasTurn 19 = .ok (.goto 4, 3) := by decide +kernel
theorem dX0_hasTurn_22 : decode cX0_hasTurn 22 = .ok (.iconst 0, 1) := by decide +kernel
theorem dX0_hasTurn_23 : decode cX0_hasTurn 23 = .ok (.ireturn, 1) := by decide +kernel
theorem dX0_hasTow_0 : decode cX0_hasTow 0 = .ok (.aload_n 0, 1) := by decide +kernel
theorem dX0_hasTow_1 : decode cX0_hasTow 1 = .ok (.getfield 37, 3) := by decide +kernel
theorem dX0_hasTow_4 : decode cX0_hasTow 4 = .ok (.iload_n 1, 1) := by decide +kernel
theorem dX0_hasTow_5 : decode cX0_hasTow 5 = .ok (.iaload, 1) := by decide +kernel
theorem dX0_hasTow_6 : decode cX0_hasTow 6 = .ok (.ifCond .lt 7, 3) := by decide +kernel
theorem dX0_hasTow_9 : decode cX0_hasTow 9 = .ok (.iconst 1, 1) := by decide +kernel
theorem dX0_hasTow_10 : decode cX0_hasTow 10 = .ok (.goto 4, 3) := by decide +kernel
theorem dX0_hasTow_13 : decode cX0_hasTow 13 = .ok (.iconst 0, 1) := by decide +kernel
theorem dX0_hasTow_14 : decode cX0_hasTow 14 = .ok (.ireturn, 1) := by decide +kernel
theorem dX0_hasStay_0 : decode cX0_hasStay 0 = .ok (.aload_n 0, 1) := by decide +kernel
theorem dX0_hasStay_1 : decode cX0_hasStay 1 = .ok (.iload_n 1, 1) := by decide +kernel
theorem dX0_hasStay_2 : decode cX0_hasStay 2 = .ok (.invokevirtual 73, 3) := by decide +kernel
theorem dX0_hasStay_5 : decode cX0_hasStay 5 = .ok (.ifCond .eq 24, 3) := by decide +kernel
theorem dX0_hasStay_8 : decode cX0_hasStay 8 = .ok (.iload_n 2, 1) := by decide +kernel
theorem dX0_hasStay_9 : decode cX0_hasStay 9 = .ok (.ifCond .eq 16, 3) := by decide +kernel
theorem dX0_hasStay_12 : decode cX0_hasStay 12 = .ok (.iload_n 2, 1) := by decide +kernel
theorem dX0_hasStay_13 : decode cX0_hasStay 13 = .ok (.iconst 1, 1) := by decide +kernel
theorem dX0_hasStay_14 : decode cX0_hasStay 14 = .ok (.if_icmp .ne 15, 3) := by decide +kernel
theorem dX0_hasStay_17 : decode cX0_hasStay 17 = .ok (.aload_n 0, 1) := by decide +kernel
theorem dX0_hasStay_18 : decode cX0_hasStay 18 = .ok (.iload_n 1, 1) := by decide +kernel
theorem dX0_hasStay_19 : decode cX0_hasStay 19 = .ok (.invokevirtual 77, 3) := by decide +kernel
theorem dX0_hasStay_22 : decode cX0_hasStay 22 = .ok (.ifCond .eq 7, 3) := by decide +kernel
theorem dX0_hasStay_25 : decode cX0_hasStay 25 = .ok (.iconst 1, 1) := by decide +kernel
theorem dX0_hasStay_26 : decode cX0_hasStay 26 = .ok (.goto 4, 3) := by decide +kernel
theorem dX0_hasStay_29 : decode cX0_hasStay 29 = .ok (.iconst 0, 1) := by decide +kernel
theorem dX0_hasStay_30 : decode cX0_hasStay 30 = .ok (.ireturn, 1) := by decide +kernel
theorem dX0_isOnStand_0 : decode cX0_isOnStand 0 = .ok (.aload_n 0, 1) := by decide +kernel
theorem dX0_isOnStand_1 : decode cX0_isOnStand 1 = .ok (.getfield 46, 3) := by decide +kernel
theorem dX0_isOnStand_4 : decode cX0_isOnStand 4 = .ok (.iload_n 1, 1) := by decide +kernel
theorem dX0_isOnStand_5 : decode cX0_isOnStand 5 = .ok (.iaload, 1) := by decide +kernel
theorem dX0_isOnStand_6 : decode cX0_isOnStand 6 = .ok (.ifCond .lt 7, 3) := by decide +kernel
theorem dX0_isOnStand_9 : decode cX0_isOnStand 9 = .ok (.iconst 1, 1) := by decide +kernel
theorem dX0_isOnStand_10 : decode cX0_isOnStand 10 = .ok (.goto 4, 3) := by decide +kernel
theorem dX0_isOnStand_13 : decode cX0_isOnStand 13 = .ok (.iconst 0, 1) := by decide +kernel
theorem dX0_isOnStand_14 : decode cX0_isOnStand 14 = .ok (.ireturn, 1) := by decide +kernel
theorem dX0_newStand_0 : decode cX0_newStand 0 = .ok (.aload_n 0, 1) := by decide +kernel
theorem dX0_newStand_1 : decode cX0_newStand 1 = .ok (.getfield 55, 3) := by decide +kernel
theorem dX0_newStand_4 : decode cX0_newStand 4 = .ok (.istore_n 3, 1) := by decide +kernel
theorem dX0_newStand_5 : decode cX0_newStand 5 = .ok (.aload_n 0, 1) := by decide +kernel
theorem dX0_newStand_6 : decode cX0_newStand 6 = .ok (.getfield 15, 3) := by decide +kernel
theorem dX0_newStand_9 : decode cX0_newStand 9 = .ok (.iload_n 3, 1) := by decide +kernel
theorem dX0_newStand_10 : decode cX0_newStand 10 = .ok (.iload_n 1, 1) := by decide +kernel
theorem dX0_newStand_11 : decode cX0_newStand 11 = .ok (.iastore, 1) := by decide +kernel
theorem dX0_newStand_12 : decode cX0_newStand 12 = .ok (.aload_n 0, 1) := by decide +kernel
theorem dX0_newStand_13 : decode cX0_newStand 13 = .ok (.getfield 19, 3) := by decide +kernel
theorem dX0_newStand_16 : decode cX0_newStand 16 = .ok (.iload_n 3, 1) := by decide +kernel
theorem dX0_newStand_17 : decode cX0_newStand 17 = .ok (.iload_n 2, 1) := by decide +kernel
theorem dX0_newStand_18 : decode cX0_newStand 18 = .ok (.iastore, 1) := by decide +kernel
theorem dX0_newStand_19 : decode cX0_newStand 19 = .ok (.aload_n 0, 1) := by decide +kernel
theorem dX0_newStand_20 : decode cX0_newStand 20 = .ok (.dup, 1) := by decide +kernel
theorem dX0_newStand_21 : decode cX0_newStand 21 = .ok (.getfield 64, 3) := by decide +kernel
theorem dX0_newStand_24 : decode cX0_newStand 24 = .ok (.iconst 1, 1) := by decide +kernel
theorem dX0_newStand_25 : decode cX0_newStand 25 = .ok (.iload_n 3, 1) := by decide +kernel
theorem dX0_newStand_26 : decode cX0_newStand 26 = .ok (.ishl, 1) := by decide +kernel
theorem dX0_newStand_27 : decode cX0_newStand 27 = .ok (.ior, 1) := by decide +kernel
theorem dX0_newStand_28 : decode cX0_newStand 28 = .ok (.putfield 64, 3) := by decide +kernel
theorem dX0_newStand_31 : decode cX0_newStand 31 = .ok (.iconst 0, 1) := by decide +kernel
theorem dX0_newStand_32 : decode cX0_newStand 32 = .ok (.istore 4, 2) := by decide +kernel
theorem dX0_newStand_34 : decode cX0_newStand 34 = .ok (.iload 4, 2) := by decide +kernel
theorem dX0_newStand_36 : decode cX0_newStand 36 = .ok (.bipush 8, 2) := by decide +kernel
theorem dX0_newStand_38 : decode cX0_newStand 38 = .ok (.if_icmp .ge 35, 3) := by decide +kernel
theorem dX0_newStand_41 : decode cX0_newStand 41 = .ok (.aload_n 0, 1) := by decide +kernel
theorem dX0_newStand_42 : decode cX0_newStand 42 = .ok (.getfield 22, 3) := by decide +kernel
theorem dX0_newStand_45 : decode cX0_newStand 45 = .ok (.iload_n 3, 1) := by decide +kernel
theorem dX0_newStand_46 : decode cX0_newStand 46 = .ok (.bipush 8, 2) := by decide +kernel
theorem dX0_newStand_48 : decode cX0_newStand 48 = .ok (.imul, 1) := by decide +kernel
theorem dX0_newStand_49 : decode cX0_newStand 49 = .ok (.iload 4, 2) := by decide +kernel
theorem dX0_newStand_51 : decode cX0_newStand 51 = .ok (.iadd, 1) := by decide +kernel
theorem dX0_newStand_52 : decode cX0_newStand 52 = .ok (.iconst (-1), 1) := by decide +kernel
theorem dX0_newStand_53 : decode cX0_newStand 53 = .ok (.iastore, 1) := by decide +kernel
theorem dX0_newStand_54 : decode cX0_newStand 54 = .ok (.aload_n 0, 1) := by decide +kernel
theorem dX0_newStand_55 : decode cX0_newStand 55 = .ok (.getfield 22, 3) := by decide +kernel
theorem dX0_newStand_58 : decode cX0_newStand 58 = .ok (.iload 4, 2) := by decide +kernel
theorem dX0_newStand_60 : decode cX0_newStand 60 = .ok (.bipush 8, 2) := by decide +kernel
theorem dX0_newStand_62 : decode cX0_newStand 62 = .ok (.imul, 1) := by decide +kernel
theorem dX0_newStand_63 : decode cX0_newStand 63 = .ok (.iload_n 3, 1) := by decide +kernel
theorem dX0_newStand_64 : decode cX0_newStand 64 = .ok (.iadd, 1) := by decide +kernel
theorem dX0_newStand_65 : decode cX0_newStand 65 = .ok (.iconst (-1), 1) := by decide +kernel
theorem dX0_newStand_66 : decode cX0_newStand 66 = .ok (.iastore, 1) := by decide +kernel
theorem dX0_newStand_67 : decode cX0_newStand 67 = .ok (.iinc 4 1, 3) := by decide +kernel
theorem dX0_newStand_70 : decode cX0_newStand 70 = .ok (.goto (-36), 3) := by decide +kernel
theorem dX0_newStand_73 : decode cX0_newStand 73 = .ok (.aload_n 0, 1) := by decide +kernel
theorem dX0_newStand_74 : decode cX0_newStand 74 = .ok (.iload_n 3, 1) := by decide +kernel
theorem dX0_newStand_75 : decode cX0_newStand 75 = .ok (.iconst 1, 1) := by decide +kernel
theorem dX0_newStand_76 : decode cX0_newStand 76 = .ok (.iadd, 1) := by decide +kernel
theorem dX0_newStand_77 : decode cX0_newStand 77 = .ok (.putfield 55, 3) := by decide +kernel
theorem dX0_newStand_80 : decode cX0_newStand 80 = .ok (.iload_n 3, 1) := by decide +kernel
theorem dX0_newStand_81 : decode cX0_newStand 81 = .ok (.ireturn, 1) := by decide +kernel
theorem dX0_isOpened_0 : decode cX0_isOpened 0 = .ok (.aload_n 0, 1) := by decide +kernel
theorem dX0_isOpened_1 : decode cX0_isOpened 1 = .ok (.getfield 64, 3) := by decide +kernel
theorem dX0_isOpened_4 : decode cX0_isOpened 4 = .ok (.iload_n 1, 1) := by decide +kernel
theorem dX0_isOpened_5 : decode cX0_isOpened 5 = .ok (.ishr, 1) := by decide +kernel
theorem dX0_isOpened_6 : decode cX0_isOpened 6 = .ok (.iconst 1, 1) := by decide +kernel
theorem dX0_isOpened_7 : decode cX0_isOpened 7 = .ok (.iand, 1) := by decide +kernel
theorem dX0_isOpened_8 : decode cX0_isOpened 8 = .ok (.ifCond .eq 7, 3) := by decide +kernel
theorem dX0_isOpened_11 : decode cX0_isOpened 11 = .ok (.iconst 1, 1) := by decide +kernel
theorem dX0_isOpened_12 : decode cX0_isOpened 12 = .ok (.goto 4, 3) := by decide +kernel
theorem dX0_isOpened_15 : decode cX0_isOpened 15 = .ok (.iconst 0, 1) := by decide +kernel
theorem dX0_isOpened_16 : decode cX0_isOpened 16 = .ok (.ireturn, 1) := by decide +kernel
theorem dX0_changeOpen_0 : decode cX0_changeOpen 0 = .ok (.aload_n 0, 1) := by decide +kernel
theorem dX0_changeOpen_1 : decode cX0_changeOpen 1 = .ok (.iload_n 1, 1) := by decide +kernel
theorem dX0_changeOpen_2 : decode cX0_changeOpen 2 = .ok (.invokevirtual 80, 3) := by decide +kernel
theorem dX0_changeOpen_5 : decode cX0_changeOpen 5 = .ok (.istore_n 3, 1) := by decide +kernel
theorem dX0_changeOpen_6 : decode cX0_changeOpen 6 = .ok (.aload_n 0, 1) := by decide +kernel
theorem dX0_changeOpen_7 : decode cX0_changeOpen 7 = .ok (.iload_n 2, 1) := by decide +kernel
theorem dX0_changeOpen_8 : decode cX0_changeOpen 8 = .ok (.ifCond .eq 14, 3) := by decide +kernel
theorem dX0_changeOpen_11 : decode cX0_changeOpen 11 = .ok (.aload_n 0, 1) := by decide +kernel
theorem dX0_changeOpen_12 : decode cX0_changeOpen 12 = .ok (.getfield 64, 3) := by decide +kernel
theorem dX0_changeOpen_15 : decode cX0_changeOpen 15 = .ok (.iconst 1, 1) := by decide +kernel
theorem dX0_changeOpen_16 : decode cX0_changeOpen 16 = .ok (.iload_n 1, 1) := by decide +kernel
theorem dX0_changeOpen_17 : decode cX0_changeOpen 17 = .ok (.ishl, 1) := by decide +kernel
theorem dX0_changeOpen_18 : decode cX0_changeOpen 18 = .ok (.ior, 1) := by decide +kernel
theorem dX0_changeOpen_19 : decode cX0_changeOpen 19 = .ok (.goto 13, 3) := by decide +kernel
theorem dX0_changeOpen_22 : decode cX0_changeOpen 22 = .ok (.aload_n 0, 1) := by decide +kernel
theorem dX0_changeOpen_23 : decode cX0_changeOpen 23 = .ok (.getfield 64, 3) := by decide +kernel
theorem dX0_changeOpen_26 : decode cX0_changeOpen 26 = .ok (.iconst 1, 1) := by decide +kernel
theorem dX0_changeOpen_27 : decode cX0_changeOpen 27 = .ok (.iload_n 1, 1) := by decide +kernel
theorem dX0_changeOpen_28 : decode cX0_changeOpen 28 = .ok (.ishl, 1) := by decide +kernel
theorem dX0_changeOpen_29 : decode cX0_changeOpen 29 = .ok (.iconst (-1), 1) := by decide +kernel
theorem dX0_changeOpen_30 : decode cX0_changeOpen 30 = .ok (.ixor, 1) := by decide +kernel
theorem dX0_changeOpen_31 : decode cX0_changeOpen 31 = .ok (.iand, 1) := by decide +kernel
theorem dX0_changeOpen_32 : decode cX0_changeOpen 32 = .ok (.putfield 64, 3) := by decide +kernel
theorem dX0_changeOpen_35 : decode cX0_changeOpen 35 = .ok (.iload_n 3, 1) := by decide +kernel
theorem dX0_changeOpen_36 : decode cX0_changeOpen 36 = .ok (.ireturn, 1) := by decide +kernel
theorem dX0_changeLimit_0 : decode cX0_changeLimit 0 = .ok (.aload_n 0, 1) := by decide +kernel
theorem dX0_changeLimit_1 : decode cX0_changeLimit 1 = .ok (.getfield 22, 3) := by decide +kernel
theorem dX0_changeLimit_4 : decode cX0_changeLimit 4 = .ok (.iload_n 1, 1) := by decide +kernel
theorem dX0_changeLimit_5 : decode cX0_changeLimit 5 = .ok (.bipush 8, 2) := by decide +kernel
theorem dX0_changeLimit_7 : decode cX0_changeLimit 7 = .ok (.imul, 1) := by decide +kernel
theorem dX0_changeLimit_8 : decode cX0_changeLimit 8 = .ok (.iload_n 2, 1) := by decide +kernel
theorem dX0_changeLimit_9 : decode cX0_changeLimit 9 = .ok (.iadd, 1) := by decide +kernel
theorem dX0_changeLimit_10 : decode cX0_changeLimit 10 = .ok (.iaload, 1) := by decide +kernel
theorem dX0_changeLimit_11 : decode cX0_changeLimit 11 = .ok (.istore 4, 2) := by decide +kernel
theorem dX0_changeLimit_13 : decode cX0_changeLimit 13 = .ok (.aload_n 0, 1) := by decide +kernel
theorem dX0_changeLimit_14 : decode cX0_changeLimit 14 = .ok (.getfield 22, 3) := by decide +kernel
theorem dX0_changeLimit_17 : decode cX0_changeLimit 17 = .ok (.iload_n 1, 1) := by decide +kernel
theorem dX0_changeLimit_18 : decode cX0_changeLimit 18 = .ok (.bipush 8, 2) := by decide +kernel
theorem dX0_changeLimit_20 : decode cX0_changeLimit 20 = .ok (.imul, 1) := by decide +kernel
theorem dX0_changeLimit_21 : decode cX0_changeLimit 21 = .ok (.iload_n 2, 1) := by decide +kernel
theorem dX0_changeLimit_22 : decode cX0_changeLimit 22 = .ok (.iadd, 1) := by decide +kernel
theorem dX0_changeLimit_23 : decode cX0_changeLimit 23 = .ok (.iload_n 3, 1) := by decide +kernel
theorem dX0_changeLimit_24 : decode cX0_changeLimit 24 = .ok (.iastore, 1) := by decide +kernel
theorem dX0_changeLimit_25 : decode cX0_changeLimit 25 = .ok (.aload_n 0, 1) := by decide +kernel
theorem dX0_changeLimit_26 : decode cX0_changeLimit 26 = .ok (.getfield 22, 3) := by decide +kernel
theorem dX0_changeLimit_29 : decode cX0_changeLimit 29 = .ok (.iload_n 2, 1) := by decide +kernel
theorem dX0_changeLimit_30 : decode cX0_changeLimit 30 = .ok (.bipush 8, 2) := by decide +kernel
theorem dX0_changeLimit_32 : decode cX0_changeLimit 32 = .ok (.imul, 1) := by decide +kernel
theorem dX0_changeLimit_33 : decode cX0_changeLimit 33 = .ok (.iload_n 1, 1) := by decide +kernel
theorem dX0_changeLimit_34 : decode cX0_changeLimit 34 = .ok (.iadd, 1) := by decide +kernel
theorem dX0_changeLimit_35 : decode cX0_changeLimit 35 = .ok (.iload_n 3, 1) := by decide +kernel
theorem dX0_changeLimit_36 : decode cX0_changeLimit 36 = .ok (.iastore, 1) := by decide +kernel
theorem dX0_changeLimit_37 : decode cX0_changeLimit 37 = .ok (.iload 4, 2) := by decide +kernel
theorem dX0_changeLimit_39 : decode cX0_changeLimit 39 = .ok (.ireturn, 1) := by decide +kernel
theorem dX0_newTurn_0 : decode cX0_newTurn 0 = .ok (.aload_n 0, 1) := by decide +kernel
theorem dX0_newTurn_1 : decode cX0_newTurn 1 = .ok (.getfield 58, 3) := by decide +kernel
theorem dX0_newTurn_4 : decode cX0_newTurn 4 = .ok (.istore 5, 2) := by decide +kernel
theorem dX0_newTurn_6 : decode cX0_newTurn 6 = .ok (.aload_n 0, 1) := by decide +kernel
theorem dX0_newTurn_7 : decode cX0_newTurn 7 = .ok (.getfield 25, 3) := by decide +kernel
theorem dX0_newTurn_10 : decode cX0_newTurn 10 = .ok (.iload 5, 2) := by decide +kernel
theorem dX0_newTurn_12 : decode cX0_newTurn 12 = .ok (.iload_n 1, 1) := by decide +kernel
theorem dX0_newTurn_13 : decode cX0_newTurn 13 = .ok (.iastore, 1) := by decide +kernel
theorem dX0_newTurn_14 : decode cX0_newTurn 14 = .ok (.aload_n 0, 1) := by decide +kernel
theorem dX0_newTurn_15 : decode cX0_newTurn 15 = .ok (.getfield 28, 3) := by decide +kernel
theorem dX0_newTurn_18 : decode cX0_newTurn 18 = .ok (.iload 5, 2) := by decide +kernel
theorem dX0_newTurn_20 : decode cX0_newTurn 20 = .ok (.iload_n 2, 1) := by decide +kernel
theorem dX0_newTurn_21 : decode cX0_newTurn 21 = .ok (.iastore, 1) := by decide +kernel
theorem dX0_newTurn_22 : decode cX0_newTurn 22 = .ok (.aload_n 0, 1) := by decide +kernel
theorem dX0_newTurn_23 : decode cX0_newTurn 23 = .ok (.getfield 31, 3) := by decide +kernel
theorem dX0_newTurn_26 : decode cX0_newTurn 26 = .ok (.iload 5, 2) := by decide +kernel
theorem dX0_newTurn_28 : decode cX0_newTurn 28 = .ok (.iload_n 3, 1) := by decide +kernel
theorem dX0_newTurn_29 : decode cX0_newTurn 29 = .ok (.iastore, 1) := by decide +kernel
theorem dX0_newTurn_30 : decode cX0_newTurn 30 = .ok (.aload_n 0, 1) := by decide +kernel
theorem dX0_newTurn_31 : decode cX0_newTurn 31 = .ok (.getfield 34, 3) := by decide +kernel
theorem dX0_newTurn_34 : decode cX0_newTurn 34 = .ok (.iload 5, 2) := by decide +kernel
theorem dX0_newTurn_36 : decode cX0_newTurn 36 = .ok (.iload 4, 2) := by decide +kernel
theorem dX0_newTurn_38 : decode cX0_newTurn 38 = .ok (.iastore, 1) := by decide +kernel
theorem dX0_newTurn_39 : decode cX0_newTurn 39 = .ok (.aload_n 0, 1) := by decide +kernel
theorem dX0_newTurn_40 : decode cX0_newTurn 40 = .ok (.getfield 37, 3) := by decide +kernel
theorem dX0_newTurn_43 : decode cX0_newTurn 43 = .ok (.iload 5, 2) := by decide +kernel
theorem dX0_newTurn_45 : decode cX0_newTurn 45 = .ok (.iconst (-1), 1) := by decide +kernel
theorem dX0_newTurn_46 : decode cX0_newTurn 46 = .ok (.iastore, 1) := by decide +kernel
theorem dX0_newTurn_47 : decode cX0_newTurn 47 = .ok (.aload_n 0, 1) := by decide +kernel
theorem dX0_newTurn_48 : decode cX0_newTurn 48 = .ok (.iload 5, 2) := by decide +kernel
theorem dX0_newTurn_50 : decode cX0_newTurn 50 = .ok (.invokevirtual 83, 3) := by decide +kernel
theorem dX0_newTurn_53 : decode cX0_newTurn 53 = .ok (.aload_n 0, 1) := by decide +kernel
theorem dX0_newTurn_54 : decode cX0_newTurn 54 = .ok (.iload 5, 2) := by decide +kernel
theorem dX0_newTurn_56 : decode cX0_newTurn 56 = .ok (.iconst 1, 1) := by decide +kernel
theorem dX0_newTurn_57 : decode cX0_newTurn 57 = .ok (.iadd, 1) := by decide +kernel
theorem dX0_newTurn_58 : decode cX0_newTurn 58 = .ok (.putfield 58, 3) := by decide +kernel
theorem dX0_newTurn_61 : decode cX0_newTurn 61 = .ok (.iload 5, 2) := by decide +kernel
theorem dX0_newTurn_63 : decode cX0_newTurn 63 = .ok (.ireturn, 1) := by decide +kernel
theorem dX0_setStays_0 : decode cX0_setStays 0 = .ok (.iconst 2, 1) := by decide +kernel
theorem dX0_setStays_1 : decode cX0_setStays 1 = .ok (.iload_n 1, 1) := by decide +kernel
theorem dX0_setStays_2 : decode cX0_setStays 2 = .ok (.imul, 1) := by decide +kernel
theorem dX0_setStays_3 : decode cX0_setStays 3 = .ok (.istore_n 2, 1) := by decide +kernel
theorem dX0_setStays_4 : decode cX0_setStays 4 = .ok (.aload_n 0, 1) := by decide +kernel
theorem dX0_setStays_5 : decode cX0_setStays 5 = .ok (.getfield 31, 3) := by decide +kernel
theorem dX0_setStays_8 : decode cX0_setStays 8 = .ok (.iload_n 1, 1) := by decide +kernel
theorem dX0_setStays_9 : decode cX0_setStays 9 = .ok (.iaload, 1) := by decide +kernel
theorem dX0_setStays_10 : decode cX0_setStays 10 = .ok (.istore_n 3, 1) := by decide +kernel
theorem dX0_setStays_11 : decode cX0_setStays 11 = .ok (.aload_n 0, 1) := by decide +kernel
theorem dX0_setStays_12 : decode cX0_setStays 12 = .ok (.getfield 40, 3) := by decide +kernel
theorem dX0_setStays_15 : decode cX0_setStays 15 = .ok (.iload_n 2, 1) := by decide +kernel
theorem dX0_setStays_16 : decode cX0_setStays 16 = .ok (.aload_n 0, 1) := by decide +kernel
theorem dX0_setStays_17 : decode cX0_setStays 17 = .ok (.getfield 28, 3) := by decide +kernel
theorem dX0_setStays_20 : decode cX0_setStays 20 = .ok (.iload_n 1, 1) := by decide +kernel
theorem dX0_setStays_21 : decode cX0_setStays 21 = .ok (.iaload, 1) := by decide +kernel
theorem dX0_setStays_22 : decode cX0_setStays 22 = .ok (.iastore, 1) := by decide +kernel
theorem dX0_setStays_23 : decode cX0_setStays 23 = .ok (.aload_n 0, 1) := by decide +kernel
theorem dX0_setStays_24 : decode cX0_setStays 24 = .ok (.getfield 43, 3) := by decide +kernel
theorem dX0_setStays_27 : decode cX0_setStays 27 = .ok (.iload_n 2, 1) := by decide +kernel
theorem dX0_setStays_28 : decode cX0_setStays 28 = .ok (.aload_n 0, 1) := by decide +kernel
theorem dX0_setStays_29 : decode cX0_setStays 29 = .ok (.iload_n 1, 1) := by decide +kernel
theorem dX0_setStays_30 : decode cX0_setStays 30 = .ok (.invokevirtual 77, 3) := by decide +kernel
theorem dX0_setStays_33 : decode cX0_setStays 33 = .ok (.ifCond .eq 12, 3) := by decide +kernel
theorem dX0_setStays_36 : decode cX0_setStays 36 = .ok (.aload_n 0, 1) := by decide +kernel
theorem dX0_setStays_37 : decode cX0_setStays 37 = .ok (.getfield 37, 3) := by decide +kernel
theorem dX0_setStays_40 : decode cX0_setStays 40 = .ok (.iload_n 1, 1) := by decide +kernel
theorem dX0_setStays_41 : decode cX0_setStays 41 = .ok (.iaload, 1) := by decide +kernel
theorem dX0_setStays_42 : decode cX0_setStays 42 = .ok (.goto 4, 3) := by decide +kernel
theorem dX0_setStays_45 : decode cX0_setStays 45 = .ok (.iload_n 3, 1) := by decide +kernel
theorem dX0_setStays_46 : decode cX0_setStays 46 = .ok (.iastore, 1) := by decide +kernel
theorem dX0_setStays_47 : decode cX0_setStays 47 = .ok (.aload_n 0, 1) := by decide +kernel
theorem dX0_setStays_48 : decode cX0_setStays 48 = .ok (.getfield 40, 3) := by decide +kernel
theorem dX0_setStays_51 : decode cX0_setStays 51 = .ok (.iload_n 2, 1) := by decide +kernel
theorem dX0_setStays_52 : decode cX0_setStays 52 = .ok (.iconst 1, 1) := by decide +kernel
theorem dX0_setStays_53 : decode cX0_setStays 53 = .ok (.iadd, 1) := by decide +kernel
theorem dX0_setStays_54 : decode cX0_setStays 54 = .ok (.aload_n 0, 1) := by decide +kernel
theorem dX0_setStays_55 : decode cX0_setStays 55 = .ok (.iload_n 1, 1) := by decide +kernel
theorem dX0_setStays_56 : decode cX0_setStays 56 = .ok (.invokevirtual 77, 3) := by decide +kernel
theorem dX0_setStays_59 : decode cX0_setStays 59 = .ok (.ifCond .eq 15, 3) := by decide +kernel
theorem dX0_setStays_62 : decode cX0_setStays 62 = .ok (.aload_n 0, 1) := by decide +kernel
theorem dX0_setStays_63 : decode cX0_setStays 63 = .ok (.getfield 37, 3) := by decide +kernel
theorem dX0_setStays_66 : decode cX0_setStays 66 = .ok (.iload_n 1, 1) := by decide +kernel
theorem dX0_setStays_67 : decode cX0_setStays 67 = .ok (.iaload, 1) := by decide +kernel
theorem dX0_setStays_68 : decode cX0_setStays 68 = .ok (.bipush 10, 2) := by decide +kernel
theorem dX0_setStays_70 : decode cX0_setStays 70 = .ok (.iadd, 1) := by decide +kernel
theorem dX0_setStays_71 : decode cX0_setStays 71 = .ok (.goto 4, 3) := by decide +kernel
theorem dX0_setStays_74 : decode cX0_setStays 74 = .ok (.iload_n 3, 1) := by decide +kernel
theorem dX0_setStays_75 : decode cX0_setStays 75 = .ok (.iastore, 1) := by decide +kernel
theorem dX0_setStays_76 : decode cX0_setStays 76 = .ok (.aload_n 0, 1) := by decide +kernel
theorem dX0_setStays_77 : decode cX0_setStays 77 = .ok (.getfield 43, 3) := by decide +kernel
theorem dX0_setStays_80 : decode cX0_setStays 80 = .ok (.iload_n 2, 1) := by decide +kernel
theorem dX0_setStays_81 : decode cX0_setStays 81 = .ok (.iconst 1, 1) := by decide +kernel
theorem dX0_setStays_82 : decode cX0_setStays 82 = .ok (.iadd, 1) := by decide +kernel
theorem dX0_setStays_83 : decode cX0_setStays 83 = .ok (.iload_n 3, 1) := by decide +kernel
theorem dX0_setStays_84 : decode cX0_setStays 84 = .ok (.iastore, 1) := by decide +kernel
theorem dX0_setStays_85 : decode cX0_setStays 85 = .ok (.return_, 1) := by decide +kernel
theorem dX0_isTowMinute_0 : decode cX0_isTowMinute 0 = .ok (.iload_n 2, 1) := by decide +kernel
theorem dX0_isTowMinute_1 : decode cX0_isTowMinute 1 = .ok (.aload_n 0, 1) := by decide +kernel
theorem dX0_isTowMinute_2 : decode cX0_isTowMinute 2 = .ok (.getfield 28, 3) := by decide +kernel
theorem dX0_isTowMinute_5 : decode cX0_isTowMinute 5 = .ok (.iload_n 1, 1) := by decide +kernel
theorem dX0_isTowMinute_6 : decode cX0_isTowMinute 6 = .ok (.iaload, 1) := by decide +kernel
theorem dX0_isTowMinute_7 : decode cX0_isTowMinute 7 = .ok (.bipush 10, 2) := by decide +kernel
theorem dX0_isTowMinute_9 : decode cX0_isTowMinute 9 = .ok (.iadd, 1) := by decide +kernel
theorem dX0_isTowMinute_10 : decode cX0_isTowMinute 10 = .ok (.if_icmp .lt 20, 3) := by decide +kernel
theorem dX0_isTowMinute_13 : decode cX0_isTowMinute 13 = .ok (.iload_n 2, 1) := by decide +kernel
theorem dX0_isTowMinute_14 : decode cX0_isTowMinute 14 = .ok (.aload_n 0, 1) := by decide +kernel
theorem dX0_isTowMinute_15 : decode cX0_isTowMinute 15 = .ok (.getfield 31, 3) := by decide +kernel
theorem dX0_isTowMinute_18 : decode cX0_isTowMinute 18 = .ok (.iload_n 1, 1) := by decide +kernel
theorem dX0_isTowMinute_19 : decode cX0_isTowMinute 19 = .ok (.iaload, 1) := by decide +kernel
theorem dX0_isTowMinute_20 : decode cX0_isTowMinute 20 = .ok (.bipush 20, 2) := by decide +kernel
theorem dX0_isTowMinute_22 : decode cX0_isTowMinute 22 = .ok (.isub, 1) := by decide +kernel
theorem dX0_isTowMinute_23 : decode cX0_isTowMinute 23 = .ok (.if_icmp .gt 7, 3) := by decide +kernel
theorem dX0_isTowMinute_26 : decode cX0_isTowMinute 26 = .ok (.iconst 1, 1) := by decide +kernel
theorem dX0_isTowMinute_27 : decode cX0_isTowMinute 27 = .ok (.goto 4, 3) := by decide +kernel
theorem dX0_isTowMinute_30 : decode cX0_isTowMinute 30 = .ok (.iconst 0, 1) := by decide +kernel
theorem dX0_isTowMinute_31 : decode cX0_isTowMinute 31 = .ok (.ireturn, 1) := by decide +kernel
theorem dX0_divide_0 : decode cX0_divide 0 = .ok (.aload_n 0, 1) := by decide +kernel
theorem dX0_divide_1 : decode cX0_divide 1 = .ok (.getfield 37, 3) := by decide +kernel
theorem dX0_divide_4 : decode cX0_divide 4 = .ok (.iload_n 1, 1) := by decide +kernel
theorem dX0_divide_5 : decode cX0_divide 5 = .ok (.iload_n 2, 1) := by decide +kernel
theorem dX0_divide_6 : decode cX0_divide 6 = .ok (.iastore, 1) := by decide +kernel
theorem dX0_divide_7 : decode cX0_divide 7 = .ok (.aload_n 0, 1) := by decide +kernel
theorem dX0_divide_8 : decode cX0_divide 8 = .ok (.iload_n 1, 1) := by decide +kernel
theorem dX0_divide_9 : decode cX0_divide 9 = .ok (.invokevirtual 83, 3) := by decide +kernel
theorem dX0_divide_12 : decode cX0_divide 12 = .ok (.aload_n 0, 1) := by decide +kernel
theorem dX0_divide_13 : decode cX0_divide 13 = .ok (.getfield 43, 3) := by decide +kernel
theorem dX0_divide_16 : decode cX0_divide 16 = .ok (.iconst 2, 1) := by decide +kernel
theorem dX0_divide_17 : decode cX0_divide 17 = .ok (.iload_n 1, 1) := by decide +kernel
theorem dX0_divide_18 : decode cX0_divide 18 = .ok (.imul, 1) := by decide +kernel
theorem dX0_divide_19 : decode cX0_divide 19 = .ok (.iconst 1, 1) := by decide +kernel
theorem dX0_divide_20 : decode cX0_divide 20 = .ok (.iadd, 1) := by decide +kernel
theorem dX0_divide_21 : decode cX0_divide 21 = .ok (.iaload, 1) := by decide +kernel
theorem dX0_divide_22 : decode cX0_divide 22 = .ok (.aload_n 0, 1) := by decide +kernel
theorem dX0_divide_23 : decode cX0_divide 23 = .ok (.getfield 40, 3) := by decide +kernel
theorem dX0_divide_26 : decode cX0_divide 26 = .ok (.iconst 2, 1) := by decide +kernel
theorem dX0_divide_27 : decode cX0_divide 27 = .ok (.iload_n 1, 1) := by decide +kernel
theorem dX0_divide_28 : decode cX0_divide 28 = .ok (.imul, 1) := by decide +kernel
theorem dX0_divide_29 : decode cX0_divide 29 = .ok (.iconst 1, 1) := by decide +kernel
theorem dX0_divide_30 : decode cX0_divide 30 = .ok (.iadd, 1) := by decide +kernel
theorem dX0_divide_31 : decode cX0_divide 31 = .ok (.iaload, 1) := by decide +kernel
theorem dX0_divide_32 : decode cX0_divide 32 = .ok (.isub, 1) := by decide +kernel
theorem dX0_divide_33 : decode cX0_divide 33 = .ok (.ireturn, 1) := by decide +kernel
theorem dX0_join_0 : decode cX0_join 0 = .ok (.aload_n 0, 1) := by decide +kernel
theorem dX0_join_1 : decode cX0_join 1 = .ok (.getfield 46, 3) := by decide +kernel
theorem dX0_join_4 : decode cX0_join 4 = .ok (.iconst 2, 1) := by decide +kernel
theorem dX0_join_5 : decode cX0_join 5 = .ok (.iload_n 1, 1) := by decide +kernel
theorem dX0_join_6 : decode cX0_join 6 = .ok (.imul, 1) := by decide +kernel
theorem dX0_join_7 : decode cX0_join 7 = .ok (.iconst 1, 1) := by decide +kernel
theorem dX0_join_8 : decode cX0_join 8 = .ok (.iadd, 1) := by decide +kernel
theorem dX0_join_9 : decode cX0_join 9 = .ok (.iaload, 1) := by decide +kernel
theorem dX0_join_10 : decode cX0_join 10 = .ok (.istore_n 2, 1) := by decide +kernel
theorem dX0_join_11 : decode cX0_join 11 = .ok (.aload_n 0, 1) := by decide +kernel
theorem dX0_join_12 : decode cX0_join 12 = .ok (.getfield 37, 3) := by decide +kernel
theorem dX0_join_15 : decode cX0_join 15 = .ok (.iload_n 1, 1) := by decide +kernel
theorem dX0_join_16 : decode cX0_join 16 = .ok (.iconst (-1), 1) := by decide +kernel
theorem dX0_join_17 : decode cX0_join 17 = .ok (.iastore, 1) := by decide +kernel
theorem dX0_join_18 : decode cX0_join 18 = .ok (.aload_n 0, 1) := by decide +kernel
theorem dX0_join_19 : decode cX0_join 19 = .ok (.getfield 46, 3) := by decide +kernel
theorem dX0_join_22 : decode cX0_join 22 = .ok (.iconst 2, 1) := by decide +kernel
theorem dX0_join_23 : decode cX0_join 23 = .ok (.iload_n 1, 1) := by decide +kernel
theorem dX0_join_24 : decode cX0_join 24 = .ok (.imul, 1) := by decide +kernel
theorem dX0_join_25 : decode cX0_join 25 = .ok (.iconst 1, 1) := by decide +kernel
theorem dX0_join_26 : decode cX0_join 26 = .ok (.iadd, 1) := by decide +kernel
theorem dX0_join_27 : decode cX0_join 27 = .ok (.iconst (-1), 1) := by decide +kernel
theorem dX0_join_28 : decode cX0_join 28 = .ok (.iastore, 1) := by decide +kernel
theorem dX0_join_29 : decode cX0_join 29 = .ok (.aload_n 0, 1) := by decide +kernel
theorem dX0_join_30 : decode cX0_join 30 = .ok (.iload_n 1, 1) := by decide +kernel
theorem dX0_join_31 : decode cX0_join 31 = .ok (.invokevirtual 83, 3) := by decide +kernel
theorem dX0_join_34 : decode cX0_join 34 = .ok (.iload_n 2, 1) := by decide +kernel
theorem dX0_join_35 : decode cX0_join 35 = .ok (.ireturn, 1) := by decide +kernel
theorem dX0_towAfter_0 : decode cX0_towAfter 0 = .ok (.aload_n 0, 1) := by decide +kernel
theorem dX0_towAfter_1 : decode cX0_towAfter 1 = .ok (.getfield 37, 3) := by decide +kernel
theorem dX0_towAfter_4 : decode cX0_towAfter 4 = .ok (.iload_n 1, 1) := by decide +kernel
theorem dX0_towAfter_5 : decode cX0_towAfter 5 = .ok (.iaload, 1) := by decide +kernel
theorem dX0_towAfter_6 : decode cX0_towAfter 6 = .ok (.aload_n 0, 1) := by decide +kernel
theorem dX0_towAfter_7 : decode cX0_towAfter 7 = .ok (.getfield 28, 3) := by decide +kernel
theorem dX0_towAfter_10 : decode cX0_towAfter 10 = .ok (.iload_n 1, 1) := by decide +kernel
theorem dX0_towAfter_11 : decode cX0_towAfter 11 = .ok (.iaload, 1) := by decide +kernel
theorem dX0_towAfter_12 : decode cX0_towAfter 12 = .ok (.iload_n 2, 1) := by decide +kernel
theorem dX0_towAfter_13 : decode cX0_towAfter 13 = .ok (.iadd, 1) := by decide +kernel
theorem dX0_towAfter_14 : decode cX0_towAfter 14 = .ok (.bipush 10, 2) := by decide +kernel
theorem dX0_towAfter_16 : decode cX0_towAfter 16 = .ok (.iadd, 1) := by decide +kernel
theorem dX0_towAfter_17 : decode cX0_towAfter 17 = .ok (.invokestatic 87, 3) := by decide +kernel
theorem dX0_towAfter_20 : decode cX0_towAfter 20 = .ok (.ireturn, 1) := by decide +kernel
theorem dX0_departureAfter_0 : decode cX0_departureAfter 0 = .ok (.aload_n 0, 1) := by decide +kernel
theorem dX0_departureAfter_1 : decode cX0_departureAfter 1 = .ok (.getfield 31, 3) := by decide +kernel
theorem dX0_departureAfter_4 : decode cX0_departureAfter 4 = .ok (.iload_n 1, 1) := by decide +kernel
theorem dX0_departureAfter_5 : decode cX0_departureAfter 5 = .ok (.iaload, 1) := by decide +kernel
theorem dX0_departureAfter_6 : decode cX0_departureAfter 6 = .ok (.aload_n 0, 1) := by decide +kernel
theorem dX0_departureAfter_7 : decode cX0_departureAfter 7 = .ok (.getfield 28, 3) := by decide +kernel
theorem dX0_departureAfter_10 : decode cX0_departureAfter 10 = .ok (.iload_n 1, 1) := by decide +kernel
theorem dX0_departureAfter_11 : decode cX0_departureAfter 11 = .ok (.iaload, 1) := by decide +kernel
theorem dX0_departureAfter_12 : decode cX0_departureAfter 12 = .ok (.iload_n 2, 1) := by decide +kernel
theorem dX0_departureAfter_13 : decode cX0_departureAfter 13 = .ok (.iadd, 1) := by decide +kernel
theorem dX0_departureAfter_14 : decode cX0_departureAfter 14 = .ok (.bipush 30, 2) := by decide +kernel
theorem dX0_departureAfter_16 : decode cX0_departureAfter 16 = .ok (.iadd, 1) := by decide +kernel
theorem dX0_departureAfter_17 : decode cX0_departureAfter 17 = .ok (.invokestatic 87, 3) := by decide +kernel
theorem dX0_departureAfter_20 : decode cX0_departureAfter 20 = .ok (.istore_n 3, 1) := by decide +kernel
theorem dX0_departureAfter_21 : decode cX0_departureAfter 21 = .ok (.aload_n 0, 1) := by decide +kernel
theorem dX0_departureAfter_22 : decode cX0_departureAfter 22 = .ok (.iload_n 1, 1) := by decide +kernel
theorem dX0_departureAfter_23 : decode cX0_departureAfter 23 = .ok (.invokevirtual 77, 3) := by decide +kernel
theorem dX0_departureAfter_26 : decode cX0_departureAfter 26 = .ok (.ifCond .eq 19, 3) := by decide +kernel
theorem dX0_departureAfter_29 : decode cX0_departureAfter 29 = .ok (.iload_n 3, 1) := by decide +kernel
theorem dX0_departureAfter_30 : decode cX0_departureAfter 30 = .ok (.aload_n 0, 1) := by decide +kernel
theorem dX0_departureAfter_31 : decode cX0_departureAfter 31 = .ok (.iload_n 1, 1) := by decide +kernel
theorem dX0_departureAfter_32 : decode cX0_departureAfter 32 = .ok (.iload_n 2, 1) := by decide +kernel
theorem dX0_departureAfter_33 : decode cX0_departureAfter 33 = .ok (.invokevirtual 93, 3) := by decide +kernel
theorem dX0_departureAfter_36 : decode cX0_departureAfter 36 = .ok (.bipush 20, 2) := by decide +kernel
theorem dX0_departureAfter_38 : decode cX0_departureAfter 38 = .ok (.iadd, 1) := by decide +kernel
theorem dX0_departureAfter_39 : decode cX0_departureAfter 39 = .ok (.invokestatic 87, 3) := by decide +kernel
theorem dX0_departureAfter_42 : decode cX0_departureAfter 42 = .ok (.goto 4, 3) := by decide +kernel
theorem dX0_departureAfter_45 : decode cX0_departureAfter 45 = .ok (.iload_n 3, 1) := by decide +kernel
theorem dX0_departureAfter_46 : decode cX0_departureAfter 46 = .ok (.ireturn, 1) := by decide +kernel
theorem dX0_postpone_0 : decode cX0_postpone 0 = .ok (.aload_n 0, 1) := by decide +kernel
theorem dX0_postpone_1 : decode cX0_postpone 1 = .ok (.getfield 31, 3) := by decide +kernel
theorem dX0_postpone_4 : decode cX0_postpone 4 = .ok (.iload_n 1, 1) := by decide +kernel
theorem dX0_postpone_5 : decode cX0_postpone 5 = .ok (.iaload, 1) := by decide +kernel
theorem dX0_postpone_6 : decode cX0_postpone 6 = .ok (.istore_n 3, 1) := by decide +kernel
theorem dX0_postpone_7 : decode cX0_postpone 7 = .ok (.aload_n 0, 1) := by decide +kernel
theorem dX0_postpone_8 : decode cX0_postpone 8 = .ok (.getfield 31, 3) := by decide +kernel
theorem dX0_postpone_11 : decode cX0_postpone 11 = .ok (.iload_n 1, 1) := by decide +kernel
theorem dX0_postpone_12 : decode cX0_postpone 12 = .ok (.aload_n 0, 1) := by decide +kernel
theorem dX0_postpone_13 : decode cX0_postpone 13 = .ok (.iload_n 1, 1) := by decide +kernel
theorem dX0_postpone_14 : decode cX0_postpone 14 = .ok (.iload_n 2, 1) := by decide +kernel
theorem dX0_postpone_15 : decode cX0_postpone 15 = .ok (.invokevirtual 96, 3) := by decide +kernel
theorem dX0_postpone_18 : decode cX0_postpone 18 = .ok (.iastore, 1) := by decide +kernel
theorem dX0_postpone_19 : decode cX0_postpone 19 = .ok (.aload_n 0, 1) := by decide +kernel
theorem dX0_postpone_20 : decode cX0_postpone 20 = .ok (.iload_n 1, 1) := by decide +kernel
theorem dX0_postpone_21 : decode cX0_postpone 21 = .ok (.invokevirtual 77, 3) := by decide +kernel
theorem dX0_postpone_24 : decode cX0_postpone 24 = .ok (.ifCond .eq 15, 3) := by decide +kernel
theorem dX0_postpone_27 : decode cX0_postpone 27 = .ok (.aload_n 0, 1) := by decide +kernel
theorem dX0_postpone_28 : decode cX0_postpone 28 = .ok (.getfield 37, 3) := by decide +kernel
theorem dX0_postpone_31 : decode cX0_postpone 31 = .ok (.iload_n 1, 1) := by decide +kernel
theorem dX0_postpone_32 : decode cX0_postpone 32 = .ok (.aload_n 0, 1) := by decide +kernel
theorem dX0_postpone_33 : decode cX0_postpone 33 = .ok (.iload_n 1, 1) := by decide +kernel
theorem dX0_postpone_34 : decode cX0_postpone 34 = .ok (.iload_n 2, 1) := by decide +kernel
theorem dX0_postpone_35 : decode cX0_postpone 35 = .ok (.invokevirtual 93, 3) := by decide +kernel
theorem dX0_postpone_38 : decode cX0_postpone 38 = .ok (.iastore, 1) := by decide +kernel
theorem dX0_postpone_39 : decode cX0_postpone 39 = .ok (.aload_n 0, 1) := by decide +kernel
theorem dX0_postpone_40 : decode cX0_postpone 40 = .ok (.getfield 28, 3) := by decide +kernel
theorem dX0_postpone_43 : decode cX0_postpone 43 = .ok (.iload_n 1, 1) := by decide +kernel
theorem dX0_postpone_44 : decode cX0_postpone 44 = .ok (.dup2, 1) := by decide +kernel
theorem dX0_postpone_45 : decode cX0_postpone 45 = .ok (.iaload, 1) := by decide +kernel
theorem dX0_postpone_46 : decode cX0_postpone 46 = .ok (.iload_n 2, 1) := by decide +kernel
theorem dX0_postpone_47 : decode cX0_postpone 47 = .ok (.iadd, 1) := by decide +kernel
theorem dX0_postpone_48 : decode cX0_postpone 48 = .ok (.iastore, 1) := by decide +kernel
theorem dX0_postpone_49 : decode cX0_postpone 49 = .ok (.aload_n 0, 1) := by decide +kernel
theorem dX0_postpone_50 : decode cX0_postpone 50 = .ok (.iload_n 1, 1) := by decide +kernel
theorem dX0_postpone_51 : decode cX0_postpone 51 = .ok (.invokevirtual 83, 3) := by decide +kernel
theorem dX0_postpone_54 : decode cX0_postpone 54 = .ok (.aload_n 0, 1) := by decide +kernel
theorem dX0_postpone_55 : decode cX0_postpone 55 = .ok (.getfield 31, 3) := by decide +kernel
theorem dX0_postpone_58 : decode cX0_postpone 58 = .ok (.iload_n 1, 1) := by decide +kernel
theorem dX0_postpone_59 : decode cX0_postpone 59 = .ok (.iaload, 1) := by decide +kernel
theorem dX0_postpone_60 : decode cX0_postpone 60 = .ok (.iload_n 3, 1) := by decide +kernel
theorem dX0_postpone_61 : decode cX0_postpone 61 = .ok (.isub, 1) := by decide +kernel
theorem dX0_postpone_62 : decode cX0_postpone 62 = .ok (.ireturn, 1) := by decide +kernel
theorem dX0_isThere_0 : decode cX0_isThere 0 = .ok (.aload_n 0, 1) := by decide +kernel
theorem dX0_isThere_1 : decode cX0_isThere 1 = .ok (.getfield 40, 3) := by decide +kernel
theorem dX0_isThere_4 : decode cX0_isThere 4 = .ok (.iload_n 1, 1) := by decide +kernel
theorem dX0_isThere_5 : decode cX0_isThere 5 = .ok (.iaload, 1) := by decide +kernel
theorem dX0_isThere_6 : decode cX0_isThere 6 = .ok (.iload_n 2, 1) := by decide +kernel
theorem dX0_isThere_7 : decode cX0_isThere 7 = .ok (.if_icmp .gt 17, 3) := by decide +kernel
theorem dX0_isThere_10 : decode cX0_isThere 10 = .ok (.iload_n 2, 1) := by decide +kernel
theorem dX0_isThere_11 : decode cX0_isThere 11 = .ok (.aload_n 0, 1) := by decide +kernel
theorem dX0_isThere_12 : decode cX0_isThere 12 = .ok (.getfield 43, 3) := by decide +kernel
theorem dX0_isThere_15 : decode cX0_isThere 15 = .ok (.iload_n 1, 1) := by decide +kernel
theorem dX0_isThere_16 : decode cX0_isThere 16 = .ok (.iaload, 1) := by decide +kernel
theorem dX0_isThere_17 : decode cX0_isThere 17 = .ok (.if_icmp .ge 7, 3) := by decide +kernel
theorem dX0_isThere_20 : decode cX0_isThere 20 = .ok (.iconst 1, 1) := by decide +kernel
theorem dX0_isThere_21 : decode cX0_isThere 21 = .ok (.goto 4, 3) := by decide +kernel
theorem dX0_isThere_24 : decode cX0_isThere 24 = .ok (.iconst 0, 1) := by decide +kernel
theorem dX0_isThere_25 : decode cX0_isThere 25 = .ok (.ireturn, 1) := by decide +kernel
theorem dX0_allStays_0 : decode cX0_allStays 0 = .ok (.iconst 0, 1) := by decide +kernel
theorem dX0_allStays_1 : decode cX0_allStays 1 = .ok (.istore_n 1, 1) := by decide +kernel
theorem dX0_allStays_2 : decode cX0_allStays 2 = .ok (.iconst 0, 1) := by decide +kernel
theorem dX0_allStays_3 : decode cX0_allStays 3 = .ok (.istore_n 2, 1) := by decide +kernel
theorem dX0_allStays_4 : decode cX0_allStays 4 = .ok (.iload_n 2, 1) := by decide +kernel
theorem dX0_allStays_5 : decode cX0_allStays 5 = .ok (.aload_n 0, 1) := by decide +kernel
theorem dX0_allStays_6 : decode cX0_allStays 6 = .ok (.getfield 58, 3) := by decide +kernel
theorem dX0_allStays_9 : decode cX0_allStays 9 = .ok (.if_icmp .ge 29, 3) := by decide +kernel
theorem dX0_allStays_12 : decode cX0_allStays 12 = .ok (.iload_n 1, 1) := by decide +kernel
theorem dX0_allStays_13 : decode cX0_allStays 13 = .ok (.aload_n 0, 1) := by decide +kernel
theorem dX0_allStays_14 : decode cX0_allStays 14 = .ok (.iload_n 2, 1) := by decide +kernel
theorem dX0_allStays_15 : decode cX0_allStays 15 = .ok (.invokevirtual 77, 3) := by decide +kernel
theorem dX0_allStays_18 : decode cX0_allStays 18 = .ok (.ifCond .eq 7, 3) := by decide +kernel
theorem dX0_allStays_21 : decode cX0_allStays 21 = .ok (.iconst 3, 1) := by decide +kernel
theorem dX0_allStays_22 : decode cX0_allStays 22 = .ok (.goto 4, 3) := by decide +kernel
theorem dX0_allStays_25 : decode cX0_allStays 25 = .ok (.iconst 1, 1) := by decide +kernel
theorem dX0_allStays_26 : decode cX0_allStays 26 = .ok (.iconst 2, 1) := by decide +kernel
theorem dX0_allStays_27 : decode cX0_allStays 27 = .ok (.iload_n 2, 1) := by decide +kernel
theorem dX0_allStays_28 : decode cX0_allStays 28 = .ok (.imul, 1) := by decide +kernel
theorem dX0_allStays_29 : decode cX0_allStays 29 = .ok (.ishl, 1) := by decide +kernel
theorem dX0_allStays_30 : decode cX0_allStays 30 = .ok (.ior, 1) := by decide +kernel
theorem dX0_allStays_31 : decode cX0_allStays 31 = .ok (.istore_n 1, 1) := by decide +kernel
theorem dX0_allStays_32 : decode cX0_allStays 32 = .ok (.iinc 2 1, 3) := by decide +kernel
theorem dX0_allStays_35 : decode cX0_allStays 35 = .ok (.goto (-31), 3) := by decide +kernel
theorem dX0_allStays_38 : decode cX0_allStays 38 = .ok (.iload_n 1, 1) := by decide +kernel
theorem dX0_allStays_39 : decode cX0_allStays 39 = .ok (.ireturn, 1) := by decide +kernel
theorem dX0_staysOnStands_0 : decode cX0_staysOnStands 0 = .ok (.iconst 0, 1) := by decide +kernel
theorem dX0_staysOnStands_1 : decode cX0_staysOnStands 1 = .ok (.istore_n 1, 1) := by decide +kernel
theorem dX0_staysOnStands_2 : decode cX0_staysOnStands 2 = .ok (.iconst 0, 1) := by decide +kernel
theorem dX0_staysOnStands_3 : decode cX0_staysOnStands 3 = .ok (.istore_n 2, 1) := by decide +kernel
theorem dX0_staysOnStands_4 : decode cX0_staysOnStands 4 = .ok (.iload_n 2, 1) := by decide +kernel
theorem dX0_staysOnStands_5 : decode cX0_staysOnStands 5 = .ok (.bipush 20, 2) := by decide +kernel
theorem dX0_staysOnStands_7 : decode cX0_staysOnStands 7 = .ok (.if_icmp .ge 23, 3) := by decide +kernel
theorem dX0_staysOnStands_10 : decode cX0_staysOnStands 10 = .ok (.aload_n 0, 1) := by decide +kernel
theorem dX0_staysOnStands_11 : decode cX0_staysOnStands 11 = .ok (.iload_n 2, 1) := by decide +kernel
theorem dX0_staysOnStands_12 : decode cX0_staysOnStands 12 = .ok (.invokevirtual 99, 3) := by decide +kernel
theorem dX0_staysOnStands_15 : decode cX0_staysOnStands 15 = .ok (.ifCond .eq 9, 3) := by decide +kernel
theorem dX0_staysOnStands_18 : decode cX0_staysOnStands 18 = .ok (.iload_n 1, 1) := by decide +kernel
theorem dX0_staysOnStands_19 : decode cX0_staysOnStands 19 = .ok (.iconst 1, 1) := by decide +kernel
theorem dX0_staysOnStands_20 : decode cX0_staysOnStands 20 = .ok (.iload_n 2, 1) := by decide +kernel
theorem dX0_staysOnStands_21 : decode cX0_staysOnStands 21 = .ok (.ishl, 1) := by decide +kernel
theorem dX0_staysOnStands_22 : decode cX0_staysOnStands 22 = .ok (.ior, 1) := by decide +kernel
theorem dX0_staysOnStands_23 : decode cX0_staysOnStands 23 = .ok (.istore_n 1, 1) := by decide +kernel
theorem dX0_staysOnStands_24 : decode cX0_staysOnStands 24 = .ok (.iinc 2 1, 3) := by decide +kernel
theorem dX0_staysOnStands_27 : decode cX0_staysOnStands 27 = .ok (.goto (-23), 3) := by decide +kernel
theorem dX0_staysOnStands_30 : decode cX0_staysOnStands 30 = .ok (.iload_n 1, 1) := by decide +kernel
theorem dX0_staysOnStands_31 : decode cX0_staysOnStands 31 = .ok (.ireturn, 1) := by decide +kernel
theorem dX0_staysOn_0 : decode cX0_staysOn 0 = .ok (.iconst 0, 1) := by decide +kernel
theorem dX0_staysOn_1 : decode cX0_staysOn 1 = .ok (.istore_n 2, 1) := by decide +kernel
theorem dX0_staysOn_2 : decode cX0_staysOn 2 = .ok (.iconst 0, 1) := by decide +kernel
theorem dX0_staysOn_3 : decode cX0_staysOn 3 = .ok (.istore_n 3, 1) := by decide +kernel
theorem dX0_staysOn_4 : decode cX0_staysOn 4 = .ok (.iload_n 3, 1) := by decide +kernel
theorem dX0_staysOn_5 : decode cX0_staysOn 5 = .ok (.bipush 20, 2) := by decide +kernel
theorem dX0_staysOn_7 : decode cX0_staysOn 7 = .ok (.if_icmp .ge 25, 3) := by decide +kernel
theorem dX0_staysOn_10 : decode cX0_staysOn 10 = .ok (.aload_n 0, 1) := by decide +kernel
theorem dX0_staysOn_11 : decode cX0_staysOn 11 = .ok (.getfield 46, 3) := by decide +kernel
theorem dX0_staysOn_14 : decode cX0_staysOn 14 = .ok (.iload_n 3, 1) := by decide +kernel
theorem dX0_staysOn_15 : decode cX0_staysOn 15 = .ok (.iaload, 1) := by decide +kernel
theorem dX0_staysOn_16 : decode cX0_staysOn 16 = .ok (.iload_n 1, 1) := by decide +kernel
theorem dX0_staysOn_17 : decode cX0_staysOn 17 = .ok (.if_icmp .ne 9, 3) := by decide +kernel
theorem dX0_staysOn_20 : decode cX0_staysOn 20 = .ok (.iload_n 2, 1) := by decide +kernel
theorem dX0_staysOn_21 : decode cX0_staysOn 21 = .ok (.iconst 1, 1) := by decide +kernel
theorem dX0_staysOn_22 : decode cX0_staysOn 22 = .ok (.iload_n 3, 1) := by decide +kernel
theorem dX0_staysOn_23 : decode cX0_staysOn 23 = .ok (.ishl, 1) := by decide +kernel
theorem dX0_staysOn_24 : decode cX0_staysOn 24 = .ok (.ior, 1) := by decide +kernel
theorem dX0_staysOn_25 : decode cX0_staysOn 25 = .ok (.istore_n 2, 1) := by decide +kernel
theorem dX0_staysOn_26 : decode cX0_staysOn 26 = .ok (.iinc 3 1, 3) := by decide +kernel
theorem dX0_staysOn_29 : decode cX0_staysOn 29 = .ok (.goto (-25), 3) := by decide +kernel
theorem dX0_staysOn_32 : decode cX0_staysOn 32 = .ok (.iload_n 2, 1) := by decide +kernel
theorem dX0_staysOn_33 : decode cX0_staysOn 33 = .ok (.ireturn, 1) := by decide +kernel
theorem dX0_hinderedStays_0 : decode cX0_hinderedStays 0 = .ok (.iconst 0, 1) := by decide +kernel
theorem dX0_hinderedStays_1 : decode cX0_hinderedStays 1 = .ok (.istore_n 1, 1) := by decide +kernel
theorem dX0_hinderedStays_2 : decode cX0_hinderedStays 2 = .ok (.iconst 0, 1) := by decide +kernel
theorem dX0_hinderedStays_3 : decode cX0_hinderedStays 3 = .ok (.istore_n 2, 1) := by decide +kernel
theorem dX0_hinderedStays_4 : decode cX0_hinderedStays 4 = .ok (.iload_n 2, 1) := by decide +kernel
theorem dX0_hinderedStays_5 : decode cX0_hinderedStays 5 = .ok (.bipush 20, 2) := by decide +kernel
theorem dX0_hinderedStays_7 : decode cX0_hinderedStays 7 = .ok (.if_icmp .ge 23, 3) := by decide +kernel
theorem dX0_hinderedStays_10 : decode cX0_hinderedStays 10 = .ok (.aload_n 0, 1) := by decide +kernel
theorem dX0_hinderedStays_11 : decode cX0_hinderedStays 11 = .ok (.iload_n 2, 1) := by decide +kernel
theorem dX0_hinderedStays_12 : decode cX0_hinderedStays 12 = .ok (.invokevirtual 102, 3) := by decide +kernel
theorem dX0_hinderedStays_15 : decode cX0_hinderedStays 15 = .ok (.ifCond .eq 9, 3) := by decide +kernel
theorem dX0_hinderedStays_18 : decode cX0_hinderedStays 18 = .ok (.iload_n 1, 1) := by decide +kernel
theorem dX0_hinderedStays_19 : decode cX0_hinderedStays 19 = .ok (.iconst 1, 1) := by decide +kernel
theorem dX0_hinderedStays_20 : decode cX0_hinderedStays 20 = .ok (.iload_n 2, 1) := by decide +kernel
theorem dX0_hinderedStays_21 : decode cX0_hinderedStays 21 = .ok (.ishl, 1) := by decide +kernel
theorem dX0_hinderedStays_22 : decode cX0_hinderedStays 22 = .ok (.ior, 1) := by decide +kernel
theorem dX0_hinderedStays_23 : decode cX0_hinderedStays 23 = .ok (.istore_n 1, 1) := by decide +kernel
theorem dX0_hinderedStays_24 : decode cX0_hinderedStays 24 = .ok (.iinc 2 1, 3) := by decide +kernel
theorem dX0_hinderedStays_27 : decode cX0_hinderedStays 27 = .ok (.goto (-23), 3) := by decide +kernel
theorem dX0_hinderedStays_30 : decode cX0_hinderedStays 30 = .ok (.iload_n 1, 1) := by decide +kernel
theorem dX0_hinderedStays_31 : decode cX0_hinderedStays 31 = .ok (.ireturn, 1) := by decide +kernel
theorem dX0_troubledOn_0 : decode cX0_troubledOn 0 = .ok (.iconst 0, 1) := by decide +kernel
theorem dX0_troubledOn_1 : decode cX0_troubledOn 1 = .ok (.istore_n 2, 1) := by decide +kernel
theorem dX0_troubledOn_2 : decode cX0_troubledOn 2 = .ok (.iconst 0, 1) := by decide +kernel
theorem dX0_troubledOn_3 : decode cX0_troubledOn 3 = .ok (.istore_n 3, 1) := by decide +kernel
theorem dX0_troubledOn_4 : decode cX0_troubledOn 4 = .ok (.iload_n 3, 1) := by decide +kernel
theorem dX0_troubledOn_5 : decode cX0_troubledOn 5 = .ok (.bipush 20, 2) := by decide +kernel
theorem dX0_troubledOn_7 : decode cX0_troubledOn 7 = .ok (.if_icmp .ge 33, 3) := by decide +kernel
theorem dX0_troubledOn_10 : decode cX0_troubledOn 10 = .ok (.aload_n 0, 1) := by decide +kernel
theorem dX0_troubledOn_11 : decode cX0_troubledOn 11 = .ok (.getfield 46, 3) := by decide +kernel
theorem dX0_troubledOn_14 : decode cX0_troubledOn 14 = .ok (.iload_n 3, 1) := by decide +kernel
theorem dX0_troubledOn_15 : decode cX0_troubledOn 15 = .ok (.iaload, 1) := by decide +kernel
theorem dX0_troubledOn_16 : decode cX0_troubledOn 16 = .ok (.iload_n 1, 1) := by decide +kernel
theorem dX0_troubledOn_17 : decode cX0_troubledOn 17 = .ok (.if_icmp .ne 17, 3) := by decide +kernel
theorem dX0_troubledOn_20 : decode cX0_troubledOn 20 = .ok (.aload_n 0, 1) := by decide +kernel
theorem dX0_troubledOn_21 : decode cX0_troubledOn 21 = .ok (.iload_n 3, 1) := by decide +kernel
theorem dX0_troubledOn_22 : decode cX0_troubledOn 22 = .ok (.invokevirtual 105, 3) := by decide +kernel
theorem dX0_troubledOn_25 : decode cX0_troubledOn 25 = .ok (.ifCond .eq 9, 3) := by decide +kernel
theorem dX0_troubledOn_28 : decode cX0_troubledOn 28 = .ok (.iload_n 2, 1) := by decide +kernel
theorem dX0_troubledOn_29 : decode cX0_troubledOn 29 = .ok (.iconst 1, 1) := by decide +kernel
theorem dX0_troubledOn_30 : decode cX0_troubledOn 30 = .ok (.iload_n 3, 1) := by decide +kernel
theorem dX0_troubledOn_31 : decode cX0_troubledOn 31 = .ok (.ishl, 1) := by decide +kernel
theorem dX0_troubledOn_32 : decode cX0_troubledOn 32 = .ok (.ior, 1) := by decide +kernel
theorem dX0_troubledOn_33 : decode cX0_troubledOn 33 = .ok (.istore_n 2, 1) := by decide +kernel
theorem dX0_troubledOn_34 : decode cX0_troubledOn 34 = .ok (.iinc 3 1, 3) := by decide +kernel
theorem dX0_troubledOn_37 : decode cX0_troubledOn 37 = .ok (.goto (-33), 3) := by decide +kernel
theorem dX0_troubledOn_40 : decode cX0_troubledOn 40 = .ok (.iload_n 2, 1) := by decide +kernel
theorem dX0_troubledOn_41 : decode cX0_troubledOn 41 = .ok (.ireturn, 1) := by decide +kernel
theorem dX0_partnersOf_0 : decode cX0_partnersOf 0 = .ok (.iconst 0, 1) := by decide +kernel
theorem dX0_partnersOf_1 : decode cX0_partnersOf 1 = .ok (.istore_n 2, 1) := by decide +kernel
theorem dX0_partnersOf_2 : decode cX0_partnersOf 2 = .ok (.iconst 0, 1) := by decide +kernel
theorem dX0_partnersOf_3 : decode cX0_partnersOf 3 = .ok (.istore_n 3, 1) := by decide +kernel
theorem dX0_partnersOf_4 : decode cX0_partnersOf 4 = .ok (.iload_n 3, 1) := by decide +kernel
theorem dX0_partnersOf_5 : decode cX0_partnersOf 5 = .ok (.aload_n 0, 1) := by decide +kernel
theorem dX0_partnersOf_6 : decode cX0_partnersOf 6 = .ok (.getfield 55, 3) := by decide +kernel
theorem dX0_partnersOf_9 : decode cX0_partnersOf 9 = .ok (.if_icmp .ge 29, 3) := by decide +kernel
theorem dX0_partnersOf_12 : decode cX0_partnersOf 12 = .ok (.aload_n 0, 1) := by decide +kernel
theorem dX0_partnersOf_13 : decode cX0_partnersOf 13 = .ok (.getfield 22, 3) := by decide +kernel
theorem dX0_partnersOf_16 : decode cX0_partnersOf 16 = .ok (.iload_n 1, 1) := by decide +kernel
theorem dX0_partnersOf_17 : decode cX0_partnersOf 17 = .ok (.bipush 8, 2) := by decide +kernel
theorem dX0_partnersOf_19 : decode cX0_partnersOf 19 = .ok (.imul, 1) := by decide +kernel
theorem dX0_partnersOf_20 : decode cX0_partnersOf 20 = .ok (.iload_n 3, 1) := by decide +kernel
theorem dX0_partnersOf_21 : decode cX0_partnersOf 21 = .ok (.iadd, 1) := by decide +kernel
theorem dX0_partnersOf_22 : decode cX0_partnersOf 22 = .ok (.iaload, 1) := by decide +kernel
theorem dX0_partnersOf_23 : decode cX0_partnersOf 23 = .ok (.ifCond .lt 9, 3) := by decide +kernel
theorem dX0_partnersOf_26 : decode cX0_partnersOf 26 = .ok (.iload_n 2, 1) := by decide +kernel
theorem dX0_partnersOf_27 : decode cX0_partnersOf 27 = .ok (.iconst 1, 1) := by decide +kernel
theorem dX0_partnersOf_28 : decode cX0_partnersOf 28 = .ok (.iload_n 3, 1) := by decide +kernel
theorem dX0_partnersOf_29 : decode cX0_partnersOf 29 = .ok (.ishl, 1) := by decide +kernel
theorem dX0_partnersOf_30 : decode cX0_partnersOf 30 = .ok (.ior, 1) := by decide +kernel
theorem dX0_partnersOf_31 : decode cX0_partnersOf 31 = .ok (.istore_n 2, 1) := by decide +kernel
theorem dX0_partnersOf_32 : decode cX0_partnersOf 32 = .ok (.iinc 3 1, 3) := by decide +kernel
theorem dX0_partnersOf_35 : decode cX0_partnersOf 35 = .ok (.goto (-31), 3) := by decide +kernel
theorem dX0_partnersOf_38 : decode cX0_partnersOf 38 = .ok (.iload_n 2, 1) := by decide +kernel
theorem dX0_partnersOf_39 : decode cX0_partnersOf 39 = .ok (.ireturn, 1) := by decide +kernel
theorem dX0_lengthOf_0 : decode cX0_lengthOf 0 = .ok (.iconst 0, 1) := by decide +kernel
theorem dX0_lengthOf_1 : decode cX0_lengthOf 1 = .ok (.istore_n 2, 1) := by decide +kernel
theorem dX0_lengthOf_2 : decode cX0_lengthOf 2 = .ok (.iconst 0, 1) := by decide +kernel
theorem dX0_lengthOf_3 : decode cX0_lengthOf 3 = .ok (.istore_n 3, 1) := by decide +kernel
theorem dX0_lengthOf_4 : decode cX0_lengthOf 4 = .ok (.iload_n 3, 1) := by decide +kernel
theorem dX0_lengthOf_5 : decode cX0_lengthOf 5 = .ok (.bipush 20, 2) := by decide +kernel
theorem dX0_lengthOf_7 : decode cX0_lengthOf 7 = .ok (.if_icmp .ge 33, 3) := by decide +kernel
theorem dX0_lengthOf_10 : decode cX0_lengthOf 10 = .ok (.iload_n 1, 1) := by decide +kernel
theorem dX0_lengthOf_11 : decode cX0_lengthOf 11 = .ok (.iload_n 3, 1) := by decide +kernel
theorem dX0_lengthOf_12 : decode cX0_lengthOf 12 = .ok (.ishr, 1) := by decide +kernel
theorem dX0_lengthOf_13 : decode cX0_lengthOf 13 = .ok (.iconst 1, 1) := by decide +kernel
theorem dX0_lengthOf_14 : decode cX0_lengthOf 14 = .ok (.iand, 1) := by decide +kernel
theorem dX0_lengthOf_15 : decode cX0_lengthOf 15 = .ok (.ifCond .eq 19, 3) := by decide +kernel
theorem dX0_lengthOf_18 : decode cX0_lengthOf 18 = .ok (.iload_n 2, 1) := by decide +kernel
theorem dX0_lengthOf_19 : decode cX0_lengthOf 19 = .ok (.aload_n 0, 1) := by decide +kernel
theorem dX0_lengthOf_20 : decode cX0_lengthOf 20 = .ok (.getfield 43, 3) := by decide +kernel
theorem dX0_lengthOf_23 : decode cX0_lengthOf 23 = .ok (.iload_n 3, 1) := by decide +kernel
theorem dX0_lengthOf_24 : decode cX0_lengthOf 24 = .ok (.iaload, 1) := by decide +kernel
theorem dX0_lengthOf_25 : decode cX0_lengthOf 25 = .ok (.aload_n 0, 1) := by decide +kernel
theorem dX0_lengthOf_26 : decode cX0_lengthOf 26 = .ok (.getfield 40, 3) := by decide +kernel
theorem dX0_lengthOf_29 : decode cX0_lengthOf 29 = .ok (.iload_n 3, 1) := by decide +kernel
theorem dX0_lengthOf_30 : decode cX0_lengthOf 30 = .ok (.iaload, 1) := by decide +kernel
theorem dX0_lengthOf_31 : decode cX0_lengthOf 31 = .ok (.isub, 1) := by decide +kernel
theorem dX0_lengthOf_32 : decode cX0_lengthOf 32 = .ok (.iadd, 1) := by decide +kernel
theorem dX0_lengthOf_33 : decode cX0_lengthOf 33 = .ok (.istore_n 2, 1) := by decide +kernel
theorem dX0_lengthOf_34 : decode cX0_lengthOf 34 = .ok (.iinc 3 1, 3) := by decide +kernel
theorem dX0_lengthOf_37 : decode cX0_lengthOf 37 = .ok (.goto (-33), 3) := by decide +kernel
theorem dX0_lengthOf_40 : decode cX0_lengthOf 40 = .ok (.iload_n 2, 1) := by decide +kernel
theorem dX0_lengthOf_41 : decode cX0_lengthOf 41 = .ok (.ireturn, 1) := by decide +kernel
theorem dX0_stayAt_0 : decode cX0_stayAt 0 = .ok (.iconst 0, 1) := by decide +kernel
theorem dX0_stayAt_1 : decode cX0_stayAt 1 = .ok (.istore_n 3, 1) := by decide +kernel
theorem dX0_stayAt_2 : decode cX0_stayAt 2 = .ok (.iload_n 3, 1) := by decide +kernel
theorem dX0_stayAt_3 : decode cX0_stayAt 3 = .ok (.bipush 20, 2) := by decide +kernel
theorem dX0_stayAt_5 : decode cX0_stayAt 5 = .ok (.if_icmp .ge 30, 3) := by decide +kernel
theorem dX0_stayAt_8 : decode cX0_stayAt 8 = .ok (.aload_n 0, 1) := by decide +kernel
theorem dX0_stayAt_9 : decode cX0_stayAt 9 = .ok (.getfield 46, 3) := by decide +kernel
theorem dX0_stayAt_12 : decode cX0_stayAt 12 = .ok (.iload_n 3, 1) := by decide +kernel
theorem dX0_stayAt_13 : decode cX0_stayAt 13 = .ok (.iaload, 1) := by decide +kernel
theorem dX0_stayAt_14 : decode cX0_stayAt 14 = .ok (.iload_n 1, 1) := by decide +kernel
theorem dX0_stayAt_15 : decode cX0_stayAt 15 = .ok (.if_icmp .ne 14, 3) := by decide +kernel
theorem dX0_stayAt_18 : decode cX0_stayAt 18 = .ok (.aload_n 0, 1) := by decide +kernel
theorem dX0_stayAt_19 : decode cX0_stayAt 19 = .ok (.iload_n 3, 1) := by decide +kernel
theorem dX0_stayAt_20 : decode cX0_stayAt 20 = .ok (.iload_n 2, 1) := by decide +kernel
theorem dX0_stayAt_21 : decode cX0_stayAt 21 = .ok (.invokevirtual 108, 3) := by decide +kernel
theorem dX0_stayAt_24 : decode cX0_stayAt 24 = .ok (.ifCond .eq 5, 3) := by decide +kernel
theorem dX0_stayAt_27 : decode cX0_stayAt 27 = .ok (.iload_n 3, 1) := by decide +kernel
theorem dX0_stayAt_28 : decode cX0_stayAt 28 = .ok (.ireturn, 1) := by decide +kernel
theorem dX0_stayAt_29 : decode cX0_stayAt 29 = .ok (.iinc 3 1, 3) := by decide +kernel
theorem dX0_stayAt_32 : decode cX0_stayAt 32 = .ok (.goto (-30), 3) := by decide +kernel
theorem dX0_stayAt_35 : decode cX0_stayAt 35 = .ok (.iconst (-1), 1) := by decide +kernel
theorem dX0_stayAt_36 : decode cX0_stayAt 36 = .ok (.ireturn, 1) := by decide +kernel
theorem dX0_freeFrom_0 : decode cX0_freeFrom 0 = .ok (.aload_n 0, 1) := by decide +kernel
theorem dX0_freeFrom_1 : decode cX0_freeFrom 1 = .ok (.iload_n 1, 1) := by decide +kernel
theorem dX0_freeFrom_2 : decode cX0_freeFrom 2 = .ok (.iload_n 2, 1) := by decide +kernel
theorem dX0_freeFrom_3 : decode cX0_freeFrom 3 = .ok (.invokevirtual 112, 3) := by decide +kernel
theorem dX0_freeFrom_6 : decode cX0_freeFrom 6 = .ok (.ifCond .lt 5, 3) := by decide +kernel
theorem dX0_freeFrom_9 : decode cX0_freeFrom 9 = .ok (.iconst 0, 1) := by decide +kernel
theorem dX0_freeFrom_10 : decode cX0_freeFrom 10 = .ok (.ireturn, 1) := by decide +kernel
theorem dX0_freeFrom_11 : decode cX0_freeFrom 11 = .ok (.sipush 1440, 3) := by decide +kernel
theorem dX0_freeFrom_14 : decode cX0_freeFrom 14 = .ok (.istore_n 3, 1) := by decide +kernel
theorem dX0_freeFrom_15 : decode cX0_freeFrom 15 = .ok (.iconst 0, 1) := by decide +kernel
theorem dX0_freeFrom_16 : decode cX0_freeFrom 16 = .ok (.istore 4, 2) := by decide +kernel
theorem dX0_freeFrom_18 : decode cX0_freeFrom 18 = .ok (.iload 4, 2) := by decide +kernel
theorem dX0_freeFrom_20 : decode cX0_freeFrom 20 = .ok (.bipush 20, 2) := by decide +kernel
theorem dX0_freeFrom_22 : decode cX0_freeFrom 22 = .ok (.if_icmp .ge 43, 3) := by decide +kernel
theorem dX0_freeFrom_25 : decode cX0_freeFrom 25 = .ok (.aload_n 0, 1) := by decide +kernel
theorem dX0_freeFrom_26 : decode cX0_freeFrom 26 = .ok (.getfield 46, 3) := by decide +kernel
theorem dX0_freeFrom_29 : decode cX0_freeFrom 29 = .ok (.iload 4, 2) := by decide +kernel
theorem dX0_freeFrom_31 : decode cX0_freeFrom 31 = .ok (.iaload, 1) := by decide +kernel
theorem dX0_freeFrom_32 : decode cX0_freeFrom 32 = .ok (.iload_n 1, 1) := by decide +kernel
theorem dX0_freeFrom_33 : decode cX0_freeFrom 33 = .ok (.if_icmp .ne 26, 3) := by decide +kernel
theorem dX0_freeFrom_36 : decode cX0_freeFrom 36 = .ok (.aload_n 0, 1) := by decide +kernel
theorem dX0_freeFrom_37 : decode cX0_freeFrom 37 = .ok (.getfield 40, 3) := by decide +kernel
theorem dX0_freeFrom_40 : decode cX0_freeFrom 40 = .ok (.iload 4, 2) := by decide +kernel
theorem dX0_freeFrom_42 : decode cX0_freeFrom 42 = .ok (.iaload, 1) := by decide +kernel
theorem dX0_freeFrom_43 : decode cX0_freeFrom 43 = .ok (.iload_n 2, 1) := by decide +kernel
theorem dX0_freeFrom_44 : decode cX0_freeFrom 44 = .ok (.if_icmp .le 15, 3) := by decide +kernel
theorem dX0_freeFrom_47 : decode cX0_freeFrom 47 = .ok (.iload_n 3, 1) := by decide +kernel
theorem dX0_freeFrom_48 : decode cX0_freeFrom 48 = .ok (.aload_n 0, 1) := by decide +kernel
theorem dX0_freeFrom_49 : decode cX0_freeFrom 49 = .ok (.getfield 40, 3) := by decide +kernel
theorem dX0_freeFrom_52 : decode cX0_freeFrom 52 = .ok (.iload 4, 2) := by decide +kernel
theorem dX0_freeFrom_54 : decode cX0_freeFrom 54 = .ok (.iaload, 1) := by decide +kernel
theorem dX0_freeFrom_55 : decode cX0_freeFrom 55 = .ok (.invokestatic 115, 3) := by decide +kernel
theorem dX0_freeFrom_58 : decode cX0_freeFrom 58 = .ok (.istore_n 3, 1) := by decide +kernel
theorem dX0_freeFrom_59 : decode cX0_freeFrom 59 = .ok (.iinc 4 1, 3) := by decide +kernel
theorem dX0_freeFrom_62 : decode cX0_freeFrom 62 = .ok (.goto (-44), 3) := by decide +kernel
theorem dX0_freeFrom_65 : decode cX0_freeFrom 65 = .ok (.iload_n 3, 1) := by decide +kernel
theorem dX0_freeFrom_66 : decode cX0_freeFrom 66 = .ok (.iload_n 2, 1) := by decide +kernel
theorem dX0_freeFrom_67 : decode cX0_freeFrom 67 = .ok (.isub, 1) := by decide +kernel
theorem dX0_freeFrom_68 : decode cX0_freeFrom 68 = .ok (.ireturn, 1) := by decide +kernel
theorem dX0_thereAt_0 : decode cX0_thereAt 0 = .ok (.iconst 0, 1) := by decide +kernel
theorem dX0_thereAt_1 : decode cX0_thereAt 1 = .ok (.istore_n 2, 1) := by decide +kernel
theorem dX0_thereAt_2 : decode cX0_thereAt 2 = .ok (.iconst 0, 1) := by decide +kernel
theorem dX0_thereAt_3 : decode cX0_thereAt 3 = .ok (.istore_n 3, 1) := by decide +kernel
theorem dX0_thereAt_4 : decode cX0_thereAt 4 = .ok (.iload_n 3, 1) := by decide +kernel
theorem dX0_thereAt_5 : decode cX0_thereAt 5 = .ok (.bipush 20, 2) := by decide +kernel
theorem dX0_thereAt_7 : decode cX0_thereAt 7 = .ok (.if_icmp .ge 29, 3) := by decide +kernel
theorem dX0_thereAt_10 : decode cX0_thereAt 10 = .ok (.aload_n 0, 1) := by decide +kernel
theorem dX0_thereAt_11 : decode cX0_thereAt 11 = .ok (.iload_n 3, 1) := by decide +kernel
theorem dX0_thereAt_12 : decode cX0_thereAt 12 = .ok (.invokevirtual 99, 3) := by decide +kernel
theorem dX0_thereAt_15 : decode cX0_thereAt 15 = .ok (.ifCond .eq 15, 3) := by decide +kernel
theorem dX0_thereAt_18 : decode cX0_thereAt 18 = .ok (.aload_n 0, 1) := by decide +kernel
theorem dX0_thereAt_19 : decode cX0_thereAt 19 = .ok (.iload_n 3, 1) := by decide +kernel
theorem dX0_thereAt_20 : decode cX0_thereAt 20 = .ok (.iload_n 1, 1) := by decide +kernel
theorem dX0_thereAt_21 : decode cX0_thereAt 21 = .ok (.invokevirtual 108, 3) := by decide +kernel
theorem dX0_thereAt_24 : decode cX0_thereAt 24 = .ok (.ifCond .eq 6, 3) := by decide +kernel
theorem dX0_thereAt_27 : decode cX0_thereAt 27 = .ok (.iinc 2 1, 3) := by decide +kernel
theorem dX0_thereAt_30 : decode cX0_thereAt 30 = .ok (.iinc 3 1, 3) := by decide +kernel
theorem dX0_thereAt_33 : decode cX0_thereAt 33 = .ok (.goto (-29), 3) := by decide +kernel
theorem dX0_thereAt_36 : decode cX0_thereAt 36 = .ok (.iload_n 2, 1) := by decide +kernel
theorem dX0_thereAt_37 : decode cX0_thereAt 37 = .ok (.ireturn, 1) := by decide +kernel
theorem dX0_isLargeEnough_0 : decode cX0_isLargeEnough 0 = .ok (.aload_n 0, 1) := by decide +kernel
theorem dX0_isLargeEnough_1 : decode cX0_isLargeEnough 1 = .ok (.getfield 19, 3) := by decide +kernel
theorem dX0_isLargeEnough_4 : decode cX0_isLargeEnough 4 = .ok (.iload_n 1, 1) := by decide +kernel
theorem dX0_isLargeEnough_5 : decode cX0_isLargeEnough 5 = .ok (.iaload, 1) := by decide +kernel
theorem dX0_isLargeEnough_6 : decode cX0_isLargeEnough 6 = .ok (.aload_n 0, 1) := by decide +kernel
theorem dX0_isLargeEnough_7 : decode cX0_isLargeEnough 7 = .ok (.getfield 25, 3) := by decide +kernel
theorem dX0_isLargeEnough_10 : decode cX0_isLargeEnough 10 = .ok (.iload_n 2, 1) := by decide +kernel
theorem dX0_isLargeEnough_11 : decode cX0_isLargeEnough 11 = .ok (.iconst 1, 1) := by decide +kernel
theorem dX0_isLargeEnough_12 : decode cX0_isLargeEnough 12 = .ok (.ishr, 1) := by decide +kernel
theorem dX0_isLargeEnough_13 : decode cX0_isLargeEnough 13 = .ok (.iaload, 1) := by decide +kernel
theorem dX0_isLargeEnough_14 : decode cX0_isLargeEnough 14 = .ok (.if_icmp .lt 7, 3) := by decide +kernel
theorem dX0_isLargeEnough_17 : decode cX0_isLargeEnough 17 = .ok (.iconst 1, 1) := by decide +kernel
theorem dX0_isLargeEnough_18 : decode cX0_isLargeEnough 18 = .ok (.goto 4, 3) := by decide +kernel
theorem dX0_isLargeEnough_21 : decode cX0_isLargeEnough 21 = .ok (.iconst 0, 1) := by decide +kernel
theorem dX0_isLargeEnough_22 : decode cX0_isLargeEnough 22 = .ok (.ireturn, 1) := by decide +kernel
theorem dX0_isHindered_0 : decode cX0_isHindered 0 = .ok (.aload_n 0, 1) := by decide +kernel
theorem dX0_isHindered_1 : decode cX0_isHindered 1 = .ok (.iload_n 1, 1) := by decide +kernel
theorem dX0_isHindered_2 : decode cX0_isHindered 2 = .ok (.invokevirtual 99, 3) := by decide +kernel
theorem dX0_isHindered_5 : decode cX0_isHindered 5 = .ok (.ifCond .ne 5, 3) := by decide +kernel
theorem dX0_isHindered_8 : decode cX0_isHindered 8 = .ok (.iconst 0, 1) := by decide +kernel
theorem dX0_isHindered_9 : decode cX0_isHindered 9 = .ok (.ireturn, 1) := by decide +kernel
theorem dX0_isHindered_10 : decode cX0_isHindered 10 = .ok (.aload_n 0, 1) := by decide +kernel
theorem dX0_isHindered_11 : decode cX0_isHindered 11 = .ok (.getfield 46, 3) := by decide +kernel
theorem dX0_isHindered_14 : decode cX0_isHindered 14 = .ok (.iload_n 1, 1) := by decide +kernel
theorem dX0_isHindered_15 : decode cX0_isHindered 15 = .ok (.iaload, 1) := by decide +kernel
theorem dX0_isHindered_16 : decode cX0_isHindered 16 = .ok (.istore_n 2, 1) := by decide +kernel
theorem dX0_isHindered_17 : decode cX0_isHindered 17 = .ok (.aload_n 0, 1) := by decide +kernel
theorem dX0_isHindered_18 : decode cX0_isHindered 18 = .ok (.iload_n 2, 1) := by decide +kernel
theorem dX0_isHindered_19 : decode cX0_isHindered 19 = .ok (.invokevirtual 80, 3) := by decide +kernel
theorem dX0_isHindered_22 : decode cX0_isHindered 22 = .ok (.ifCond .eq 12, 3) := by decide +kernel
theorem dX0_isHindered_25 : decode cX0_isHindered 25 = .ok (.aload_n 0, 1) := by decide +kernel
theorem dX0_isHindered_26 : decode cX0_isHindered 26 = .ok (.iload_n 2, 1) := by decide +kernel
theorem dX0_isHindered_27 : decode cX0_isHindered 27 = .ok (.iload_n 1, 1) := by decide +kernel
theorem dX0_isHindered_28 : decode cX0_isHindered 28 = .ok (.invokevirtual 118, 3) := by decide +kernel
theorem dX0_isHindered_31 : decode cX0_isHindered 31 = .ok (.ifCond .ne 7, 3) := by decide +kernel
theorem dX0_isHindered_34 : decode cX0_isHindered 34 = .ok (.iconst 1, 1) := by decide +kernel
theorem dX0_isHindered_35 : decode cX0_isHindered 35 = .ok (.goto 4, 3) := by decide +kernel
theorem dX0_isHindered_38 : decode cX0_isHindered 38 = .ok (.iconst 0, 1) := by decide +kernel
theorem dX0_isHindered_39 : decode cX0_isHindered 39 = .ok (.ireturn, 1) := by decide +kernel
theorem dX0_isTroubled_0 : decode cX0_isTroubled 0 = .ok (.aload_n 0, 1) := by decide +kernel
theorem dX0_isTroubled_1 : decode cX0_isTroubled 1 = .ok (.iload_n 1, 1) := by decide +kernel
theorem dX0_isTroubled_2 : decode cX0_isTroubled 2 = .ok (.invokevirtual 102, 3) := by decide +kernel
theorem dX0_isTroubled_5 : decode cX0_isTroubled 5 = .ok (.ifCond .ne 11, 3) := by decide +kernel
theorem dX0_isTroubled_8 : decode cX0_isTroubled 8 = .ok (.aload_n 0, 1) := by decide +kernel
theorem dX0_isTroubled_9 : decode cX0_isTroubled 9 = .ok (.iload_n 1, 1) := by decide +kernel
theorem dX0_isTroubled_10 : decode cX0_isTroubled 10 = .ok (.invokevirtual 121, 3) := by decide +kernel
theorem dX0_isTroubled_13 : decode cX0_isTroubled 13 = .ok (.ifCond .eq 7, 3) := by decide +kernel
theorem dX0_isTroubled_16 : decode cX0_isTroubled 16 = .ok (.iconst 1, 1) := by decide +kernel
theorem dX0_isTroubled_17 : decode cX0_isTroubled 17 = .ok (.goto 4, 3) := by decide +kernel
theorem dX0_isTroubled_20 : decode cX0_isTroubled 20 = .ok (.iconst 0, 1) := by decide +kernel
theorem dX0_isTroubled_21 : decode cX0_isTroubled 21 = .ok (.ireturn, 1) := by decide +kernel
theorem dX0_isSound_0 : decode cX0_isSound 0 = .ok (.iconst 0, 1) := by decide +kernel
theorem dX0_isSound_1 : decode cX0_isSound 1 = .ok (.istore_n 1, 1) := by decide +kernel
theorem dX0_isSound_2 : decode cX0_isSound 2 = .ok (.iload_n 1, 1) := by decide +kernel
theorem dX0_isSound_3 : decode cX0_isSound 3 = .ok (.bipush 20, 2) := by decide +kernel
theorem dX0_isSound_5 : decode cX0_isSound 5 = .ok (.if_icmp .ge 19, 3) := by decide +kernel
theorem dX0_isSound_8 : decode cX0_isSound 8 = .ok (.aload_n 0, 1) := by decide +kernel
theorem dX0_isSound_9 : decode cX0_isSound 9 = .ok (.iload_n 1, 1) := by decide +kernel
theorem dX0_isSound_10 : decode cX0_isSound 10 = .ok (.invokevirtual 105, 3) := by decide +kernel
theorem dX0_isSound_13 : decode cX0_isSound 13 = .ok (.ifCond .eq 5, 3) := by decide +kernel
theorem dX0_isSound_16 : decode cX0_isSound 16 = .ok (.iconst 0, 1) := by decide +kernel
theorem dX0_isSound_17 : decode cX0_isSound 17 = .ok (.ireturn, 1) := by decide +kernel
theorem dX0_isSound_18 : decode cX0_isSound 18 = .ok (.iinc 1 1, 3) := by decide +kernel
theorem dX0_isSound_21 : decode cX0_isSound 21 = .ok (.goto (-19), 3) := by decide +kernel
theorem dX0_isSound_24 : decode cX0_isSound 24 = .ok (.iconst 1, 1) := by decide +kernel
theorem dX0_isSound_25 : decode cX0_isSound 25 = .ok (.ireturn, 1) := by decide +kernel
theorem dX0_wouldClash_0 : decode cX0_wouldClash 0 = .ok (.iload_n 2, 1) := by decide +kernel
theorem dX0_wouldClash_1 : decode cX0_wouldClash 1 = .ok (.iload 4, 2) := by decide +kernel
theorem dX0_wouldClash_3 : decode cX0_wouldClash 3 = .ok (.if_icmp .ne 49, 3) := by decide +kernel
theorem dX0_wouldClash_6 : decode cX0_wouldClash 6 = .ok (.aload_n 0, 1) := by decide +kernel
theorem dX0_wouldClash_7 : decode cX0_wouldClash 7 = .ok (.getfield 40, 3) := by decide +kernel
theorem dX0_wouldClash_10 : decode cX0_wouldClash 10 = .ok (.iload_n 3, 1) := by decide +kernel
theorem dX0_wouldClash_11 : decode cX0_wouldClash 11 = .ok (.iaload, 1) := by decide +kernel
theorem dX0_wouldClash_12 : decode cX0_wouldClash 12 = .ok (.aload_n 0, 1) := by decide +kernel
theorem dX0_wouldClash_13 : decode cX0_wouldClash 13 = .ok (.getfield 43, 3) := by decide +kernel
theorem dX0_wouldClash_16 : decode cX0_wouldClash 16 = .ok (.iload_n 1, 1) := by decide +kernel
theorem dX0_wouldClash_17 : decode cX0_wouldClash 17 = .ok (.iaload, 1) := by decide +kernel
theorem dX0_wouldClash_18 : decode cX0_wouldClash 18 = .ok (.aload_n 0, 1) := by decide +kernel
theorem dX0_wouldClash_19 : decode cX0_wouldClash 19 = .ok (.getfield 9, 3) := by decide +kernel
theorem dX0_wouldClash_22 : decode cX0_wouldClash 22 = .ok (.iadd, 1) := by decide +kernel
theorem dX0_wouldClash_23 : decode cX0_wouldClash 23 = .ok (.if_icmp .ge 27, 3) := by decide +kernel
theorem dX0_wouldClash_26 : decode cX0_wouldClash 26 = .ok (.aload_n 0, 1) := by decide +kernel
theorem dX0_wouldClash_27 : decode cX0_wouldClash 27 = .ok (.getfield 40, 3) := by decide +kernel
theorem dX0_wouldClash_30 : decode cX0_wouldClash 30 = .ok (.iload_n 1, 1) := by decide +kernel
theorem dX0_wouldClash_31 : decode cX0_wouldClash 31 = .ok (.iaload, 1) := by decide +kernel
theorem dX0_wouldClash_32 : decode cX0_wouldClash 32 = .ok (.aload_n 0, 1) := by decide +kernel
theorem dX0_wouldClash_33 : decode cX0_wouldClash 33 = .ok (.getfield 43, 3) := by decide +kernel
theorem dX0_wouldClash_36 : decode cX0_wouldClash 36 = .ok (.iload_n 3, 1) := by decide +kernel
theorem dX0_wouldClash_37 : decode cX0_wouldClash 37 = .ok (.iaload, 1) := by decide +kernel
theorem dX0_wouldClash_38 : decode cX0_wouldClash 38 = .ok (.aload_n 0, 1) := by decide +kernel
theorem dX0_wouldClash_39 : decode cX0_wouldClash 39 = .ok (.getfield 9, 3) := by decide +kernel
theorem dX0_wouldClash_42 : decode cX0_wouldClash 42 = .ok (.iadd, 1) := by decide +kernel
theorem dX0_wouldClash_43 : decode cX0_wouldClash 43 = .ok (.if_icmp .ge 7, 3) := by decide +kernel
theorem dX0_wouldClash_46 : decode cX0_wouldClash 46 = .ok (.iconst 1, 1) := by decide +kernel
theorem dX0_wouldClash_47 : decode cX0_wouldClash 47 = .ok (.goto 4, 3) := by decide +kernel
theorem dX0_wouldClash_50 : decode cX0_wouldClash 50 = .ok (.iconst 0, 1) := by decide +kernel
theorem dX0_wouldClash_51 : decode cX0_wouldClash 51 = .ok (.ireturn, 1) := by decide +kernel
theorem dX0_wouldClash_52 : decode cX0_wouldClash 52 = .ok (.aload_n 0, 1) := by decide +kernel
theorem dX0_wouldClash_53 : decode cX0_wouldClash 53 = .ok (.getfield 22, 3) := by decide +kernel
theorem dX0_wouldClash_56 : decode cX0_wouldClash 56 = .ok (.iload_n 2, 1) := by decide +kernel
theorem dX0_wouldClash_57 : decode cX0_wouldClash 57 = .ok (.bipush 8, 2) := by decide +kernel
theorem dX0_wouldClash_59 : decode cX0_wouldClash 59 = .ok (.imul, 1) := by decide +kernel
theorem dX0_wouldClash_60 : decode cX0_wouldClash 60 = .ok (.iload 4, 2) := by decide +kernel
theorem dX0_wouldClash_62 : decode cX0_wouldClash 62 = .ok (.iadd, 1) := by decide +kernel
theorem dX0_wouldClash_63 : decode cX0_wouldClash 63 = .ok (.iaload, 1) := by decide +kernel
theorem dX0_wouldClash_64 : decode cX0_wouldClash 64 = .ok (.istore 5, 2) := by decide +kernel
theorem dX0_wouldClash_66 : decode cX0_wouldClash 66 = .ok (.iload 5, 2) := by decide +kernel
theorem dX0_wouldClash_68 : decode cX0_wouldClash 68 = .ok (.ifCond .lt 59, 3) := by decide +kernel
theorem dX0_wouldClash_71 : decode cX0_wouldClash 71 = .ok (.aload_n 0, 1) := by decide +kernel
theorem dX0_wouldClash_72 : decode cX0_wouldClash 72 = .ok (.getfield 25, 3) := by decide +kernel
theorem dX0_wouldClash_75 : decode cX0_wouldClash 75 = .ok (.iload_n 1, 1) := by decide +kernel
theorem dX0_wouldClash_76 : decode cX0_wouldClash 76 = .ok (.iconst 1, 1) := by decide +kernel
theorem dX0_wouldClash_77 : decode cX0_wouldClash 77 = .ok (.ishr, 1) := by decide +kernel
theorem dX0_wouldClash_78 : decode cX0_wouldClash 78 = .ok (.iaload, 1) := by decide +kernel
theorem dX0_wouldClash_79 : decode cX0_wouldClash 79 = .ok (.aload_n 0, 1) := by decide +kernel
theorem dX0_wouldClash_80 : decode cX0_wouldClash 80 = .ok (.getfield 25, 3) := by decide +kernel
theorem dX0_wouldClash_83 : decode cX0_wouldClash 83 = .ok (.iload_n 3, 1) := by decide +kernel
theorem dX0_wouldClash_84 : decode cX0_wouldClash 84 = .ok (.iconst 1, 1) := by decide +kernel
theorem dX0_wouldClash_85 : decode cX0_wouldClash 85 = .ok (.ishr, 1) := by decide +kernel
theorem dX0_wouldClash_86 : decode cX0_wouldClash 86 = .ok (.iaload, 1) := by decide +kernel
theorem dX0_wouldClash_87 : decode cX0_wouldClash 87 = .ok (.iadd, 1) := by decide +kernel
theorem dX0_wouldClash_88 : decode cX0_wouldClash 88 = .ok (.iload 5, 2) := by decide +kernel
theorem dX0_wouldClash_90 : decode cX0_wouldClash 90 = .ok (.if_icmp .le 37, 3) := by decide +kernel
theorem dX0_wouldClash_93 : decode cX0_wouldClash 93 = .ok (.aload_n 0, 1) := by decide +kernel
theorem dX0_wouldClash_94 : decode cX0_wouldClash 94 = .ok (.getfield 40, 3) := by decide +kernel
theorem dX0_wouldClash_97 : decode cX0_wouldClash 97 = .ok (.iload_n 3, 1) := by decide +kernel
theorem dX0_wouldClash_98 : decode cX0_wouldClash 98 = .ok (.iaload, 1) := by decide +kernel
theorem dX0_wouldClash_99 : decode cX0_wouldClash 99 = .ok (.aload_n 0, 1) := by decide +kernel
theorem dX0_wouldClash_100 : decode cX0_wouldClash 100 = .ok (.getfield 43, 3) := by decide +kernel
theorem dX0_wouldClash_103 : decode cX0_wouldClash 103 = .ok (.iload_n 1, 1) := by decide +kernel
theorem dX0_wouldClash_104 : decode cX0_wouldClash 104 = .ok (.iaload, 1) := by decide +kernel
theorem dX0_wouldClash_105 : decode cX0_wouldClash 105 = .ok (.if_icmp .ge 22, 3) := by decide +kernel
theorem dX0_wouldClash_108 : decode cX0_wouldClash 108 = .ok (.aload_n 0, 1) := by decide +kernel
theorem dX0_wouldClash_109 : decode cX0_wouldClash 109 = .ok (.getfield 40, 3) := by decide +kernel
theorem dX0_wouldClash_112 : decode cX0_wouldClash 112 = .ok (.iload_n 1, 1) := by decide +kernel
theorem dX0_wouldClash_113 : decode cX0_wouldClash 113 = .ok (.iaload, 1) := by decide +kernel
theorem dX0_wouldClash_114 : decode cX0_wouldClash 114 = .ok (.aload_n 0, 1) := by decide +kernel
theorem dX0_wouldClash_115 : decode cX0_wouldClash 115 = .ok (.getfield 43, 3) := by decide +kernel
theorem dX0_wouldClash_118 : decode cX0_wouldClash 118 = .ok (.iload_n 3, 1) := by decide +kernel
theorem dX0_wouldClash_119 : decode cX0_wouldClash 119 = .ok (.iaload, 1) := by decide +kernel
theorem dX0_wouldClash_120 : decode cX0_wouldClash 120 = .ok (.if_icmp .ge 7, 3) := by decide +kernel
theorem dX0_wouldClash_123 : decode cX0_wouldClash 123 = .ok (.iconst 1, 1) := by decide +kernel
theorem dX0_wouldClash_124 : decode cX0_wouldClash 124 = .ok (.goto 4, 3) := by decide +kernel
theorem dX0_wouldClash_127 : decode cX0_wouldClash 127 = .ok (.iconst 0, 1) := by decide +kernel
theorem dX0_wouldClash_128 : decode cX0_wouldClash 128 = .ok (.ireturn, 1) := by decide +kernel
theorem dX0_clashesOn_0 : decode cX0_clashesOn 0 = .ok (.iconst 0, 1) := by decide +kernel
theorem dX0_clashesOn_1 : decode cX0_clashesOn 1 = .ok (.istore_n 3, 1) := by decide +kernel
theorem dX0_clashesOn_2 : decode cX0_clashesOn 2 = .ok (.iconst 0, 1) := by decide +kernel
theorem dX0_clashesOn_3 : decode cX0_clashesOn 3 = .ok (.istore 4, 2) := by decide +kernel
theorem dX0_clashesOn_5 : decode cX0_clashesOn 5 = .ok (.iload 4, 2) := by decide +kernel
theorem dX0_clashesOn_7 : decode cX0_clashesOn 7 = .ok (.bipush 20, 2) := by decide +kernel
theorem dX0_clashesOn_9 : decode cX0_clashesOn 9 = .ok (.if_icmp .ge 49, 3) := by decide +kernel
theorem dX0_clashesOn_12 : decode cX0_clashesOn 12 = .ok (.aload_n 0, 1) := by decide +kernel
theorem dX0_clashesOn_13 : decode cX0_clashesOn 13 = .ok (.getfield 46, 3) := by decide +kernel
theorem dX0_clashesOn_16 : decode cX0_clashesOn 16 = .ok (.iload 4, 2) := by decide +kernel
theorem dX0_clashesOn_18 : decode cX0_clashesOn 18 = .ok (.iaload, 1) := by decide +kernel
theorem dX0_clashesOn_19 : decode cX0_clashesOn 19 = .ok (.istore 5, 2) := by decide +kernel
theorem dX0_clashesOn_21 : decode cX0_clashesOn 21 = .ok (.iload 4, 2) := by decide +kernel
theorem dX0_clashesOn_23 : decode cX0_clashesOn 23 = .ok (.iload_n 1, 1) := by decide +kernel
theorem dX0_clashesOn_24 : decode cX0_clashesOn 24 = .ok (.if_icmp .eq 28, 3) := by decide +kernel
theorem dX0_clashesOn_27 : decode cX0_clashesOn 27 = .ok (.iload 5, 2) := by decide +kernel
theorem dX0_clashesOn_29 : decode cX0_clashesOn 29 = .ok (.ifCond .lt 23, 3) := by decide +kernel
theorem dX0_clashesOn_32 : decode cX0_clashesOn 32 = .ok (.aload_n 0, 1) := by decide +kernel
theorem dX0_clashesOn_33 : decode cX0_clashesOn 33 = .ok (.iload_n 1, 1) := by decide +kernel
theorem dX0_clashesOn_34 : decode cX0_clashesOn 34 = .ok (.iload_n 2, 1) := by decide +kernel
theorem dX0_clashesOn_35 : decode cX0_clashesOn 35 = .ok (.iload 4, 2) := by decide +kernel
theorem dX0_clashesOn_37 : decode cX0_clashesOn 37 = .ok (.iload 5, 2) := by decide +kernel
theorem dX0_clashesOn_39 : decode cX0_clashesOn 39 = .ok (.invokevirtual 125, 3) := by decide +kernel
theorem dX0_clashesOn_42 : decode cX0_clashesOn 42 = .ok (.ifCond .eq 10, 3) := by decide +kernel
theorem dX0_clashesOn_45 : decode cX0_clashesOn 45 = .ok (.iload_n 3, 1) := by decide +kernel
theorem dX0_clashesOn_46 : decode cX0_clashesOn 46 = .ok (.iconst 1, 1) := by decide +kernel
theorem dX0_clashesOn_47 : decode cX0_clashesOn 47 = .ok (.iload 4, 2) := by decide +kernel
theorem dX0_clashesOn_49 : decode cX0_clashesOn 49 = .ok (.ishl, 1) := by decide +kernel
theorem dX0_clashesOn_50 : decode cX0_clashesOn 50 = .ok (.ior, 1) := by decide +kernel
theorem dX0_clashesOn_51 : decode cX0_clashesOn 51 = .ok (.istore_n 3, 1) := by decide +kernel
theorem dX0_clashesOn_52 : decode cX0_clashesOn 52 = .ok (.iinc 4 1, 3) := by decide +kernel
theorem dX0_clashesOn_55 : decode cX0_clashesOn 55 = .ok (.goto (-50), 3) := by decide +kernel
theorem dX0_clashesOn_58 : decode cX0_clashesOn 58 = .ok (.iload_n 3, 1) := by decide +kernel
theorem dX0_clashesOn_59 : decode cX0_clashesOn 59 = .ok (.ireturn, 1) := by decide +kernel
theorem dX0_conflictsOf_0 : decode cX0_conflictsOf 0 = .ok (.aload_n 0, 1) := by decide +kernel
theorem dX0_conflictsOf_1 : decode cX0_conflictsOf 1 = .ok (.iload_n 1, 1) := by decide +kernel
theorem dX0_conflictsOf_2 : decode cX0_conflictsOf 2 = .ok (.invokevirtual 99, 3) := by decide +kernel
theorem dX0_conflictsOf_5 : decode cX0_conflictsOf 5 = .ok (.ifCond .eq 17, 3) := by decide +kernel
theorem dX0_conflictsOf_8 : decode cX0_conflictsOf 8 = .ok (.aload_n 0, 1) := by decide +kernel
theorem dX0_conflictsOf_9 : decode cX0_conflictsOf 9 = .ok (.iload_n 1, 1) := by decide +kernel
theorem dX0_conflictsOf_10 : decode cX0_conflictsOf 10 = .ok (.aload_n 0, 1) := by decide +kernel
theorem dX0_conflictsOf_11 : decode cX0_conflictsOf 11 = .ok (.getfield 46, 3) := by decide +kernel
theorem dX0_conflictsOf_14 : decode cX0_conflictsOf 14 = .ok (.iload_n 1, 1) := by decide +kernel
theorem dX0_conflictsOf_15 : decode cX0_conflictsOf 15 = .ok (.iaload, 1) := by decide +kernel
theorem dX0_conflictsOf_16 : decode cX0_conflictsOf 16 = .ok (.invokevirtual 129, 3) := by decide +kernel
theorem dX0_conflictsOf_19 : decode cX0_conflictsOf 19 = .ok (.goto 4, 3) := by decide +kernel
theorem dX0_conflictsOf_22 : decode cX0_conflictsOf 22 = .ok (.iconst 0, 1) := by decide +kernel
theorem dX0_conflictsOf_23 : decode cX0_conflictsOf 23 = .ok (.ireturn, 1) := by decide +kernel
theorem dX0_refusal_0 : decode cX0_refusal 0 = .ok (.aload_n 0, 1) := by decide +kernel
theorem dX0_refusal_1 : decode cX0_refusal 1 = .ok (.getfield 46, 3) := by decide +kernel
theorem dX0_refusal_4 : decode cX0_refusal 4 = .ok (.iload_n 1, 1) := by decide +kernel
theorem dX0_refusal_5 : decode cX0_refusal 5 = .ok (.iaload, 1) := by decide +kernel
theorem dX0_refusal_6 : decode cX0_refusal 6 = .ok (.iload_n 2, 1) := by decide +kernel
theorem dX0_refusal_7 : decode cX0_refusal 7 = .ok (.if_icmp .ne 5, 3) := by decide +kernel
theorem dX0_refusal_10 : decode cX0_refusal 10 = .ok (.iconst 1, 1) := by decide +kernel
theorem dX0_refusal_11 : decode cX0_refusal 11 = .ok (.ireturn, 1) := by decide +kernel
theorem dX0_refusal_12 : decode cX0_refusal 12 = .ok (.aload_n 0, 1) := by decide +kernel
theorem dX0_refusal_13 : decode cX0_refusal 13 = .ok (.iload_n 2, 1) := by decide +kernel
theorem dX0_refusal_14 : decode cX0_refusal 14 = .ok (.invokevirtual 80, 3) := by decide +kernel
theorem dX0_refusal_17 : decode cX0_refusal 17 = .ok (.ifCond .ne 5, 3) := by decide +kernel
theorem dX0_refusal_20 : decode cX0_refusal 20 = .ok (.iconst 2, 1) := by decide +kernel
theorem dX0_refusal_21 : decode cX0_refusal 21 = .ok (.ireturn, 1) := by decide +kernel
theorem dX0_refusal_22 : decode cX0_refusal 22 = .ok (.aload_n 0, 1) := by decide +kernel
theorem dX0_refusal_23 : decode cX0_refusal 23 = .ok (.iload_n 2, 1) := by decide +kernel
theorem dX0_refusal_24 : decode cX0_refusal 24 = .ok (.iload_n 1, 1) := by decide +kernel
theorem dX0_refusal_25 : decode cX0_refusal 25 = .ok (.invokevirtual 118, 3) := by decide +kernel
theorem dX0_refusal_28 : decode cX0_refusal 28 = .ok (.ifCond .ne 5, 3) := by decide +kernel
theorem dX0_refusal_31 : decode cX0_refusal 31 = .ok (.iconst 3, 1) := by decide +kernel
theorem dX0_refusal_32 : decode cX0_refusal 32 = .ok (.ireturn, 1) := by decide +kernel
theorem dX0_refusal_33 : decode cX0_refusal 33 = .ok (.aload_n 0, 1) := by decide +kernel
theorem dX0_refusal_34 : decode cX0_refusal 34 = .ok (.iload_n 1, 1) := by decide +kernel
theorem dX0_refusal_35 : decode cX0_refusal 35 = .ok (.iload_n 2, 1) := by decide +kernel
theorem dX0_refusal_36 : decode cX0_refusal 36 = .ok (.invokevirtual 129, 3) := by decide +kernel
theorem dX0_refusal_39 : decode cX0_refusal 39 = .ok (.istore_n 3, 1) := by decide +kernel
theorem dX0_refusal_40 : decode cX0_refusal 40 = .ok (.iload_n 3, 1) := by decide +kernel
theorem dX0_refusal_41 : decode cX0_refusal 41 = .ok (.ifCond .ne 5, 3) := by decide +kernel
theorem dX0_refusal_44 : decode cX0_refusal 44 = .ok (.iconst 0, 1) := by decide +kernel
theorem dX0_refusal_45 : decode cX0_refusal 45 = .ok (.ireturn, 1) := by decide +kernel
theorem dX0_refusal_46 : decode cX0_refusal 46 = .ok (.iload_n 3, 1) := by decide +kernel
theorem dX0_refusal_47 : decode cX0_refusal 47 = .ok (.aload_n 0, 1) := by decide +kernel
theorem dX0_refusal_48 : decode cX0_refusal 48 = .ok (.iload_n 2, 1) := by decide +kernel
theorem dX0_refusal_49 : decode cX0_refusal 49 = .ok (.invokevirtual 132, 3) := by decide +kernel
theorem dX0_refusal_52 : decode cX0_refusal 52 = .ok (.iand, 1) := by decide +kernel
theorem dX0_refusal_53 : decode cX0_refusal 53 = .ok (.ifCond .eq 7, 3) := by decide +kernel
theorem dX0_refusal_56 : decode cX0_refusal 56 = .ok (.iconst 4, 1) := by decide +kernel
theorem dX0_refusal_57 : decode cX0_refusal 57 = .ok (.goto 4, 3) := by decide +kernel
theorem dX0_refusal_60 : decode cX0_refusal 60 = .ok (.iconst 5, 1) := by decide +kernel
theorem dX0_refusal_61 : decode cX0_refusal 61 = .ok (.ireturn, 1) := by decide +kernel
theorem dX0_standsFor_0 : decode cX0_standsFor 0 = .ok (.iconst 0, 1) := by decide +kernel
theorem dX0_standsFor_1 : decode cX0_standsFor 1 = .ok (.istore_n 2, 1) := by decide +kernel
theorem dX0_standsFor_2 : decode cX0_standsFor 2 = .ok (.iconst 0, 1) := by decide +kernel
theorem dX0_standsFor_3 : decode cX0_standsFor 3 = .ok (.istore_n 3, 1) := by decide +kernel
theorem dX0_standsFor_4 : decode cX0_standsFor 4 = .ok (.iload_n 3, 1) := by decide +kernel
theorem dX0_standsFor_5 : decode cX0_standsFor 5 = .ok (.aload_n 0, 1) := by decide +kernel
theorem dX0_standsFor_6 : decode cX0_standsFor 6 = .ok (.getfield 55, 3) := by decide +kernel
theorem dX0_standsFor_9 : decode cX0_standsFor 9 = .ok (.if_icmp .ge 24, 3) := by decide +kernel
theorem dX0_standsFor_12 : decode cX0_standsFor 12 = .ok (.aload_n 0, 1) := by decide +kernel
theorem dX0_standsFor_13 : decode cX0_standsFor 13 = .ok (.iload_n 1, 1) := by decide +kernel
theorem dX0_standsFor_14 : decode cX0_standsFor 14 = .ok (.iload_n 3, 1) := by decide +kernel
theorem dX0_standsFor_15 : decode cX0_standsFor 15 = .ok (.invokevirtual 135, 3) := by decide +kernel
theorem dX0_standsFor_18 : decode cX0_standsFor 18 = .ok (.ifCond .ne 9, 3) := by decide +kernel
theorem dX0_standsFor_21 : decode cX0_standsFor 21 = .ok (.iload_n 2, 1) := by decide +kernel
theorem dX0_standsFor_22 : decode cX0_standsFor 22 = .ok (.iconst 1, 1) := by decide +kernel
theorem dX0_standsFor_23 : decode cX0_standsFor 23 = .ok (.iload_n 3, 1) := by decide +kernel
theorem dX0_standsFor_24 : decode cX0_standsFor 24 = .ok (.ishl, 1) := by decide +kernel
theorem dX0_standsFor_25 : decode cX0_standsFor 25 = .ok (.ior, 1) := by decide +kernel
theorem dX0_standsFor_26 : decode cX0_standsFor 26 = .ok (.istore_n 2, 1) := by decide +kernel
theorem dX0_standsFor_27 : decode cX0_standsFor 27 = .ok (.iinc 3 1, 3) := by decide +kernel
theorem dX0_standsFor_30 : decode cX0_standsFor 30 = .ok (.goto (-26), 3) := by decide +kernel
theorem dX0_standsFor_33 : decode cX0_standsFor 33 = .ok (.iload_n 2, 1) := by decide +kernel
theorem dX0_standsFor_34 : decode cX0_standsFor 34 = .ok (.ireturn, 1) := by decide +kernel
theorem dX0_cheapestFor_0 : decode cX0_cheapestFor 0 = .ok (.iconst (-1), 1) := by decide +kernel
theorem dX0_cheapestFor_1 : decode cX0_cheapestFor 1 = .ok (.istore_n 2, 1) := by decide +kernel
theorem dX0_cheapestFor_2 : decode cX0_cheapestFor 2 = .ok (.iconst 0, 1) := by decide +kernel
theorem dX0_cheapestFor_3 : decode cX0_cheapestFor 3 = .ok (.istore_n 3, 1) := by decide +kernel
theorem dX0_cheapestFor_4 : decode cX0_cheapestFor 4 = .ok (.iload_n 3, 1) := by decide +kernel
theorem dX0_cheapestFor_5 : decode cX0_cheapestFor 5 = .ok (.aload_n 0, 1) := by decide +kernel
theorem dX0_cheapestFor_6 : decode cX0_cheapestFor 6 = .ok (.getfield 55, 3) := by decide +kernel
theorem dX0_cheapestFor_9 : decode cX0_cheapestFor 9 = .ok (.if_icmp .ge 39, 3) := by decide +kernel
theorem dX0_cheapestFor_12 : decode cX0_cheapestFor 12 = .ok (.iload_n 2, 1) := by decide +kernel
theorem dX0_cheapestFor_13 : decode cX0_cheapestFor 13 = .ok (.ifCond .lt 18, 3) := by decide +kernel
theorem dX0_cheapestFor_16 : decode cX0_cheapestFor 16 = .ok (.aload_n 0, 1) := by decide +kernel
theorem dX0_cheapestFor_17 : decode cX0_cheapestFor 17 = .ok (.getfield 15, 3) := by decide +kernel
theorem dX0_cheapestFor_20 : decode cX0_cheapestFor 20 = .ok (.iload_n 3, 1) := by decide +kernel
theorem dX0_cheapestFor_21 : decode cX0_cheapestFor 21 = .ok (.iaload, 1) := by decide +kernel
theorem dX0_cheapestFor_22 : decode cX0_cheapestFor 22 = .ok (.aload_n 0, 1) := by decide +kernel
theorem dX0_cheapestFor_23 : decode cX0_cheapestFor 23 = .ok (.getfield 15, 3) := by decide +kernel
theorem dX0_cheapestFor_26 : decode cX0_cheapestFor 26 = .ok (.iload_n 2, 1) := by decide +kernel
theorem dX0_cheapestFor_27 : decode cX0_cheapestFor 27 = .ok (.iaload, 1) := by decide +kernel
theorem dX0_cheapestFor_28 : decode cX0_cheapestFor 28 = .ok (.if_icmp .ge 14, 3) := by decide +kernel
theorem dX0_cheapestFor_31 : decode cX0_cheapestFor 31 = .ok (.aload_n 0, 1) := by decide +kernel
theorem dX0_cheapestFor_32 : decode cX0_cheapestFor 32 = .ok (.iload_n 1, 1) := by decide +kernel
theorem dX0_cheapestFor_33 : decode cX0_cheapestFor 33 = .ok (.iload_n 3, 1) := by decide +kernel
theorem dX0_cheapestFor_34 : decode cX0_cheapestFor 34 = .ok (.invokevirtual 135, 3) := by decide +kernel
theorem dX0_cheapestFor_37 : decode cX0_cheapestFor 37 = .ok (.ifCond .ne 5, 3) := by decide +kernel
theorem dX0_cheapestFor_40 : decode cX0_cheapestFor 40 = .ok (.iload_n 3, 1) := by decide +kernel
theorem dX0_cheapestFor_41 : decode cX0_cheapestFor 41 = .ok (.istore_n 2, 1) := by decide +kernel
theorem dX0_cheapestFor_42 : decode cX0_cheapestFor 42 = .ok (.iinc 3 1, 3) := by decide +kernel
theorem dX0_cheapestFor_45 : decode cX0_cheapestFor 45 = .ok (.goto (-41), 3) := by decide +kernel
theorem dX0_cheapestFor_48 : decode cX0_cheapestFor 48 = .ok (.iload_n 2, 1) := by decide +kernel
theorem dX0_cheapestFor_49 : decode cX0_cheapestFor 49 = .ok (.ireturn, 1) := by decide +kernel
theorem dX0_costOfStay_0 : decode cX0_costOfStay 0 = .ok (.aload_n 0, 1) := by decide +kernel
theorem dX0_costOfStay_1 : decode cX0_costOfStay 1 = .ok (.getfield 46, 3) := by decide +kernel
theorem dX0_costOfStay_4 : decode cX0_costOfStay 4 = .ok (.iload_n 1, 1) := by decide +kernel
theorem dX0_costOfStay_5 : decode cX0_costOfStay 5 = .ok (.iaload, 1) := by decide +kernel
theorem dX0_costOfStay_6 : decode cX0_costOfStay 6 = .ok (.istore_n 2, 1) := by decide +kernel
theorem dX0_costOfStay_7 : decode cX0_costOfStay 7 = .ok (.iload_n 2, 1) := by decide +kernel
theorem dX0_costOfStay_8 : decode cX0_costOfStay 8 = .ok (.ifCond .ge 8, 3) := by decide +kernel
theorem dX0_costOfStay_11 : decode cX0_costOfStay 11 = .ok (.bipush 20, 2) := by decide +kernel
theorem dX0_costOfStay_13 : decode cX0_costOfStay 13 = .ok (.goto 12, 3) := by decide +kernel
theorem dX0_costOfStay_16 : decode cX0_costOfStay 16 = .ok (.aload_n 0, 1) := by decide +kernel
theorem dX0_costOfStay_17 : decode cX0_costOfStay 17 = .ok (.getfield 15, 3) := by decide +kernel
theorem dX0_costOfStay_20 : decode cX0_costOfStay 20 = .ok (.iload_n 2, 1) := by decide +kernel
theorem dX0_costOfStay_21 : decode cX0_costOfStay 21 = .ok (.iaload, 1) := by decide +kernel
theorem dX0_costOfStay_22 : decode cX0_costOfStay 22 = .ok (.invokestatic 138, 3) := by decide +kernel
theorem dX0_costOfStay_25 : decode cX0_costOfStay 25 = .ok (.istore_n 3, 1) := by decide +kernel
theorem dX0_costOfStay_26 : decode cX0_costOfStay 26 = .ok (.iload_n 3, 1) := by decide +kernel
theorem dX0_costOfStay_27 : decode cX0_costOfStay 27 = .ok (.aload_n 0, 1) := by decide +kernel
theorem dX0_costOfStay_28 : decode cX0_costOfStay 28 = .ok (.getfield 34, 3) := by decide +kernel
theorem dX0_costOfStay_31 : decode cX0_costOfStay 31 = .ok (.iload_n 1, 1) := by decide +kernel
theorem dX0_costOfStay_32 : decode cX0_costOfStay 32 = .ok (.iconst 1, 1) := by decide +kernel
theorem dX0_costOfStay_33 : decode cX0_costOfStay 33 = .ok (.ishr, 1) := by decide +kernel
theorem dX0_costOfStay_34 : decode cX0_costOfStay 34 = .ok (.iaload, 1) := by decide +kernel
theorem dX0_costOfStay_35 : decode cX0_costOfStay 35 = .ok (.imul, 1) := by decide +kernel
theorem dX0_costOfStay_36 : decode cX0_costOfStay 36 = .ok (.ireturn, 1) := by decide +kernel
theorem dX0_rateOf_0 : decode cX0_rateOf 0 = .ok (.iload_n 0, 1) := by decide +kernel
theorem dX0_rateOf_1 : decode cX0_rateOf 1 = .ok (.ifCond .ne 5, 3) := by decide +kernel
theorem dX0_rateOf_4 : decode cX0_rateOf 4 = .ok (.iconst 0, 1) := by decide +kernel
theorem dX0_rateOf_5 : decode cX0_rateOf 5 = .ok (.ireturn, 1) := by decide +kernel
theorem dX0_rateOf_6 : decode cX0_rateOf 6 = .ok (.iload_n 0, 1) := by decide +kernel
theorem dX0_rateOf_7 : decode cX0_rateOf 7 = .ok (.iconst 2, 1) := by decide +kernel
theorem dX0_rateOf_8 : decode cX0_rateOf 8 = .ok (.if_icmp .ne 7, 3) := by decide +kernel
theorem dX0_rateOf_11 : decode cX0_rateOf 11 = .ok (.iconst 5, 1) := by decide +kernel
theorem dX0_rateOf_12 : decode cX0_rateOf 12 = .ok (.goto 4, 3) := by decide +kernel
theorem dX0_rateOf_15 : decode cX0_rateOf 15 = .ok (.iconst 2, 1) := by decide +kernel
theorem dX0_rateOf_16 : decode cX0_rateOf 16 = .ok (.ireturn, 1) := by decide +kernel
theorem dX0_costOfTurn_0 : decode cX0_costOfTurn 0 = .ok (.aload_n 0, 1) := by decide +kernel
theorem dX0_costOfTurn_1 : decode cX0_costOfTurn 1 = .ok (.iconst 2, 1) := by decide +kernel
theorem dX0_costOfTurn_2 : decode cX0_costOfTurn 2 = .ok (.iload_n 1, 1) := by decide +kernel
theorem dX0_costOfTurn_3 : decode cX0_costOfTurn 3 = .ok (.imul, 1) := by decide +kernel
theorem dX0_costOfTurn_4 : decode cX0_costOfTurn 4 = .ok (.invokevirtual 141, 3) := by decide +kernel
theorem dX0_costOfTurn_7 : decode cX0_costOfTurn 7 = .ok (.istore_n 2, 1) := by decide +kernel
theorem dX0_costOfTurn_8 : decode cX0_costOfTurn 8 = .ok (.aload_n 0, 1) := by decide +kernel
theorem dX0_costOfTurn_9 : decode cX0_costOfTurn 9 = .ok (.iload_n 1, 1) := by decide +kernel
theorem dX0_costOfTurn_10 : decode cX0_costOfTurn 10 = .ok (.invokevirtual 77, 3) := by decide +kernel
theorem dX0_costOfTurn_13 : decode cX0_costOfTurn 13 = .ok (.ifCond .eq 20, 3) := by decide +kernel
theorem dX0_costOfTurn_16 : decode cX0_costOfTurn 16 = .ok (.iload_n 2, 1) := by decide +kernel
theorem dX0_costOfTurn_17 : decode cX0_costOfTurn 17 = .ok (.bipush 10, 2) := by decide +kernel
theorem dX0_costOfTurn_19 : decode cX0_costOfTurn 19 = .ok (.iadd, 1) := by decide +kernel
theorem dX0_costOfTurn_20 : decode cX0_costOfTurn 20 = .ok (.aload_n 0, 1) := by decide +kernel
theorem dX0_costOfTurn_21 : decode cX0_costOfTurn 21 = .ok (.iconst 2, 1) := by decide +kernel
theorem dX0_costOfTurn_22 : decode cX0_costOfTurn 22 = .ok (.iload_n 1, 1) := by decide +kernel
theorem dX0_costOfTurn_23 : decode cX0_costOfTurn 23 = .ok (.imul, 1) := by decide +kernel
theorem dX0_costOfTurn_24 : decode cX0_costOfTurn 24 = .ok (.iconst 1, 1) := by decide +kernel
theorem dX0_costOfTurn_25 : decode cX0_costOfTurn 25 = .ok (.iadd, 1) := by decide +kernel
theorem dX0_costOfTurn_26 : decode cX0_costOfTurn 26 = .ok (.invokevirtual 141, 3) := by decide +kernel
theorem dX0_costOfTurn_29 : decode cX0_costOfTurn 29 = .ok (.iadd, 1) := by decide +kernel
theorem dX0_costOfTurn_30 : decode cX0_costOfTurn 30 = .ok (.goto 4, 3) := by decide +kernel
theorem dX0_costOfTurn_33 : decode cX0_costOfTurn 33 = .ok (.iload_n 2, 1) := by decide +kernel
theorem dX0_costOfTurn_34 : decode cX0_costOfTurn 34 = .ok (.ireturn, 1) := by decide +kernel
theorem dX0_costOfAll_0 : decode cX0_costOfAll 0 = .ok (.iconst 0, 1) := by decide +kernel
theorem dX0_costOfAll_1 : decode cX0_costOfAll 1 = .ok (.istore_n 1, 1) := by decide +kernel
theorem dX0_costOfAll_2 : decode cX0_costOfAll 2 = .ok (.iconst 0, 1) := by decide +kernel
theorem dX0_costOfAll_3 : decode cX0_costOfAll 3 = .ok (.istore_n 2, 1) := by decide +kernel
theorem dX0_costOfAll_4 : decode cX0_costOfAll 4 = .ok (.iload_n 2, 1) := by decide +kernel
theorem dX0_costOfAll_5 : decode cX0_costOfAll 5 = .ok (.aload_n 0, 1) := by decide +kernel
theorem dX0_costOfAll_6 : decode cX0_costOfAll 6 = .ok (.getfield 58, 3) := by decide +kernel
theorem dX0_costOfAll_9 : decode cX0_costOfAll 9 = .ok (.if_icmp .ge 17, 3) := by decide +kernel
theorem dX0_costOfAll_12 : decode cX0_costOfAll 12 = .ok (.iload_n 1, 1) := by decide +kernel
theorem dX0_costOfAll_13 : decode cX0_costOfAll 13 = .ok (.aload_n 0, 1) := by decide +kernel
theorem dX0_costOfAll_14 : decode cX0_costOfAll 14 = .ok (.iload_n 2, 1) := by decide +kernel
theorem dX0_costOfAll_15 : decode cX0_costOfAll 15 = .ok (.invokevirtual 144, 3) := by decide +kernel
theorem dX0_costOfAll_18 : decode cX0_costOfAll 18 = .ok (.iadd, 1) := by decide +kernel
theorem dX0_costOfAll_19 : decode cX0_costOfAll 19 = .ok (.istore_n 1, 1) := by decide +kernel
theorem dX0_costOfAll_20 : decode cX0_costOfAll 20 = .ok (.iinc 2 1, 3) := by decide +kernel
theorem dX0_costOfAll_23 : decode cX0_costOfAll 23 = .ok (.goto (-19), 3) := by decide +kernel
theorem dX0_costOfAll_26 : decode cX0_costOfAll 26 = .ok (.iload_n 1, 1) := by decide +kernel
theorem dX0_costOfAll_27 : decode cX0_costOfAll 27 = .ok (.ireturn, 1) := by decide +kernel
theorem dX0_isOnRemote_0 : decode cX0_isOnRemote 0 = .ok (.aload_n 0, 1) := by decide +kernel
theorem dX0_isOnRemote_1 : decode cX0_isOnRemote 1 = .ok (.iload_n 1, 1) := by decide +kernel
theorem dX0_isOnRemote_2 : decode cX0_isOnRemote 2 = .ok (.invokevirtual 99, 3) := by decide +kernel
theorem dX0_isOnRemote_5 : decode cX0_isOnRemote 5 = .ok (.ifCond .eq 22, 3) := by decide +kernel
theorem dX0_isOnRemote_8 : decode cX0_isOnRemote 8 = .ok (.aload_n 0, 1) := by decide +kernel
theorem dX0_isOnRemote_9 : decode cX0_isOnRemote 9 = .ok (.getfield 15, 3) := by decide +kernel
theorem dX0_isOnRemote_12 : decode cX0_isOnRemote 12 = .ok (.aload_n 0, 1) := by decide +kernel
theorem dX0_isOnRemote_13 : decode cX0_isOnRemote 13 = .ok (.getfield 46, 3) := by decide +kernel
theorem dX0_isOnRemote_16 : decode cX0_isOnRemote 16 = .ok (.iload_n 1, 1) := by decide +kernel
theorem dX0_isOnRemote_17 : decode cX0_isOnRemote 17 = .ok (.iaload, 1) := by decide +kernel
theorem dX0_isOnRemote_18 : decode cX0_isOnRemote 18 = .ok (.iaload, 1) := by decide +kernel
theorem dX0_isOnRemote_19 : decode cX0_isOnRemote 19 = .ok (.iconst 2, 1) := by decide +kernel
theorem dX0_isOnRemote_20 : decode cX0_isOnRemote 20 = .ok (.if_icmp .ne 7, 3) := by decide +kernel
theorem dX0_isOnRemote_23 : decode cX0_isOnRemote 23 = .ok (.iconst 1, 1) := by decide +kernel
theorem dX0_isOnRemote_24 : decode cX0_isOnRemote 24 = .ok (.goto 4, 3) := by decide +kernel
theorem dX0_isOnRemote_27 : decode cX0_isOnRemote 27 = .ok (.iconst 0, 1) := by decide +kernel
theorem dX0_isOnRemote_28 : decode cX0_isOnRemote 28 = .ok (.ireturn, 1) := by decide +kernel
theorem dX0_weightsOnRemote_0 : decode cX0_weightsOnRemote 0 = .ok (.iconst 0, 1) := by decide +kernel
theorem dX0_weightsOnRemote_1 : decode cX0_weightsOnRemote 1 = .ok (.istore_n 1, 1) := by decide +kernel
theorem dX0_weightsOnRemote_2 : decode cX0_weightsOnRemote 2 = .ok (.iconst 0, 1) := by decide +kernel
theorem dX0_weightsOnRemote_3 : decode cX0_weightsOnRemote 3 = .ok (.istore_n 2, 1) := by decide +kernel
theorem dX0_weightsOnRemote_4 : decode cX0_weightsOnRemote 4 = .ok (.iload_n 2, 1) := by decide +kernel
theorem dX0_weightsOnRemote_5 : decode cX0_weightsOnRemote 5 = .ok (.aload_n 0, 1) := by decide +kernel
theorem dX0_weightsOnRemote_6 : decode cX0_weightsOnRemote 6 = .ok (.getfield 58, 3) := by decide +kernel
theorem dX0_weightsOnRemote_9 : decode cX0_weightsOnRemote 9 = .ok (.if_icmp .ge 40, 3) := by decide +kernel
theorem dX0_weightsOnRemote_12 : decode cX0_weightsOnRemote 12 = .ok (.aload_n 0, 1) := by decide +kernel
theorem dX0_weightsOnRemote_13 : decode cX0_weightsOnRemote 13 = .ok (.iconst 2, 1) := by decide +kernel
theorem dX0_weightsOnRemote_14 : decode cX0_weightsOnRemote 14 = .ok (.iload_n 2, 1) := by decide +kernel
theorem dX0_weightsOnRemote_15 : decode cX0_weightsOnRemote 15 = .ok (.imul, 1) := by decide +kernel
theorem dX0_weightsOnRemote_16 : decode cX0_weightsOnRemote 16 = .ok (.invokevirtual 147, 3) := by decide +kernel
theorem dX0_weightsOnRemote_19 : decode cX0_weightsOnRemote 19 = .ok (.ifCond .ne 15, 3) := by decide +kernel
theorem dX0_weightsOnRemote_22 : decode cX0_weightsOnRemote 22 = .ok (.aload_n 0, 1) := by decide +kernel
theorem dX0_weightsOnRemote_23 : decode cX0_weightsOnRemote 23 = .ok (.iconst 2, 1) := by decide +kernel
theorem dX0_weightsOnRemote_24 : decode cX0_weightsOnRemote 24 = .ok (.iload_n 2, 1) := by decide +kernel
theorem dX0_weightsOnRemote_25 : decode cX0_weightsOnRemote 25 = .ok (.imul, 1) := by decide +kernel
theorem dX0_weightsOnRemote_26 : decode cX0_weightsOnRemote 26 = .ok (.iconst 1, 1) := by decide +kernel
theorem dX0_weightsOnRemote_27 : decode cX0_weightsOnRemote 27 = .ok (.iadd, 1) := by decide +kernel
theorem dX0_weightsOnRemote_28 : decode cX0_weightsOnRemote 28 = .ok (.invokevirtual 147, 3) := by decide +kernel
theorem dX0_weightsOnRemote_31 : decode cX0_weightsOnRemote 31 = .ok (.ifCond .eq 12, 3) := by decide +kernel
theorem dX0_weightsOnRemote_34 : decode cX0_weightsOnRemote 34 = .ok (.iload_n 1, 1) := by decide +kernel
theorem dX0_weightsOnRemote_35 : decode cX0_weightsOnRemote 35 = .ok (.aload_n 0, 1) := by decide +kernel
theorem dX0_weightsOnRemote_36 : decode cX0_weightsOnRemote 36 = .ok (.getfield 34, 3) := by decide +kernel
theorem dX0_weightsOnRemote_39 : decode cX0_weightsOnRemote 39 = .ok (.iload_n 2, 1) := by decide +kernel
theorem dX0_weightsOnRemote_40 : decode cX0_weightsOnRemote 40 = .ok (.iaload, 1) := by decide +kernel
theorem dX0_weightsOnRemote_41 : decode cX0_weightsOnRemote 41 = .ok (.iadd, 1) := by decide +kernel
theorem dX0_weightsOnRemote_42 : decode cX0_weightsOnRemote 42 = .ok (.istore_n 1, 1) := by decide +kernel
theorem dX0_weightsOnRemote_43 : decode cX0_weightsOnRemote 43 = .ok (.iinc 2 1, 3) := by decide +kernel
theorem dX0_weightsOnRemote_46 : decode cX0_weightsOnRemote 46 = .ok (.goto (-42), 3) := by decide +kernel
theorem dX0_weightsOnRemote_49 : decode cX0_weightsOnRemote 49 = .ok (.iload_n 1, 1) := by decide +kernel
theorem dX0_weightsOnRemote_50 : decode cX0_weightsOnRemote 50 = .ok (.ireturn, 1) := by decide +kernel
theorem dX0_comesBefore_0 : decode cX0_comesBefore 0 = .ok (.aload_n 0, 1) := by decide +kernel
theorem dX0_comesBefore_1 : decode cX0_comesBefore 1 = .ok (.getfield 40, 3) := by decide +kernel
theorem dX0_comesBefore_4 : decode cX0_comesBefore 4 = .ok (.iload_n 1, 1) := by decide +kernel
theorem dX0_comesBefore_5 : decode cX0_comesBefore 5 = .ok (.iaload, 1) := by decide +kernel
theorem dX0_comesBefore_6 : decode cX0_comesBefore 6 = .ok (.aload_n 0, 1) := by decide +kernel
theorem dX0_comesBefore_7 : decode cX0_comesBefore 7 = .ok (.getfield 40, 3) := by decide +kernel
theorem dX0_comesBefore_10 : decode cX0_comesBefore 10 = .ok (.iload_n 2, 1) := by decide +kernel
theorem dX0_comesBefore_11 : decode cX0_comesBefore 11 = .ok (.iaload, 1) := by decide +kernel
theorem dX0_comesBefore_12 : decode cX0_comesBefore 12 = .ok (.if_icmp .eq 24, 3) := by decide +kernel
theorem dX0_comesBefore_15 : decode cX0_comesBefore 15 = .ok (.aload_n 0, 1) := by decide +kernel
theorem dX0_comesBefore_16 : decode cX0_comesBefore 16 = .ok (.getfield 40, 3) := by decide +kernel
theorem dX0_comesBefore_19 : decode cX0_comesBefore 19 = .ok (.iload_n 1, 1) := by decide +kernel
theorem dX0_comesBefore_20 : decode cX0_comesBefore 20 = .ok (.iaload, 1) := by decide +kernel
theorem dX0_comesBefore_21 : decode cX0_comesBefore 21 = .ok (.aload_n 0, 1) := by decide +kernel
theorem dX0_comesBefore_22 : decode cX0_comesBefore 22 = .ok (.getfield 40, 3) := by decide +kernel
theorem dX0_comesBefore_25 : decode cX0_comesBefore 25 = .ok (.iload_n 2, 1) := by decide +kernel
theorem dX0_comesBefore_26 : decode cX0_comesBefore 26 = .ok (.iaload, 1) := by decide +kernel
theorem dX0_comesBefore_27 : decode cX0_comesBefore 27 = .ok (.if_icmp .ge 7, 3) := by decide +kernel
theorem dX0_comesBefore_30 : decode cX0_comesBefore 30 = .ok (.iconst 1, 1) := by decide +kernel
theorem dX0_comesBefore_31 : decode cX0_comesBefore 31 = .ok (.goto 4, 3) := by decide +kernel
theorem dX0_comesBefore_34 : decode cX0_comesBefore 34 = .ok (.iconst 0, 1) := by decide +kernel
theorem dX0_comesBefore_35 : decode cX0_comesBefore 35 = .ok (.ireturn, 1) := by decide +kernel
theorem dX0_comesBefore_36 : decode cX0_comesBefore 36 = .ok (.aload_n 0, 1) := by decide +kernel
theorem dX0_comesBefore_37 : decode cX0_comesBefore 37 = .ok (.getfield 34, 3) := by decide +kernel
theorem dX0_comesBefore_40 : decode cX0_comesBefore 40 = .ok (.iload_n 1, 1) := by decide +kernel
theorem dX0_comesBefore_41 : decode cX0_comesBefore 41 = .ok (.iconst 1, 1) := by decide +kernel
theorem dX0_comesBefore_42 : decode cX0_comesBefore 42 = .ok (.ishr, 1) := by decide +kernel
theorem dX0_comesBefore_43 : decode cX0_comesBefore 43 = .ok (.iaload, 1) := by decide +kernel
theorem dX0_comesBefore_44 : decode cX0_comesBefore 44 = .ok (.aload_n 0, 1) := by decide +kernel
theorem dX0_comesBefore_45 : decode cX0_comesBefore 45 = .ok (.getfield 34, 3) := by decide +kernel
theorem dX0_comesBefore_48 : decode cX0_comesBefore 48 = .ok (.iload_n 2, 1) := by decide +kernel
theorem dX0_comesBefore_49 : decode cX0_comesBefore 49 = .ok (.iconst 1, 1) := by decide +kernel
theorem dX0_comesBefore_50 : decode cX0_comesBefore 50 = .ok (.ishr, 1) := by decide +kernel
theorem dX0_comesBefore_51 : decode cX0_comesBefore 51 = .ok (.iaload, 1) := by decide +kernel
theorem dX0_comesBefore_52 : decode cX0_comesBefore 52 = .ok (.if_icmp .eq 28, 3) := by decide +kernel
theorem dX0_comesBefore_55 : decode cX0_comesBefore 55 = .ok (.aload_n 0, 1) := by decide +kernel
theorem dX0_comesBefore_56 : decode cX0_comesBefore 56 = .ok (.getfield 34, 3) := by decide +kernel
theorem dX0_comesBefore_59 : decode cX0_comesBefore 59 = .ok (.iload_n 1, 1) := by decide +kernel
theorem dX0_comesBefore_60 : decode cX0_comesBefore 60 = .ok (.iconst 1, 1) := by decide +kernel
theorem dX0_comesBefore_61 : decode cX0_comesBefore 61 = .ok (.ishr, 1) := by decide +kernel
theorem dX0_comesBefore_62 : decode cX0_comesBefore 62 = .ok (.iaload, 1) := by decide +kernel
theorem dX0_comesBefore_63 : decode cX0_comesBefore 63 = .ok (.aload_n 0, 1) := by decide +kernel
theorem dX0_comesBefore_64 : decode cX0_comesBefore 64 = .ok (.getfield 34, 3) := by decide +kernel
theorem dX0_comesBefore_67 : decode cX0_comesBefore 67 = .ok (.iload_n 2, 1) := by decide +kernel
theorem dX0_comesBefore_68 : decode cX0_comesBefore 68 = .ok (.iconst 1, 1) := by decide +kernel
theorem dX0_comesBefore_69 : decode cX0_comesBefore 69 = .ok (.ishr, 1) := by decide +kernel
theorem dX0_comesBefore_70 : decode cX0_comesBefore 70 = .ok (.iaload, 1) := by decide +kernel
theorem dX0_comesBefore_71 : decode cX0_comesBefore 71 = .ok (.if_icmp .le 7, 3) := by decide +kernel
theorem dX0_comesBefore_74 : decode cX0_comesBefore 74 = .ok (.iconst 1, 1) := by decide +kernel
theorem dX0_comesBefore_75 : decode cX0_comesBefore 75 = .ok (.goto 4, 3) := by decide +kernel
theorem dX0_comesBefore_78 : decode cX0_comesBefore 78 = .ok (.iconst 0, 1) := by decide +kernel
theorem dX0_comesBefore_79 : decode cX0_comesBefore 79 = .ok (.ireturn, 1) := by decide +kernel
theorem dX0_comesBefore_80 : decode cX0_comesBefore 80 = .ok (.iload_n 1, 1) := by decide +kernel
theorem dX0_comesBefore_81 : decode cX0_comesBefore 81 = .ok (.iload_n 2, 1) := by decide +kernel
theorem dX0_comesBefore_82 : decode cX0_comesBefore 82 = .ok (.if_icmp .ge 7, 3) := by decide +kernel
theorem dX0_comesBefore_85 : decode cX0_comesBefore 85 = .ok (.iconst 1, 1) := by decide +kernel
theorem dX0_comesBefore_86 : decode cX0_comesBefore 86 = .ok (.goto 4, 3) := by decide +kernel
theorem dX0_comesBefore_89 : decode cX0_comesBefore 89 = .ok (.iconst 0, 1) := by decide +kernel
theorem dX0_comesBefore_90 : decode cX0_comesBefore 90 = .ok (.ireturn, 1) := by decide +kernel
theorem dX0_firstOf_0 : decode cX0_firstOf 0 = .ok (.iconst (-1), 1) := by decide +kernel
theorem dX0_firstOf_1 : decode cX0_firstOf 1 = .ok (.istore_n 2, 1) := by decide +kernel
theorem dX0_firstOf_2 : decode cX0_firstOf 2 = .ok (.iconst 0, 1) := by decide +kernel
theorem dX0_firstOf_3 : decode cX0_firstOf 3 = .ok (.istore_n 3, 1) := by decide +kernel
theorem dX0_firstOf_4 : decode cX0_firstOf 4 = .ok (.iload_n 3, 1) := by decide +kernel
theorem dX0_firstOf_5 : decode cX0_firstOf 5 = .ok (.bipush 20, 2) := by decide +kernel
theorem dX0_firstOf_7 : decode cX0_firstOf 7 = .ok (.if_icmp .ge 32, 3) := by decide +kernel
theorem dX0_firstOf_10 : decode cX0_firstOf 10 = .ok (.iload_n 1, 1) := by decide +kernel
theorem dX0_firstOf_11 : decode cX0_firstOf 11 = .ok (.iload_n 3, 1) := by decide +kernel
theorem dX0_firstOf_12 : decode cX0_firstOf 12 = .ok (.ishr, 1) := by decide +kernel
theorem dX0_firstOf_13 : decode cX0_firstOf 13 = .ok (.iconst 1, 1) := by decide +kernel
theorem dX0_firstOf_14 : decode cX0_firstOf 14 = .ok (.iand, 1) := by decide +kernel
theorem dX0_firstOf_15 : decode cX0_firstOf 15 = .ok (.ifCond .eq 18, 3) := by decide +kernel
theorem dX0_firstOf_18 : decode cX0_firstOf 18 = .ok (.iload_n 2, 1) := by decide +kernel
theorem dX0_firstOf_19 : decode cX0_firstOf 19 = .ok (.ifCond .lt 12, 3) := by decide +kernel
theorem dX0_firstOf_22 : decode cX0_firstOf 22 = .ok (.aload_n 0, 1) := by decide +kernel
theorem dX0_firstOf_23 : decode cX0_firstOf 23 = .ok (.iload_n 3, 1) := by decide +kernel
theorem dX0_firstOf_24 : decode cX0_firstOf 24 = .ok (.iload_n 2, 1) := by decide +kernel
theorem dX0_firstOf_25 : decode cX0_firstOf 25 = .ok (.invokevirtual 150, 3) := by decide +kernel
theorem dX0_firstOf_28 : decode cX0_firstOf 28 = .ok (.ifCond .eq 5, 3) := by decide +kernel
theorem dX0_firstOf_31 : decode cX0_firstOf 31 = .ok (.iload_n 3, 1) := by decide +kernel
theorem dX0_firstOf_32 : decode cX0_firstOf 32 = .ok (.istore_n 2, 1) := by decide +kernel
theorem dX0_firstOf_33 : decode cX0_firstOf 33 = .ok (.iinc 3 1, 3) := by decide +kernel
theorem dX0_firstOf_36 : decode cX0_firstOf 36 = .ok (.goto (-32), 3) := by decide +kernel
theorem dX0_firstOf_39 : decode cX0_firstOf 39 = .ok (.iload_n 2, 1) := by decide +kernel
theorem dX0_firstOf_40 : decode cX0_firstOf 40 = .ok (.ireturn, 1) := by decide +kernel
theorem dX0_placeEverything_0 : decode cX0_placeEverything 0 = .ok (.aload_n 0, 1) := by decide +kernel
theorem dX0_placeEverything_1 : decode cX0_placeEverything 1 = .ok (.invokevirtual 153, 3) := by decide +kernel
theorem dX0_placeEverything_4 : decode cX0_placeEverything 4 = .ok (.aload_n 0, 1) := by decide +kernel
theorem dX0_placeEverything_5 : decode cX0_placeEverything 5 = .ok (.invokevirtual 157, 3) := by decide +kernel
theorem dX0_placeEverything_8 : decode cX0_placeEverything 8 = .ok (.iconst (-1), 1) := by decide +kernel
theorem dX0_placeEverything_9 : decode cX0_placeEverything 9 = .ok (.ixor, 1) := by decide +kernel
theorem dX0_placeEverything_10 : decode cX0_placeEverything 10 = .ok (.iand, 1) := by decide +kernel
theorem dX0_placeEverything_11 : decode cX0_placeEverything 11 = .ok (.istore_n 1, 1) := by decide +kernel
theorem dX0_placeEverything_12 : decode cX0_placeEverything 12 = .ok (.iconst 0, 1) := by decide +kernel
theorem dX0_placeEverything_13 : decode cX0_placeEverything 13 = .ok (.istore_n 2, 1) := by decide +kernel
theorem dX0_placeEverything_14 : decode cX0_placeEverything 14 = .ok (.iconst 0, 1) := by decide +kernel
theorem dX0_placeEverything_15 : decode cX0_placeEverything 15 = .ok (.istore_n 3, 1) := by decide +kernel
theorem dX0_placeEverything_16 : decode cX0_placeEverything 16 = .ok (.iload_n 3, 1) := by decide +kernel
theorem dX0_placeEverything_17 : decode cX0_placeEverything 17 = .ok (.bipush 20, 2) := by decide +kernel
theorem dX0_placeEverything_19 : decode cX0_placeEverything 19 = .ok (.if_icmp .ge 57, 3) := by decide +kernel
theorem dX0_placeEverything_22 : decode cX0_placeEverything 22 = .ok (.aload_n 0, 1) := by decide +kernel
theorem dX0_placeEverything_23 : decode cX0_placeEverything 23 = .ok (.iload_n 1, 1) := by decide +kernel
theorem dX0_placeEverything_24 : decode cX0_placeEverything 24 = .ok (.invokevirtual 160, 3) := by decide +kernel
theorem dX0_placeEverything_27 : decode cX0_placeEverything 27 = .ok (.istore 4, 2) := by decide +kernel
theorem dX0_placeEverything_29 : decode cX0_placeEverything 29 = .ok (.iload 4, 2) := by decide +kernel
theorem dX0_placeEverything_31 : decode cX0_placeEverything 31 = .ok (.ifCond .ge 5, 3) := by decide +kernel
theorem dX0_placeEverything_34 : decode cX0_placeEverything 34 = .ok (.iload_n 2, 1) := by decide +kernel
theorem dX0_placeEverything_35 : decode cX0_placeEverything 35 = .ok (.ireturn, 1) := by decide +kernel
theorem dX0_placeEverything_36 : decode cX0_placeEverything 36 = .ok (.iload_n 1, 1) := by decide +kernel
theorem dX0_placeEverything_37 : decode cX0_placeEverything 37 = .ok (.iconst 1, 1) := by decide +kernel
theorem dX0_placeEverything_38 : decode cX0_placeEverything 38 = .ok (.iload 4, 2) := by decide +kernel
theorem dX0_placeEverything_40 : decode cX0_placeEverything 40 = .ok (.ishl, 1) := by decide +kernel
theorem dX0_placeEverything_41 : decode cX0_placeEverything 41 = .ok (.iconst (-1), 1) := by decide +kernel
theorem dX0_placeEverything_42 : decode cX0_placeEverything 42 = .ok (.ixor, 1) := by decide +kernel
theorem dX0_placeEverything_43 : decode cX0_placeEverything 43 = .ok (.iand, 1) := by decide +kernel
theorem dX0_placeEverything_44 : decode cX0_placeEverything 44 = .ok (.istore_n 1, 1) := by decide +kernel
theorem dX0_placeEverything_45 : decode cX0_placeEverything 45 = .ok (.aload_n 0, 1) := by decide +kernel
theorem dX0_placeEverything_46 : decode cX0_placeEverything 46 = .ok (.iload 4, 2) := by decide +kernel
theorem dX0_placeEverything_48 : decode cX0_placeEverything 48 = .ok (.invokevirtual 163, 3) := by decide +kernel
theorem dX0_placeEverything_51 : decode cX0_placeEverything 51 = .ok (.istore 5, 2) := by decide +kernel
theorem dX0_placeEverything_53 : decode cX0_placeEverything 53 = .ok (.iload 5, 2) := by decide +kernel
theorem dX0_placeEverything_55 : decode cX0_placeEverything 55 = .ok (.ifCond .lt 15, 3) := by decide +kernel
theorem dX0_placeEverything_58 : decode cX0_placeEverything 58 = .ok (.aload_n 0, 1) := by decide +kernel
theorem dX0_placeEverything_59 : decode cX0_placeEverything 59 = .ok (.getfield 46, 3) := by decide +kernel
theorem dX0_placeEverything_62 : decode cX0_placeEverything 62 = .ok (.iload 4, 2) := by decide +kernel
theorem dX0_placeEverything_64 : decode cX0_placeEverything 64 = .ok (.iload 5, 2) := by decide +kernel
theorem dX0_placeEverything_66 : decode cX0_placeEverything 66 = .ok (.iastore, 1) := by decide +kernel
theorem dX0_placeEverything_67 : decode cX0_placeEverything 67 = .ok (.iinc 2 1, 3) := by decide +kernel
theorem dX0_placeEverything_70 : decode cX0_placeEverything 70 = .ok (.iinc 3 1, 3) := by decide +kernel
theorem dX0_placeEverything_73 : decode cX0_placeEverything 73 = .ok (.goto (-57), 3) := by decide +kernel
theorem dX0_placeEverything_76 : decode cX0_placeEverything 76 = .ok (.iload_n 2, 1) := by decide +kernel
theorem dX0_placeEverything_77 : decode cX0_placeEverything 77 = .ok (.ireturn, 1) := by decide +kernel
theorem dX1_init_0 : decode cX1_init 0 = .ok (.aload_n 0, 1) := by decide +kernel
theorem dX1_init_1 : decode cX1_init 1 = .ok (.invokespecial 3, 3) := by decide +kernel
theorem dX1_init_4 : decode cX1_init 4 = .ok (.aload_n 0, 1) := by decide +kernel
theorem dX1_init_5 : decode cX1_init 5 = .ok (.sipush 160, 3) := by decide +kernel
theorem dX1_init_8 : decode cX1_init 8 = .ok (.newarray .int, 2) := by decide +kernel
theorem dX1_init_10 : decode cX1_init 10 = .ok (.putfield 9, 3) := by decide +kernel
theorem dX1_init_13 : decode cX1_init 13 = .ok (.aload_n 0, 1) := by decide +kernel
theorem dX1_init_14 : decode cX1_init 14 = .ok (.bipush 20, 2) := by decide +kernel
theorem dX1_init_16 : decode cX1_init 16 = .ok (.newarray .int, 2) := by decide +kernel
theorem dX1_init_18 : decode cX1_init 18 = .ok (.putfield 15, 3) := by decide +kernel
theorem dX1_init_21 : decode cX1_init 21 = .ok (.aload_n 0, 1) := by decide +kernel
theorem dX1_init_22 : decode cX1_init 22 = .ok (.bipush 20, 2) := by decide +kernel
theorem dX1_init_24 : decode cX1_init 24 = .ok (.newarray .int, 2) := by decide +kernel
theorem dX1_init_26 : decode cX1_init 26 = .ok (.putfield 18, 3) := by decide +kernel
theorem dX1_init_29 : decode cX1_init 29 = .ok (.aload_n 0, 1) := by decide +kernel
theorem dX1_init_30 : decode cX1_init 30 = .ok (.bipush 20, 2) := by decide +kernel
theorem dX1_init_32 : decode cX1_init 32 = .ok (.newarray .int, 2) := by decide +kernel
theorem dX1_init_34 : decode cX1_init 34 = .ok (.putfield 21, 3) := by decide +kernel
theorem dX1_init_37 : decode cX1_init 37 = .ok (.return_, 1) := by decide +kernel
theorem dX1_lookAt_0 : decode cX1_lookAt 0 = .ok (.aload_n 0, 1) := by decide +kernel
theorem dX1_lookAt_1 : decode cX1_lookAt 1 = .ok (.aload_n 1, 1) := by decide +kernel
theorem dX1_lookAt_2 : decode cX1_lookAt 2 = .ok (.invokevirtual 24, 3) := by decide +kernel
theorem dX1_lookAt_5 : decode cX1_lookAt 5 = .ok (.putfield 30, 3) := by decide +kernel
theorem dX1_lookAt_8 : decode cX1_lookAt 8 = .ok (.aload_n 0, 1) := by decide +kernel
theorem dX1_lookAt_9 : decode cX1_lookAt 9 = .ok (.aload_n 1, 1) := by decide +kernel
theorem dX1_lookAt_10 : decode cX1_lookAt 10 = .ok (.getfield 34, 3) := by decide +kernel
theorem dX1_lookAt_13 : decode cX1_lookAt 13 = .ok (.putfield 37, 3) := by decide +kernel
theorem dX1_lookAt_16 : decode cX1_lookAt 16 = .ok (.aload_n 0, 1) := by decide +kernel
theorem dX1_lookAt_17 : decode cX1_lookAt 17 = .ok (.iconst 0, 1) := by decide +kernel
theorem dX1_lookAt_18 : decode cX1_lookAt 18 = .ok (.putfield 38, 3) := by decide +kernel
theorem dX1_lookAt_21 : decode cX1_lookAt 21 = .ok (.iconst 0, 1) := by decide +kernel
theorem dX1_lookAt_22 : decode cX1_lookAt 22 = .ok (.istore_n 2, 1) := by decide +kernel
theorem dX1_lookAt_23 : decode cX1_lookAt 23 = .ok (.iload_n 2, 1) := by decide +kernel
theorem dX1_lookAt_24 : decode cX1_lookAt 24 = .ok (.bipush 20, 2) := by decide +kernel
theorem dX1_lookAt_26 : decode cX1_lookAt 26 = .ok (.if_icmp .ge 43, 3) := by decide +kernel
theorem dX1_lookAt_29 : decode cX1_lookAt 29 = .ok (.aload_n 1, 1) := by decide +kernel
theorem dX1_lookAt_30 : decode cX1_lookAt 30 = .ok (.iload_n 2, 1) := by decide +kernel
theorem dX1_lookAt_31 : decode cX1_lookAt 31 = .ok (.invokevirtual 41, 3) := by decide +kernel
theorem dX1_lookAt_34 : decode cX1_lookAt 34 = .ok (.ifCond .eq 29, 3) := by decide +kernel
theorem dX1_lookAt_37 : decode cX1_lookAt 37 = .ok (.aload_n 0, 1) := by decide +kernel
theorem dX1_lookAt_38 : decode cX1_lookAt 38 = .ok (.getfield 21, 3) := by decide +kernel
theorem dX1_lookAt_41 : decode cX1_lookAt 41 = .ok (.aload_n 0, 1) := by decide +kernel
theorem dX1_lookAt_42 : decode cX1_lookAt 42 = .ok (.getfield 38, 3) := by decide +kernel
theorem dX1_lookAt_45 : decode cX1_lookAt 45 = .ok (.iload_n 2, 1) := by decide +kernel
theorem dX1_lookAt_46 : decode cX1_lookAt 46 = .ok (.iastore, 1) := by decide +kernel
theorem dX1_lookAt_47 : decode cX1_lookAt 47 = .ok (.aload_n 0, 1) := by decide +kernel
theorem dX1_lookAt_48 : decode cX1_lookAt 48 = .ok (.dup, 1) := by decide +kernel
theorem dX1_lookAt_49 : decode cX1_lookAt 49 = .ok (.getfield 38, 3) := by decide +kernel
theorem dX1_lookAt_52 : decode cX1_lookAt 52 = .ok (.iconst 1, 1) := by decide +kernel
theorem dX1_lookAt_53 : decode cX1_lookAt 53 = .ok (.iadd, 1) := by decide +kernel
theorem dX1_lookAt_54 : decode cX1_lookAt 54 = .ok (.putfield 38, 3) := by decide +kernel
theorem dX1_lookAt_57 : decode cX1_lookAt 57 = .ok (.aload_n 0, 1) := by decide +kernel
theorem dX1_lookAt_58 : decode cX1_lookAt 58 = .ok (.aload_n 1, 1) := by decide +kernel
theorem dX1_lookAt_59 : decode cX1_lookAt 59 = .ok (.iload_n 2, 1) := by decide +kernel
theorem dX1_lookAt_60 : decode cX1_lookAt 60 = .ok (.invokevirtual 45, 3) := by decide +kernel
theorem dX1_lookAt_63 : decode cX1_lookAt 63 = .ok (.iinc 2 1, 3) := by decide +kernel
theorem dX1_lookAt_66 : decode cX1_lookAt 66 = .ok (.goto (-43), 3) := by decide +kernel
theorem dX1_lookAt_69 : decode cX1_lookAt 69 = .ok (.return_, 1) := by decide +kernel
theorem dX1_lookAtStay_0 : decode cX1_lookAtStay 0 = .ok (.aload_n 1, 1) := by decide +kernel
theorem dX1_lookAtStay_1 : decode cX1_lookAtStay 1 = .ok (.getfield 49, 3) := by decide +kernel
theorem dX1_lookAtStay_4 : decode cX1_lookAtStay 4 = .ok (.iload_n 2, 1) := by decide +kernel
theorem dX1_lookAtStay_5 : decode cX1_lookAtStay 5 = .ok (.iaload, 1) := by decide +kernel
theorem dX1_lookAtStay_6 : decode cX1_lookAtStay 6 = .ok (.istore_n 3, 1) := by decide +kernel
theorem dX1_lookAtStay_7 : decode cX1_lookAtStay 7 = .ok (.aload_n 0, 1) := by decide +kernel
theorem dX1_lookAtStay_8 : decode cX1_lookAtStay 8 = .ok (.getfield 18, 3) := by decide +kernel
theorem dX1_lookAtStay_11 : decode cX1_lookAtStay 11 = .ok (.iload_n 2, 1) := by decide +kernel
theorem dX1_lookAtStay_12 : decode cX1_lookAtStay 12 = .ok (.aload_n 1, 1) := by decide +kernel
theorem dX1_lookAtStay_13 : decode cX1_lookAtStay 13 = .ok (.iload_n 2, 1) := by decide +kernel
theorem dX1_lookAtStay_14 : decode cX1_lookAtStay 14 = .ok (.iload_n 3, 1) := by decide +kernel
theorem dX1_lookAtStay_15 : decode cX1_lookAtStay 15 = .ok (.invokevirtual 52, 3) := by decide +kernel
theorem dX1_lookAtStay_18 : decode cX1_lookAtStay 18 = .ok (.iastore, 1) := by decide +kernel
theorem dX1_lookAtStay_19 : decode cX1_lookAtStay 19 = .ok (.aload_n 0, 1) := by decide +kernel
theorem dX1_lookAtStay_20 : decode cX1_lookAtStay 20 = .ok (.getfield 15, 3) := by decide +kernel
theorem dX1_lookAtStay_23 : decode cX1_lookAtStay 23 = .ok (.iload_n 2, 1) := by decide +kernel
theorem dX1_lookAtStay_24 : decode cX1_lookAtStay 24 = .ok (.iconst 0, 1) := by decide +kernel
theorem dX1_lookAtStay_25 : decode cX1_lookAtStay 25 = .ok (.iastore, 1) := by decide +kernel
theorem dX1_lookAtStay_26 : decode cX1_lookAtStay 26 = .ok (.iconst 0, 1) := by decide +kernel
theorem dX1_lookAtStay_27 : decode cX1_lookAtStay 27 = .ok (.istore 4, 2) := by decide +kernel
theorem dX1_lookAtStay_29 : decode cX1_lookAtStay 29 = .ok (.iload 4, 2) := by decide +kernel
theorem dX1_lookAtStay_31 : decode cX1_lookAtStay 31 = .ok (.aload_n 0, 1) := by decide +kernel
theorem dX1_lookAtStay_32 : decode cX1_lookAtStay 32 = .ok (.getfield 37, 3) := by decide +kernel
theorem dX1_lookAtStay_35 : decode cX1_lookAtStay 35 = .ok (.if_icmp .ge 66, 3) := by decide +kernel
theorem dX1_lookAtStay_38 : decode cX1_lookAtStay 38 = .ok (.iload 4, 2) := by decide +kernel
theorem dX1_lookAtStay_40 : decode cX1_lookAtStay 40 = .ok (.iload_n 3, 1) := by decide +kernel
theorem dX1_lookAtStay_41 : decode cX1_lookAtStay 41 = .ok (.if_icmp .eq 54, 3) := by decide +kernel
theorem dX1_lookAtStay_44 : decode cX1_lookAtStay 44 = .ok (.aload_n 1, 1) := by decide +kernel
theorem dX1_lookAtStay_45 : decode cX1_lookAtStay 45 = .ok (.iload 4, 2) := by decide +kernel
theorem dX1_lookAtStay_47 : decode cX1_lookAtStay 47 = .ok (.invokevirtual 56, 3) := by decide +kernel
theorem dX1_lookAtStay_50 : decode cX1_lookAtStay 50 = .ok (.ifCond .eq 45, 3) := by decide +kernel
theorem dX1_lookAtStay_53 : decode cX1_lookAtStay 53 = .ok (.aload_n 1, 1) := by decide +kernel
theorem dX1_lookAtStay_54 : decode cX1_lookAtStay 54 = .ok (.iload 4, 2) := by decide +kernel
theorem dX1_lookAtStay_56 : decode cX1_lookAtStay 56 = .ok (.iload_n 2, 1) := by decide +kernel
theorem dX1_lookAtStay_57 : decode cX1_lookAtStay 57 = .ok (.invokevirtual 59, 3) := by decide +kernel
theorem dX1_lookAtStay_60 : decode cX1_lookAtStay 60 = .ok (.ifCond .eq 35, 3) := by decide +kernel
theorem dX1_lookAtStay_63 : decode cX1_lookAtStay 63 = .ok (.aload_n 0, 1) := by decide +kernel
theorem dX1_lookAtStay_64 : decode cX1_lookAtStay 64 = .ok (.getfield 15, 3) := by decide +kernel
theorem dX1_lookAtStay_67 : decode cX1_lookAtStay 67 = .ok (.iload_n 2, 1) := by decide +kernel
theorem dX1_lookAtStay_68 : decode cX1_lookAtStay 68 = .ok (.dup2, 1) := by decide +kernel
theorem dX1_lookAtStay_69 : decode cX1_lookAtStay 69 = .ok (.iaload, 1) := by decide +kernel
theorem dX1_lookAtStay_70 : decode cX1_lookAtStay 70 = .ok (.iconst 1, 1) := by decide +kernel
theorem dX1_lookAtStay_71 : decode cX1_lookAtStay 71 = .ok (.iload 4, 2) := by decide +kernel
theorem dX1_lookAtStay_73 : decode cX1_lookAtStay 73 = .ok (.ishl, 1) := by decide +kernel
theorem dX1_lookAtStay_74 : decode cX1_lookAtStay 74 = .ok (.ior, 1) := by decide +kernel
theorem dX1_lookAtStay_75 : decode cX1_lookAtStay 75 = .ok (.iastore, 1) := by decide +kernel
theorem dX1_lookAtStay_76 : decode cX1_lookAtStay 76 = .ok (.aload_n 0, 1) := by decide +kernel
theorem dX1_lookAtStay_77 : decode cX1_lookAtStay 77 = .ok (.getfield 9, 3) := by decide +kernel
theorem dX1_lookAtStay_80 : decode cX1_lookAtStay 80 = .ok (.iload_n 2, 1) := by decide +kernel
theorem dX1_lookAtStay_81 : decode cX1_lookAtStay 81 = .ok (.bipush 8, 2) := by decide +kernel
theorem dX1_lookAtStay_83 : decode cX1_lookAtStay 83 = .ok (.imul, 1) := by decide +kernel
theorem dX1_lookAtStay_84 : decode cX1_lookAtStay 84 = .ok (.iload 4, 2) := by decide +kernel
theorem dX1_lookAtStay_86 : decode cX1_lookAtStay 86 = .ok (.iadd, 1) := by decide +kernel
theorem dX1_lookAtStay_87 : decode cX1_lookAtStay 87 = .ok (.aload_n 1, 1) := by decide +kernel
theorem dX1_lookAtStay_88 : decode cX1_lookAtStay 88 = .ok (.iload_n 2, 1) := by decide +kernel
theorem dX1_lookAtStay_89 : decode cX1_lookAtStay 89 = .ok (.iload 4, 2) := by decide +kernel
theorem dX1_lookAtStay_91 : decode cX1_lookAtStay 91 = .ok (.invokevirtual 52, 3) := by decide +kernel
theorem dX1_lookAtStay_94 : decode cX1_lookAtStay 94 = .ok (.iastore, 1) := by decide +kernel
theorem dX1_lookAtStay_95 : decode cX1_lookAtStay 95 = .ok (.iinc 4 1, 3) := by decide +kernel
theorem dX1_lookAtStay_98 : decode cX1_lookAtStay 98 = .ok (.goto (-69), 3) := by decide +kernel
theorem dX1_lookAtStay_101 : decode cX1_lookAtStay 101 = .ok (.return_, 1) := by decide +kernel
theorem dX1_isRestSound_0 : decode cX1_isRestSound 0 = .ok (.aload_n 0, 1) := by decide +kernel
theorem dX1_isRestSound_1 : decode cX1_isRestSound 1 = .ok (.getfield 30, 3) := by decide +kernel
theorem dX1_isRestSound_4 : decode cX1_isRestSound 4 = .ok (.iload_n 1, 1) := by decide +kernel
theorem dX1_isRestSound_5 : decode cX1_isRestSound 5 = .ok (.iconst (-1), 1) := by decide +kernel
theorem dX1_isRestSound_6 : decode cX1_isRestSound 6 = .ok (.ixor, 1) := by decide +kernel
theorem dX1_isRestSound_7 : decode cX1_isRestSound 7 = .ok (.iand, 1) := by decide +kernel
theorem dX1_isRestSound_8 : decode cX1_isRestSound 8 = .ok (.ifCond .eq 5, 3) := by decide +kernel
theorem dX1_isRestSound_11 : decode cX1_isRestSound 11 = .ok (.iconst 0, 1) := by decide +kernel
theorem dX1_isRestSound_12 : decode cX1_isRestSound 12 = .ok (.ireturn, 1) := by decide +kernel
theorem dX1_isRestSound_13 : decode cX1_isRestSound 13 = .ok (.iconst 0, 1) := by decide +kernel
theorem dX1_isRestSound_14 : decode cX1_isRestSound 14 = .ok (.istore_n 2, 1) := by decide +kernel
theorem dX1_isRestSound_15 : decode cX1_isRestSound 15 = .ok (.iload_n 2, 1) := by decide +kernel
theorem dX1_isRestSound_16 : decode cX1_isRestSound 16 = .ok (.aload_n 0, 1) := by decide +kernel
theorem dX1_isRestSound_17 : decode cX1_isRestSound 17 = .ok (.getfield 38, 3) := by decide +kernel
theorem dX1_isRestSound_20 : decode cX1_isRestSound 20 = .ok (.if_icmp .ge 39, 3) := by decide +kernel
theorem dX1_isRestSound_23 : decode cX1_isRestSound 23 = .ok (.aload_n 0, 1) := by decide +kernel
theorem dX1_isRestSound_24 : decode cX1_isRestSound 24 = .ok (.getfield 21, 3) := by decide +kernel
theorem dX1_isRestSound_27 : decode cX1_isRestSound 27 = .ok (.iload_n 2, 1) := by decide +kernel
theorem dX1_isRestSound_28 : decode cX1_isRestSound 28 = .ok (.iaload, 1) := by decide +kernel
theorem dX1_isRestSound_29 : decode cX1_isRestSound 29 = .ok (.istore_n 3, 1) := by decide +kernel
theorem dX1_isRestSound_30 : decode cX1_isRestSound 30 = .ok (.iload_n 1, 1) := by decide +kernel
theorem dX1_isRestSound_31 : decode cX1_isRestSound 31 = .ok (.iload_n 3, 1) := by decide +kernel
theorem dX1_isRestSound_32 : decode cX1_isRestSound 32 = .ok (.ishr, 1) := by decide +kernel
theorem dX1_isRestSound_33 : decode cX1_isRestSound 33 = .ok (.iconst 1, 1) := by decide +kernel
theorem dX1_isRestSound_34 : decode cX1_isRestSound 34 = .ok (.iand, 1) := by decide +kernel
theorem dX1_isRestSound_35 : decode cX1_isRestSound 35 = .ok (.ifCond .ne 18, 3) := by decide +kernel
theorem dX1_isRestSound_38 : decode cX1_isRestSound 38 = .ok (.aload_n 0, 1) := by decide +kernel
theorem dX1_isRestSound_39 : decode cX1_isRestSound 39 = .ok (.getfield 18, 3) := by decide +kernel
theorem dX1_isRestSound_42 : decode cX1_isRestSound 42 = .ok (.iload_n 3, 1) := by decide +kernel
theorem dX1_isRestSound_43 : decode cX1_isRestSound 43 = .ok (.iaload, 1) := by decide +kernel
theorem dX1_isRestSound_44 : decode cX1_isRestSound 44 = .ok (.iload_n 1, 1) := by decide +kernel
theorem dX1_isRestSound_45 : decode cX1_isRestSound 45 = .ok (.iconst (-1), 1) := by decide +kernel
theorem dX1_isRestSound_46 : decode cX1_isRestSound 46 = .ok (.ixor, 1) := by decide +kernel
theorem dX1_isRestSound_47 : decode cX1_isRestSound 47 = .ok (.iand, 1) := by decide +kernel
theorem dX1_isRestSound_48 : decode cX1_isRestSound 48 = .ok (.ifCond .eq 5, 3) := by decide +kernel
theorem dX1_isRestSound_51 : decode cX1_isRestSound 51 = .ok (.iconst 0, 1) := by decide +kernel
theorem dX1_isRestSound_52 : decode cX1_isRestSound 52 = .ok (.ireturn, 1) := by decide +kernel
theorem dX1_isRestSound_53 : decode cX1_isRestSound 53 = .ok (.iinc 2 1, 3) := by decide +kernel
theorem dX1_isRestSound_56 : decode cX1_isRestSound 56 = .ok (.goto (-41), 3) := by decide +kernel
theorem dX1_isRestSound_59 : decode cX1_isRestSound 59 = .ok (.iconst 1, 1) := by decide +kernel
theorem dX1_isRestSound_60 : decode cX1_isRestSound 60 = .ok (.ireturn, 1) := by decide +kernel
theorem dX1_freeFor_0 : decode cX1_freeFor 0 = .ok (.iconst 0, 1) := by decide +kernel
theorem dX1_freeFor_1 : decode cX1_freeFor 1 = .ok (.istore_n 3, 1) := by decide +kernel
theorem dX1_freeFor_2 : decode cX1_freeFor 2 = .ok (.iconst 0, 1) := by decide +kernel
theorem dX1_freeFor_3 : decode cX1_freeFor 3 = .ok (.istore 4, 2) := by decide +kernel
theorem dX1_freeFor_5 : decode cX1_freeFor 5 = .ok (.iload 4, 2) := by decide +kernel
theorem dX1_freeFor_7 : decode cX1_freeFor 7 = .ok (.aload_n 0, 1) := by decide +kernel
theorem dX1_freeFor_8 : decode cX1_freeFor 8 = .ok (.getfield 37, 3) := by decide +kernel
theorem dX1_freeFor_11 : decode cX1_freeFor 11 = .ok (.if_icmp .ge 49, 3) := by decide +kernel
theorem dX1_freeFor_14 : decode cX1_freeFor 14 = .ok (.aload_n 0, 1) := by decide +kernel
theorem dX1_freeFor_15 : decode cX1_freeFor 15 = .ok (.getfield 15, 3) := by decide +kernel
theorem dX1_freeFor_18 : decode cX1_freeFor 18 = .ok (.iload_n 1, 1) := by decide +kernel
theorem dX1_freeFor_19 : decode cX1_freeFor 19 = .ok (.iaload, 1) := by decide +kernel
theorem dX1_freeFor_20 : decode cX1_freeFor 20 = .ok (.iload 4, 2) := by decide +kernel
theorem dX1_freeFor_22 : decode cX1_freeFor 22 = .ok (.ishr, 1) := by decide +kernel
theorem dX1_freeFor_23 : decode cX1_freeFor 23 = .ok (.iconst 1, 1) := by decide +kernel
theorem dX1_freeFor_24 : decode cX1_freeFor 24 = .ok (.iand, 1) := by decide +kernel
theorem dX1_freeFor_25 : decode cX1_freeFor 25 = .ok (.ifCond .eq 29, 3) := by decide +kernel
theorem dX1_freeFor_28 : decode cX1_freeFor 28 = .ok (.aload_n 0, 1) := by decide +kernel
theorem dX1_freeFor_29 : decode cX1_freeFor 29 = .ok (.getfield 9, 3) := by decide +kernel
theorem dX1_freeFor_32 : decode cX1_freeFor 32 = .ok (.iload_n 1, 1) := by decide +kernel
theorem dX1_freeFor_33 : decode cX1_freeFor 33 = .ok (.bipush 8, 2) := by decide +kernel
theorem dX1_freeFor_35 : decode cX1_freeFor 35 = .ok (.imul, 1) := by decide +kernel
theorem dX1_freeFor_36 : decode cX1_freeFor 36 = .ok (.iload 4, 2) := by decide +kernel
theorem dX1_freeFor_38 : decode cX1_freeFor 38 = .ok (.iadd, 1) := by decide +kernel
theorem dX1_freeFor_39 : decode cX1_freeFor 39 = .ok (.iaload, 1) := by decide +kernel
theorem dX1_freeFor_40 : decode cX1_freeFor 40 = .ok (.iload_n 2, 1) := by decide +kernel
theorem dX1_freeFor_41 : decode cX1_freeFor 41 = .ok (.iconst (-1), 1) := by decide +kernel
theorem dX1_freeFor_42 : decode cX1_freeFor 42 = .ok (.ixor, 1) := by decide +kernel
theorem dX1_freeFor_43 : decode cX1_freeFor 43 = .ok (.iand, 1) := by decide +kernel
theorem dX1_freeFor_44 : decode cX1_freeFor 44 = .ok (.ifCond .ne 10, 3) := by decide +kernel
theorem dX1_freeFor_47 : decode cX1_freeFor 47 = .ok (.iload_n 3, 1) := by decide +kernel
theorem dX1_freeFor_48 : decode cX1_freeFor 48 = .ok (.iconst 1, 1) := by decide +kernel
theorem dX1_freeFor_49 : decode cX1_freeFor 49 = .ok (.iload 4, 2) := by decide +kernel
theorem dX1_freeFor_51 : decode cX1_freeFor 51 = .ok (.ishl, 1) := by decide +kernel
theorem dX1_freeFor_52 : decode cX1_freeFor 52 = .ok (.ior, 1) := by decide +kernel
theorem dX1_freeFor_53 : decode cX1_freeFor 53 = .ok (.istore_n 3, 1) := by decide +kernel
theorem dX1_freeFor_54 : decode cX1_freeFor 54 = .ok (.iinc 4 1, 3) := by decide +kernel
theorem dX1_freeFor_57 : decode cX1_freeFor 57 = .ok (.goto (-52), 3) := by decide +kernel
theorem dX1_freeFor_60 : decode cX1_freeFor 60 = .ok (.iload_n 3, 1) := by decide +kernel
theorem dX1_freeFor_61 : decode cX1_freeFor 61 = .ok (.ireturn, 1) := by decide +kernel
theorem dX2_init_0 : decode cX2_init 0 = .ok (.aload_n 0, 1) := by decide +kernel
theorem dX2_init_1 : decode cX2_init 1 = .ok (.invokespecial 3, 3) := by decide +kernel
theorem dX2_init_4 : decode cX2_init 4 = .ok (.aload_n 0, 1) := by decide +kernel
theorem dX2_init_5 : decode cX2_init 5 = .ok (.new 9, 3) := by decide +kernel
theorem dX2_init_8 : decode cX2_init 8 = .ok (.dup, 1) := by decide +kernel
theorem dX2_init_9 : decode cX2_init 9 = .ok (.invokespecial 11, 3) := by decide +kernel
theorem dX2_init_12 : decode cX2_init 12 = .ok (.putfield 12, 3) := by decide +kernel
theorem dX2_init_15 : decode cX2_init 15 = .ok (.aload_n 0, 1) := by decide +kernel
theorem dX2_init_16 : decode cX2_init 16 = .ok (.iconst 3, 1) := by decide +kernel
theorem dX2_init_17 : decode cX2_init 17 = .ok (.newarray .int, 2) := by decide +kernel
theorem dX2_init_19 : decode cX2_init 19 = .ok (.putfield 18, 3) := by decide +kernel
theorem dX2_init_22 : decode cX2_init 22 = .ok (.aload_n 0, 1) := by decide +kernel
theorem dX2_init_23 : decode cX2_init 23 = .ok (.iconst 3, 1) := by decide +kernel
theorem dX2_init_24 : decode cX2_init 24 = .ok (.newarray .int, 2) := by decide +kernel
theorem dX2_init_26 : decode cX2_init 26 = .ok (.putfield 22, 3) := by decide +kernel
theorem dX2_init_29 : decode cX2_init 29 = .ok (.return_, 1) := by decide +kernel
theorem dX2_least_0 : decode cX2_least 0 = .ok (.aload_n 0, 1) := by decide +kernel
theorem dX2_least_1 : decode cX2_least 1 = .ok (.getfield 12, 3) := by decide +kernel
theorem dX2_least_4 : decode cX2_least 4 = .ok (.aload_n 1, 1) := by decide +kernel
theorem dX2_least_5 : decode cX2_least 5 = .ok (.invokevirtual 25, 3) := by decide +kernel
theorem dX2_least_8 : decode cX2_least 8 = .ok (.aload_n 0, 1) := by decide +kernel
theorem dX2_least_9 : decode cX2_least 9 = .ok (.iconst 4, 1) := by decide +kernel
theorem dX2_least_10 : decode cX2_least 10 = .ok (.putfield 29, 3) := by decide +kernel
theorem dX2_least_13 : decode cX2_least 13 = .ok (.aload_n 0, 1) := by decide +kernel
theorem dX2_least_14 : decode cX2_least 14 = .ok (.aload_n 1, 1) := by decide +kernel
theorem dX2_least_15 : decode cX2_least 15 = .ok (.iconst 0, 1) := by decide +kernel
theorem dX2_least_16 : decode cX2_least 16 = .ok (.invokevirtual 33, 3) := by decide +kernel
theorem dX2_least_19 : decode cX2_least 19 = .ok (.iconst 0, 1) := by decide +kernel
theorem dX2_least_20 : decode cX2_least 20 = .ok (.istore_n 2, 1) := by decide +kernel
theorem dX2_least_21 : decode cX2_least 21 = .ok (.iload_n 2, 1) := by decide +kernel
theorem dX2_least_22 : decode cX2_least 22 = .ok (.aload_n 0, 1) := by decide +kernel
theorem dX2_least_23 : decode cX2_least 23 = .ok (.getfield 12, 3) := by decide +kernel
theorem dX2_least_26 : decode cX2_least 26 = .ok (.getfield 37, 3) := by decide +kernel
theorem dX2_least_29 : decode cX2_least 29 = .ok (.if_icmp .ge 117, 3) := by decide +kernel
theorem dX2_least_32 : decode cX2_least 32 = .ok (.aload_n 0, 1) := by decide +kernel
theorem dX2_least_33 : decode cX2_least 33 = .ok (.getfield 18, 3) := by decide +kernel
theorem dX2_least_36 : decode cX2_least 36 = .ok (.iconst 0, 1) := by decide +kernel
theorem dX2_least_37 : decode cX2_least 37 = .ok (.aload_n 0, 1) := by decide +kernel
theorem dX2_least_38 : decode cX2_least 38 = .ok (.getfield 12, 3) := by decide +kernel
theorem dX2_least_41 : decode cX2_least 41 = .ok (.getfield 40, 3) := by decide +kernel
theorem dX2_least_44 : decode cX2_least 44 = .ok (.iload_n 2, 1) := by decide +kernel
theorem dX2_least_45 : decode cX2_least 45 = .ok (.iaload, 1) := by decide +kernel
theorem dX2_least_46 : decode cX2_least 46 = .ok (.iastore, 1) := by decide +kernel
theorem dX2_least_47 : decode cX2_least 47 = .ok (.aload_n 0, 1) := by decide +kernel
theorem dX2_least_48 : decode cX2_least 48 = .ok (.aload_n 1, 1) := by decide +kernel
theorem dX2_least_49 : decode cX2_least 49 = .ok (.iconst 1, 1) := by decide +kernel
theorem dX2_least_50 : decode cX2_least 50 = .ok (.invokevirtual 33, 3) := by decide +kernel
theorem dX2_least_53 : decode cX2_least 53 = .ok (.iload_n 2, 1) := by decide +kernel
theorem dX2_least_54 : decode cX2_least 54 = .ok (.iconst 1, 1) := by decide +kernel
theorem dX2_least_55 : decode cX2_least 55 = .ok (.iadd, 1) := by decide +kernel
theorem dX2_least_56 : decode cX2_least 56 = .ok (.istore_n 3, 1) := by decide +kernel
theorem dX2_least_57 : decode cX2_least 57 = .ok (.iload_n 3, 1) := by decide +kernel
theorem dX2_least_58 : decode cX2_least 58 = .ok (.aload_n 0, 1) := by decide +kernel
theorem dX2_least_59 : decode cX2_least 59 = .ok (.getfield 12, 3) := by decide +kernel
theorem dX2_least_62 : decode cX2_least 62 = .ok (.getfield 37, 3) := by decide +kernel
theorem dX2_least_65 : decode cX2_least 65 = .ok (.if_icmp .ge 75, 3) := by decide +kernel
theorem dX2_least_68 : decode cX2_least 68 = .ok (.aload_n 0, 1) := by decide +kernel
theorem dX2_least_69 : decode cX2_least 69 = .ok (.getfield 18, 3) := by decide +kernel
theorem dX2_least_72 : decode cX2_least 72 = .ok (.iconst 1, 1) := by decide +kernel
theorem dX2_least_73 : decode cX2_least 73 = .ok (.aload_n 0, 1) := by decide +kernel
theorem dX2_least_74 : decode cX2_least 74 = .ok (.getfield 12, 3) := by decide +kernel
theorem dX2_least_77 : decode cX2_least 77 = .ok (.getfield 40, 3) := by decide +kernel
theorem dX2_least_80 : decode cX2_least 80 = .ok (.iload_n 3, 1) := by decide +kernel
theorem dX2_least_81 : decode cX2_least 81 = .ok (.iaload, 1) := by decide +kernel
theorem dX2_least_82 : decode cX2_least 82 = .ok (.iastore, 1) := by decide +kernel
theorem dX2_least_83 : decode cX2_least 83 = .ok (.aload_n 0, 1) := by decide +kernel
theorem dX2_least_84 : decode cX2_least 84 = .ok (.aload_n 1, 1) := by decide +kernel
theorem dX2_least_85 : decode cX2_least 85 = .ok (.iconst 2, 1) := by decide +kernel
theorem dX2_least_86 : decode cX2_least 86 = .ok (.invokevirtual 33, 3) := by decide +kernel
theorem dX2_least_89 : decode cX2_least 89 = .ok (.iload_n 3, 1) := by decide +kernel
theorem dX2_least_90 : decode cX2_least 90 = .ok (.iconst 1, 1) := by decide +kernel
theorem dX2_least_91 : decode cX2_least 91 = .ok (.iadd, 1) := by decide +kernel
theorem dX2_least_92 : decode cX2_least 92 = .ok (.istore 4, 2) := by decide +kernel
theorem dX2_least_94 : decode cX2_least 94 = .ok (.iload 4, 2) := by decide +kernel
theorem dX2_least_96 : decode cX2_least 96 = .ok (.aload_n 0, 1) := by decide +kernel
theorem dX2_least_97 : decode cX2_least 97 = .ok (.getfield 12, 3) := by decide +kernel
theorem dX2_least_100 : decode cX2_least 100 = .ok (.getfield 37, 3) := by decide +kernel
theorem dX2_least_103 : decode cX2_least 103 = .ok (.if_icmp .ge 31, 3) := by decide +kernel
theorem dX2_least_106 : decode cX2_least 106 = .ok (.aload_n 0, 1) := by decide +kernel
theorem dX2_least_107 : decode cX2_least 107 = .ok (.getfield 18, 3) := by decide +kernel
theorem dX2_least_110 : decode cX2_least 110 = .ok (.iconst 2, 1) := by decide +kernel
theorem dX2_least_111 : decode cX2_least 111 = .ok (.aload_n 0, 1) := by decide +kernel
theorem dX2_least_112 : decode cX2_least 112 = .ok (.getfield 12, 3) := by decide +kernel
theorem dX2_least_115 : decode cX2_least 115 = .ok (.getfield 40, 3) := by decide +kernel
theorem dX2_least_118 : decode cX2_least 118 = .ok (.iload 4, 2) := by decide +kernel
theorem dX2_least_120 : decode cX2_least 120 = .ok (.iaload, 1) := by decide +kernel
theorem dX2_least_121 : decode cX2_least 121 = .ok (.iastore, 1) := by decide +kernel
theorem dX2_least_122 : decode cX2_least 122 = .ok (.aload_n 0, 1) := by decide +kernel
theorem dX2_least_123 : decode cX2_least 123 = .ok (.aload_n 1, 1) := by decide +kernel
theorem dX2_least_124 : decode cX2_least 124 = .ok (.iconst 3, 1) := by decide +kernel
theorem dX2_least_125 : decode cX2_least 125 = .ok (.invokevirtual 33, 3) := by decide +kernel
theorem dX2_least_128 : decode cX2_least 128 = .ok (.iinc 4 1, 3) := by decide +kernel
theorem dX2_least_131 : decode cX2_least 131 = .ok (.goto (-37), 3) := by decide +kernel
theorem dX2_least_134 : decode cX2_least 134 = .ok (.iinc 3 1, 3) := by decide +kernel
theorem dX2_least_137 : decode cX2_least 137 = .ok (.goto (-80), 3) := by decide +kernel
theorem dX2_least_140 : decode cX2_least 140 = .ok (.iinc 2 1, 3) := by decide +kernel
theorem dX2_least_143 : decode cX2_least 143 = .ok (.goto (-122), 3) := by decide +kernel
theorem dX2_least_146 : decode cX2_least 146 = .ok (.aload_n 0, 1) := by decide +kernel
theorem dX2_least_147 : decode cX2_least 147 = .ok (.getfield 29, 3) := by decide +kernel
theorem dX2_least_150 : decode cX2_least 150 = .ok (.ireturn, 1) := by decide +kernel
theorem dX2_trySet_0 : decode cX2_trySet 0 = .ok (.iload_n 2, 1) := by decide +kernel
theorem dX2_trySet_1 : decode cX2_trySet 1 = .ok (.aload_n 0, 1) := by decide +kernel
theorem dX2_trySet_2 : decode cX2_trySet 2 = .ok (.getfield 29, 3) := by decide +kernel
theorem dX2_trySet_5 : decode cX2_trySet 5 = .ok (.if_icmp .lt 4, 3) := by decide +kernel
theorem dX2_trySet_8 : decode cX2_trySet 8 = .ok (.return_, 1) := by decide +kernel
theorem dX2_trySet_9 : decode cX2_trySet 9 = .ok (.iconst 0, 1) := by decide +kernel
theorem dX2_trySet_10 : decode cX2_trySet 10 = .ok (.istore_n 3, 1) := by decide +kernel
theorem dX2_trySet_11 : decode cX2_trySet 11 = .ok (.iconst 0, 1) := by decide +kernel
theorem dX2_trySet_12 : decode cX2_trySet 12 = .ok (.istore 4, 2) := by decide +kernel
theorem dX2_trySet_14 : decode cX2_trySet 14 = .ok (.iload 4, 2) := by decide +kernel
theorem dX2_trySet_16 : decode cX2_trySet 16 = .ok (.iload_n 2, 1) := by decide +kernel
theorem dX2_trySet_17 : decode cX2_trySet 17 = .ok (.if_icmp .ge 21, 3) := by decide +kernel
theorem dX2_trySet_20 : decode cX2_trySet 20 = .ok (.iload_n 3, 1) := by decide +kernel
theorem dX2_trySet_21 : decode cX2_trySet 21 = .ok (.iconst 1, 1) := by decide +kernel
theorem dX2_trySet_22 : decode cX2_trySet 22 = .ok (.aload_n 0, 1) := by decide +kernel
theorem dX2_trySet_23 : decode cX2_trySet 23 = .ok (.getfield 18, 3) := by decide +kernel
theorem dX2_trySet_26 : decode cX2_trySet 26 = .ok (.iload 4, 2) := by decide +kernel
theorem dX2_trySet_28 : decode cX2_trySet 28 = .ok (.iaload, 1) := by decide +kernel
theorem dX2_trySet_29 : decode cX2_trySet 29 = .ok (.ishl, 1) := by decide +kernel
theorem dX2_trySet_30 : decode cX2_trySet 30 = .ok (.ior, 1) := by decide +kernel
theorem dX2_trySet_31 : decode cX2_trySet 31 = .ok (.istore_n 3, 1) := by decide +kernel
theorem dX2_trySet_32 : decode cX2_trySet 32 = .ok (.iinc 4 1, 3) := by decide +kernel
theorem dX2_trySet_35 : decode cX2_trySet 35 = .ok (.goto (-21), 3) := by decide +kernel
theorem dX2_trySet_38 : decode cX2_trySet 38 = .ok (.aload_n 0, 1) := by decide +kernel
theorem dX2_trySet_39 : decode cX2_trySet 39 = .ok (.getfield 12, 3) := by decide +kernel
theorem dX2_trySet_42 : decode cX2_trySet 42 = .ok (.iload_n 3, 1) := by decide +kernel
theorem dX2_trySet_43 : decode cX2_trySet 43 = .ok (.invokevirtual 43, 3) := by decide +kernel
theorem dX2_trySet_46 : decode cX2_trySet 46 = .ok (.ifCond .ne 4, 3) := by decide +kernel
theorem dX2_trySet_49 : decode cX2_trySet 49 = .ok (.return_, 1) := by decide +kernel
theorem dX2_trySet_50 : decode cX2_trySet 50 = .ok (.iconst 0, 1) := by decide +kernel
theorem dX2_trySet_51 : decode cX2_trySet 51 = .ok (.istore 4, 2) := by decide +kernel
theorem dX2_trySet_53 : decode cX2_trySet 53 = .ok (.iload 4, 2) := by decide +kernel
theorem dX2_trySet_55 : decode cX2_trySet 55 = .ok (.iload_n 2, 1) := by decide +kernel
theorem dX2_trySet_56 : decode cX2_trySet 56 = .ok (.if_icmp .ge 42, 3) := by decide +kernel
theorem dX2_trySet_59 : decode cX2_trySet 59 = .ok (.aload_n 0, 1) := by decide +kernel
theorem dX2_trySet_60 : decode cX2_trySet 60 = .ok (.getfield 22, 3) := by decide +kernel
theorem dX2_trySet_63 : decode cX2_trySet 63 = .ok (.iload 4, 2) := by decide +kernel
theorem dX2_trySet_65 : decode cX2_trySet 65 = .ok (.aload_n 0, 1) := by decide +kernel
theorem dX2_trySet_66 : decode cX2_trySet 66 = .ok (.getfield 12, 3) := by decide +kernel
theorem dX2_trySet_69 : decode cX2_trySet 69 = .ok (.aload_n 0, 1) := by decide +kernel
theorem dX2_trySet_70 : decode cX2_trySet 70 = .ok (.getfield 18, 3) := by decide +kernel
theorem dX2_trySet_73 : decode cX2_trySet 73 = .ok (.iload 4, 2) := by decide +kernel
theorem dX2_trySet_75 : decode cX2_trySet 75 = .ok (.iaload, 1) := by decide +kernel
theorem dX2_trySet_76 : decode cX2_trySet 76 = .ok (.iload_n 3, 1) := by decide +kernel
theorem dX2_trySet_77 : decode cX2_trySet 77 = .ok (.invokevirtual 47, 3) := by decide +kernel
theorem dX2_trySet_80 : decode cX2_trySet 80 = .ok (.iastore, 1) := by decide +kernel
theorem dX2_trySet_81 : decode cX2_trySet 81 = .ok (.aload_n 0, 1) := by decide +kernel
theorem dX2_trySet_82 : decode cX2_trySet 82 = .ok (.getfield 22, 3) := by decide +kernel
theorem dX2_trySet_85 : decode cX2_trySet 85 = .ok (.iload 4, 2) := by decide +kernel
theorem dX2_trySet_87 : decode cX2_trySet 87 = .ok (.iaload, 1) := by decide +kernel
theorem dX2_trySet_88 : decode cX2_trySet 88 = .ok (.ifCond .ne 4, 3) := by decide +kernel
theorem dX2_trySet_91 : decode cX2_trySet 91 = .ok (.return_, 1) := by decide +kernel
theorem dX2_trySet_92 : decode cX2_trySet 92 = .ok (.iinc 4 1, 3) := by decide +kernel
theorem dX2_trySet_95 : decode cX2_trySet 95 = .ok (.goto (-42), 3) := by decide +kernel
theorem dX2_trySet_98 : decode cX2_trySet 98 = .ok (.iconst 1, 1) := by decide +kernel
theorem dX2_trySet_99 : decode cX2_trySet 99 = .ok (.iconst 3, 1) := by decide +kernel
theorem dX2_trySet_100 : decode cX2_trySet 100 = .ok (.iload_n 2, 1) := by decide +kernel
theorem dX2_trySet_101 : decode cX2_trySet 101 = .ok (.imul, 1) := by decide +kernel
theorem dX2_trySet_102 : decode cX2_trySet 102 = .ok (.ishl, 1) := by decide +kernel
theorem dX2_trySet_103 : decode cX2_trySet 103 = .ok (.istore 4, 2) := by decide +kernel
theorem dX2_trySet_105 : decode cX2_trySet 105 = .ok (.iconst 0, 1) := by decide +kernel
theorem dX2_trySet_106 : decode cX2_trySet 106 = .ok (.istore 5, 2) := by decide +kernel
theorem dX2_trySet_108 : decode cX2_trySet 108 = .ok (.iload 5, 2) := by decide +kernel
theorem dX2_trySet_110 : decode cX2_trySet 110 = .ok (.iload 4, 2) := by decide +kernel
theorem dX2_trySet_112 : decode cX2_trySet 112 = .ok (.if_icmp .ge 26, 3) := by decide +kernel
theorem dX2_trySet_115 : decode cX2_trySet 115 = .ok (.aload_n 0, 1) := by decide +kernel
theorem dX2_trySet_116 : decode cX2_trySet 116 = .ok (.aload_n 1, 1) := by decide +kernel
theorem dX2_trySet_117 : decode cX2_trySet 117 = .ok (.iload 5, 2) := by decide +kernel
theorem dX2_trySet_119 : decode cX2_trySet 119 = .ok (.iload_n 2, 1) := by decide +kernel
theorem dX2_trySet_120 : decode cX2_trySet 120 = .ok (.invokevirtual 51, 3) := by decide +kernel
theorem dX2_trySet_123 : decode cX2_trySet 123 = .ok (.ifCond .eq 9, 3) := by decide +kernel
theorem dX2_trySet_126 : decode cX2_trySet 126 = .ok (.aload_n 0, 1) := by decide +kernel
theorem dX2_trySet_127 : decode cX2_trySet 127 = .ok (.iload_n 2, 1) := by decide +kernel
theorem dX2_trySet_128 : decode cX2_trySet 128 = .ok (.putfield 29, 3) := by decide +kernel
theorem dX2_trySet_131 : decode cX2_trySet 131 = .ok (.return_, 1) := by decide +kernel
theorem dX2_trySet_132 : decode cX2_trySet 132 = .ok (.iinc 5 1, 3) := by decide +kernel
theorem dX2_trySet_135 : decode cX2_trySet 135 = .ok (.goto (-27), 3) := by decide +kernel
theorem dX2_trySet_138 : decode cX2_trySet 138 = .ok (.return_, 1) := by decide +kernel
theorem dX2_isRowSound_0 : decode cX2_isRowSound 0 = .ok (.iconst 0, 1) := by decide +kernel
theorem dX2_isRowSound_1 : decode cX2_isRowSound 1 = .ok (.istore 4, 2) := by decide +kernel
theorem dX2_isRowSound_3 : decode cX2_isRowSound 3 = .ok (.iload 4, 2) := by decide +kernel
theorem dX2_isRowSound_5 : decode cX2_isRowSound 5 = .ok (.iload_n 3, 1) := by decide +kernel
theorem dX2_isRowSound_6 : decode cX2_isRowSound 6 = .ok (.if_icmp .ge 81, 3) := by decide +kernel
theorem dX2_isRowSound_9 : decode cX2_isRowSound 9 = .ok (.iload_n 2, 1) := by decide +kernel
theorem dX2_isRowSound_10 : decode cX2_isRowSound 10 = .ok (.iload 4, 2) := by decide +kernel
theorem dX2_isRowSound_12 : decode cX2_isRowSound 12 = .ok (.invokestatic 55, 3) := by decide +kernel
theorem dX2_isRowSound_15 : decode cX2_isRowSound 15 = .ok (.istore 5, 2) := by decide +kernel
theorem dX2_isRowSound_17 : decode cX2_isRowSound 17 = .ok (.aload_n 0, 1) := by decide +kernel
theorem dX2_isRowSound_18 : decode cX2_isRowSound 18 = .ok (.getfield 22, 3) := by decide +kernel
theorem dX2_isRowSound_21 : decode cX2_isRowSound 21 = .ok (.iload 4, 2) := by decide +kernel
theorem dX2_isRowSound_23 : decode cX2_isRowSound 23 = .ok (.iaload, 1) := by decide +kernel
theorem dX2_isRowSound_24 : decode cX2_isRowSound 24 = .ok (.iload 5, 2) := by decide +kernel
theorem dX2_isRowSound_26 : decode cX2_isRowSound 26 = .ok (.ishr, 1) := by decide +kernel
theorem dX2_isRowSound_27 : decode cX2_isRowSound 27 = .ok (.iconst 1, 1) := by decide +kernel
theorem dX2_isRowSound_28 : decode cX2_isRowSound 28 = .ok (.iand, 1) := by decide +kernel
theorem dX2_isRowSound_29 : decode cX2_isRowSound 29 = .ok (.ifCond .ne 5, 3) := by decide +kernel
theorem dX2_isRowSound_32 : decode cX2_isRowSound 32 = .ok (.iconst 0, 1) := by decide +kernel
theorem dX2_isRowSound_33 : decode cX2_isRowSound 33 = .ok (.ireturn, 1) := by decide +kernel
theorem dX2_isRowSound_34 : decode cX2_isRowSound 34 = .ok (.iconst 0, 1) := by decide +kernel
theorem dX2_isRowSound_35 : decode cX2_isRowSound 35 = .ok (.istore 6, 2) := by decide +kernel
theorem dX2_isRowSound_37 : decode cX2_isRowSound 37 = .ok (.iload 6, 2) := by decide +kernel
theorem dX2_isRowSound_39 : decode cX2_isRowSound 39 = .ok (.iload 4, 2) := by decide +kernel
theorem dX2_isRowSound_41 : decode cX2_isRowSound 41 = .ok (.if_icmp .ge 40, 3) := by decide +kernel
theorem dX2_isRowSound_44 : decode cX2_isRowSound 44 = .ok (.aload_n 1, 1) := by decide +kernel
theorem dX2_isRowSound_45 : decode cX2_isRowSound 45 = .ok (.aload_n 0, 1) := by decide +kernel
theorem dX2_isRowSound_46 : decode cX2_isRowSound 46 = .ok (.getfield 18, 3) := by decide +kernel
theorem dX2_isRowSound_49 : decode cX2_isRowSound 49 = .ok (.iload 4, 2) := by decide +kernel
theorem dX2_isRowSound_51 : decode cX2_isRowSound 51 = .ok (.iaload, 1) := by decide +kernel
theorem dX2_isRowSound_52 : decode cX2_isRowSound 52 = .ok (.iload 5, 2) := by decide +kernel
theorem dX2_isRowSound_54 : decode cX2_isRowSound 54 = .ok (.aload_n 0, 1) := by decide +kernel
theorem dX2_isRowSound_55 : decode cX2_isRowSound 55 = .ok (.getfield 18, 3) := by decide +kernel
theorem dX2_isRowSound_58 : decode cX2_isRowSound 58 = .ok (.iload 6, 2) := by decide +kernel
theorem dX2_isRowSound_60 : decode cX2_isRowSound 60 = .ok (.iaload, 1) := by decide +kernel
theorem dX2_isRowSound_61 : decode cX2_isRowSound 61 = .ok (.iload_n 2, 1) := by decide +kernel
theorem dX2_isRowSound_62 : decode cX2_isRowSound 62 = .ok (.iload 6, 2) := by decide +kernel
theorem dX2_isRowSound_64 : decode cX2_isRowSound 64 = .ok (.invokestatic 55, 3) := by decide +kernel
theorem dX2_isRowSound_67 : decode cX2_isRowSound 67 = .ok (.invokevirtual 58, 3) := by decide +kernel
theorem dX2_isRowSound_70 : decode cX2_isRowSound 70 = .ok (.ifCond .eq 5, 3) := by decide +kernel
theorem dX2_isRowSound_73 : decode cX2_isRowSound 73 = .ok (.iconst 0, 1) := by decide +kernel
theorem dX2_isRowSound_74 : decode cX2_isRowSound 74 = .ok (.ireturn, 1) := by decide +kernel
theorem dX2_isRowSound_75 : decode cX2_isRowSound 75 = .ok (.iinc 6 1, 3) := by decide +kernel
theorem dX2_isRowSound_78 : decode cX2_isRowSound 78 = .ok (.goto (-41), 3) := by decide +kernel
theorem dX2_isRowSound_81 : decode cX2_isRowSound 81 = .ok (.iinc 4 1, 3) := by decide +kernel
theorem dX2_isRowSound_84 : decode cX2_isRowSound 84 = .ok (.goto (-81), 3) := by decide +kernel
theorem dX2_isRowSound_87 : decode cX2_isRowSound 87 = .ok (.iconst 1, 1) := by decide +kernel
theorem dX2_isRowSound_88 : decode cX2_isRowSound 88 = .ok (.ireturn, 1) := by decide +kernel
theorem dX2_standIn_0 : decode cX2_standIn 0 = .ok (.iload_n 0, 1) := by decide +kernel
theorem dX2_standIn_1 : decode cX2_standIn 1 = .ok (.iconst 3, 1) := by decide +kernel
theorem dX2_standIn_2 : decode cX2_standIn 2 = .ok (.iload_n 1, 1) := by decide +kernel
theorem dX2_standIn_3 : decode cX2_standIn 3 = .ok (.imul, 1) := by decide +kernel
theorem dX2_standIn_4 : decode cX2_standIn 4 = .ok (.ishr, 1) := by decide +kernel
theorem dX2_standIn_5 : decode cX2_standIn 5 = .ok (.bipush 7, 2) := by decide +kernel
theorem dX2_standIn_7 : decode cX2_standIn 7 = .ok (.iand, 1) := by decide +kernel
theorem dX2_standIn_8 : decode cX2_standIn 8 = .ok (.ireturn, 1) := by decide +kernel
theorem dX3_init_0 : decode cX3_init 0 = .ok (.aload_n 0, 1) := by decide +kernel
theorem dX3_init_1 : decode cX3_init 1 = .ok (.invokespecial 3, 3) := by decide +kernel
theorem dX3_init_4 : decode cX3_init 4 = .ok (.aload_n 0, 1) := by decide +kernel
theorem dX3_init_5 : decode cX3_init 5 = .ok (.new 9, 3) := by decide +kernel
theorem dX3_init_8 : decode cX3_init 8 = .ok (.dup, 1) := by decide +kernel
theorem dX3_init_9 : decode cX3_init 9 = .ok (.invokespecial 11, 3) := by decide +kernel
theorem dX3_init_12 : decode cX3_init 12 = .ok (.putfield 12, 3) := by decide +kernel
theorem dX3_init_15 : decode cX3_init 15 = .ok (.aload_n 0, 1) := by decide +kernel
theorem dX3_init_16 : decode cX3_init 16 = .ok (.iconst 3, 1) := by decide +kernel
theorem dX3_init_17 : decode cX3_init 17 = .ok (.newarray .int, 2) := by decide +kernel
theorem dX3_init_19 : decode cX3_init 19 = .ok (.putfield 18, 3) := by decide +kernel
theorem dX3_init_22 : decode cX3_init 22 = .ok (.aload_n 0, 1) := by decide +kernel
theorem dX3_init_23 : decode cX3_init 23 = .ok (.iconst 3, 1) := by decide +kernel
theorem dX3_init_24 : decode cX3_init 24 = .ok (.newarray .int, 2) := by decide +kernel
theorem dX3_init_26 : decode cX3_init 26 = .ok (.putfield 22, 3) := by decide +kernel
theorem dX3_init_29 : decode cX3_init 29 = .ok (.aload_n 0, 1) := by decide +kernel
theorem dX3_init_30 : decode cX3_init 30 = .ok (.iconst 3, 1) := by decide +kernel
theorem dX3_init_31 : decode cX3_init 31 = .ok (.newarray .int, 2) := by decide +kernel
theorem dX3_init_33 : decode cX3_init 33 = .ok (.putfield 25, 3) := by decide +kernel
theorem dX3_init_36 : decode cX3_init 36 = .ok (.return_, 1) := by decide +kernel
theorem dX3_find_0 : decode cX3_find 0 = .ok (.aload_n 0, 1) := by decide +kernel
theorem dX3_find_1 : decode cX3_find 1 = .ok (.iconst 0, 1) := by decide +kernel
theorem dX3_find_2 : decode cX3_find 2 = .ok (.putfield 28, 3) := by decide +kernel
theorem dX3_find_5 : decode cX3_find 5 = .ok (.aload_n 1, 1) := by decide +kernel
theorem dX3_find_6 : decode cX3_find 6 = .ok (.invokevirtual 32, 3) := by decide +kernel
theorem dX3_find_9 : decode cX3_find 9 = .ok (.ifCond .eq 5, 3) := by decide +kernel
theorem dX3_find_12 : decode cX3_find 12 = .ok (.iconst 1, 1) := by decide +kernel
theorem dX3_find_13 : decode cX3_find 13 = .ok (.ireturn, 1) := by decide +kernel
theorem dX3_find_14 : decode cX3_find 14 = .ok (.aload_n 0, 1) := by decide +kernel
theorem dX3_find_15 : decode cX3_find 15 = .ok (.getfield 12, 3) := by decide +kernel
theorem dX3_find_18 : decode cX3_find 18 = .ok (.aload_n 1, 1) := by decide +kernel
theorem dX3_find_19 : decode cX3_find 19 = .ok (.invokevirtual 38, 3) := by decide +kernel
theorem dX3_find_22 : decode cX3_find 22 = .ok (.iconst 1, 1) := by decide +kernel
theorem dX3_find_23 : decode cX3_find 23 = .ok (.istore_n 2, 1) := by decide +kernel
theorem dX3_find_24 : decode cX3_find 24 = .ok (.iload_n 2, 1) := by decide +kernel
theorem dX3_find_25 : decode cX3_find 25 = .ok (.iconst 3, 1) := by decide +kernel
theorem dX3_find_26 : decode cX3_find 26 = .ok (.if_icmp .gt 26, 3) := by decide +kernel
theorem dX3_find_29 : decode cX3_find 29 = .ok (.aload_n 0, 1) := by decide +kernel
theorem dX3_find_30 : decode cX3_find 30 = .ok (.iload_n 2, 1) := by decide +kernel
theorem dX3_find_31 : decode cX3_find 31 = .ok (.putfield 28, 3) := by decide +kernel
theorem dX3_find_34 : decode cX3_find 34 = .ok (.aload_n 0, 1) := by decide +kernel
theorem dX3_find_35 : decode cX3_find 35 = .ok (.aload_n 1, 1) := by decide +kernel
theorem dX3_find_36 : decode cX3_find 36 = .ok (.iconst 0, 1) := by decide +kernel
theorem dX3_find_37 : decode cX3_find 37 = .ok (.iconst 0, 1) := by decide +kernel
theorem dX3_find_38 : decode cX3_find 38 = .ok (.invokestatic 42, 3) := by decide +kernel
theorem dX3_find_41 : decode cX3_find 41 = .ok (.ifCond .eq 5, 3) := by decide +kernel
theorem dX3_find_44 : decode cX3_find 44 = .ok (.iconst 1, 1) := by decide +kernel
theorem dX3_find_45 : decode cX3_find 45 = .ok (.ireturn, 1) := by decide +kernel
theorem dX3_find_46 : decode cX3_find 46 = .ok (.iinc 2 1, 3) := by decide +kernel
theorem dX3_find_49 : decode cX3_find 49 = .ok (.goto (-25), 3) := by decide +kernel
theorem dX3_find_52 : decode cX3_find 52 = .ok (.iconst 0, 1) := by decide +kernel
theorem dX3_find_53 : decode cX3_find 53 = .ok (.ireturn, 1) := by decide +kernel
theorem dX3_chooseStays_0 : decode cX3_chooseStays 0 = .ok (.iload_n 2, 1) := by decide +kernel
theorem dX3_chooseStays_1 : decode cX3_chooseStays 1 = .ok (.aload_n 0, 1) := by decide +kernel
theorem dX3_chooseStays_2 : decode cX3_chooseStays 2 = .ok (.getfield 28, 3) := by decide +kernel
theorem dX3_chooseStays_5 : decode cX3_chooseStays 5 = .ok (.if_icmp .ge 8, 3) := by decide +kernel
theorem dX3_chooseStays_8 : decode cX3_chooseStays 8 = .ok (.iload_n 2, 1) := by decide +kernel
theorem dX3_chooseStays_9 : decode cX3_chooseStays 9 = .ok (.iconst 3, 1) := by decide +kernel
theorem dX3_chooseStays_10 : decode cX3_chooseStays 10 = .ok (.if_icmp .lt 25, 3) := by decide +kernel
theorem dX3_chooseStays_13 : decode cX3_chooseStays 13 = .ok (.aload_n 0, 1) := by decide +kernel
theorem dX3_chooseStays_14 : decode cX3_chooseStays 14 = .ok (.invokevirtual 46, 3) := by decide +kernel
theorem dX3_chooseStays_17 : decode cX3_chooseStays 17 = .ok (.ifCond .eq 16, 3) := by decide +kernel
theorem dX3_chooseStays_20 : decode cX3_chooseStays 20 = .ok (.aload_n 0, 1) := by decide +kernel
theorem dX3_chooseStays_21 : decode cX3_chooseStays 21 = .ok (.aload_n 1, 1) := by decide +kernel
theorem dX3_chooseStays_22 : decode cX3_chooseStays 22 = .ok (.iconst 0, 1) := by decide +kernel
theorem dX3_chooseStays_23 : decode cX3_chooseStays 23 = .ok (.invokestatic 49, 3) := by decide +kernel
theorem dX3_chooseStays_26 : decode cX3_chooseStays 26 = .ok (.ifCond .eq 7, 3) := by decide +kernel
theorem dX3_chooseStays_29 : decode cX3_chooseStays 29 = .ok (.iconst 1, 1) := by decide +kernel
theorem dX3_chooseStays_30 : decode cX3_chooseStays 30 = .ok (.goto 4, 3) := by decide +kernel
theorem dX3_chooseStays_33 : decode cX3_chooseStays 33 = .ok (.iconst 0, 1) := by decide +kernel
theorem dX3_chooseStays_34 : decode cX3_chooseStays 34 = .ok (.ireturn, 1) := by decide +kernel
theorem dX3_chooseStays_35 : decode cX3_chooseStays 35 = .ok (.iload_n 3, 1) := by decide +kernel
theorem dX3_chooseStays_36 : decode cX3_chooseStays 36 = .ok (.istore 4, 2) := by decide +kernel
theorem dX3_chooseStays_38 : decode cX3_chooseStays 38 = .ok (.iload 4, 2) := by decide +kernel
theorem dX3_chooseStays_40 : decode cX3_chooseStays 40 = .ok (.aload_n 0, 1) := by decide +kernel
theorem dX3_chooseStays_41 : decode cX3_chooseStays 41 = .ok (.getfield 12, 3) := by decide +kernel
theorem dX3_chooseStays_44 : decode cX3_chooseStays 44 = .ok (.getfield 53, 3) := by decide +kernel
theorem dX3_chooseStays_47 : decode cX3_chooseStays 47 = .ok (.if_icmp .ge 42, 3) := by decide +kernel
theorem dX3_chooseStays_50 : decode cX3_chooseStays 50 = .ok (.aload_n 0, 1) := by decide +kernel
theorem dX3_chooseStays_51 : decode cX3_chooseStays 51 = .ok (.getfield 22, 3) := by decide +kernel
theorem dX3_chooseStays_54 : decode cX3_chooseStays 54 = .ok (.iload_n 2, 1) := by decide +kernel
theorem dX3_chooseStays_55 : decode cX3_chooseStays 55 = .ok (.aload_n 0, 1) := by decide +kernel
theorem dX3_chooseStays_56 : decode cX3_chooseStays 56 = .ok (.getfield 12, 3) := by decide +kernel
theorem dX3_chooseStays_59 : decode cX3_chooseStays 59 = .ok (.getfield 56, 3) := by decide +kernel
theorem dX3_chooseStays_62 : decode cX3_chooseStays 62 = .ok (.iload 4, 2) := by decide +kernel
theorem dX3_chooseStays_64 : decode cX3_chooseStays 64 = .ok (.iaload, 1) := by decide +kernel
theorem dX3_chooseStays_65 : decode cX3_chooseStays 65 = .ok (.iastore, 1) := by decide +kernel
theorem dX3_chooseStays_66 : decode cX3_chooseStays 66 = .ok (.aload_n 0, 1) := by decide +kernel
theorem dX3_chooseStays_67 : decode cX3_chooseStays 67 = .ok (.aload_n 1, 1) := by decide +kernel
theorem dX3_chooseStays_68 : decode cX3_chooseStays 68 = .ok (.iload_n 2, 1) := by decide +kernel
theorem dX3_chooseStays_69 : decode cX3_chooseStays 69 = .ok (.iconst 1, 1) := by decide +kernel
theorem dX3_chooseStays_70 : decode cX3_chooseStays 70 = .ok (.iadd, 1) := by decide +kernel
theorem dX3_chooseStays_71 : decode cX3_chooseStays 71 = .ok (.iload 4, 2) := by decide +kernel
theorem dX3_chooseStays_73 : decode cX3_chooseStays 73 = .ok (.iconst 1, 1) := by decide +kernel
theorem dX3_chooseStays_74 : decode cX3_chooseStays 74 = .ok (.iadd, 1) := by decide +kernel
theorem dX3_chooseStays_75 : decode cX3_chooseStays 75 = .ok (.invokestatic 42, 3) := by decide +kernel
theorem dX3_chooseStays_78 : decode cX3_chooseStays 78 = .ok (.ifCond .eq 5, 3) := by decide +kernel
theorem dX3_chooseStays_81 : decode cX3_chooseStays 81 = .ok (.iconst 1, 1) := by decide +kernel
theorem dX3_chooseStays_82 : decode cX3_chooseStays 82 = .ok (.ireturn, 1) := by decide +kernel
theorem dX3_chooseStays_83 : decode cX3_chooseStays 83 = .ok (.iinc 4 1, 3) := by decide +kernel
theorem dX3_chooseStays_86 : decode cX3_chooseStays 86 = .ok (.goto (-48), 3) := by decide +kernel
theorem dX3_chooseStays_89 : decode cX3_chooseStays 89 = .ok (.iconst 0, 1) := by decide +kernel
theorem dX3_chooseStays_90 : decode cX3_chooseStays 90 = .ok (.ireturn, 1) := by decide +kernel
theorem dX3_canBeMoved_0 : decode cX3_canBeMoved 0 = .ok (.iconst 0, 1) := by decide +kernel
theorem dX3_canBeMoved_1 : decode cX3_canBeMoved 1 = .ok (.istore_n 1, 1) := by decide +kernel
theorem dX3_canBeMoved_2 : decode cX3_canBeMoved 2 = .ok (.iconst 0, 1) := by decide +kernel
theorem dX3_canBeMoved_3 : decode cX3_canBeMoved 3 = .ok (.istore_n 2, 1) := by decide +kernel
theorem dX3_canBeMoved_4 : decode cX3_canBeMoved 4 = .ok (.iload_n 2, 1) := by decide +kernel
theorem dX3_canBeMoved_5 : decode cX3_canBeMoved 5 = .ok (.aload_n 0, 1) := by decide +kernel
theorem dX3_canBeMoved_6 : decode cX3_canBeMoved 6 = .ok (.getfield 28, 3) := by decide +kernel
theorem dX3_canBeMoved_9 : decode cX3_canBeMoved 9 = .ok (.if_icmp .ge 20, 3) := by decide +kernel
theorem dX3_canBeMoved_12 : decode cX3_canBeMoved 12 = .ok (.iload_n 1, 1) := by decide +kernel
theorem dX3_canBeMoved_13 : decode cX3_canBeMoved 13 = .ok (.iconst 1, 1) := by decide +kernel
theorem dX3_canBeMoved_14 : decode cX3_canBeMoved 14 = .ok (.aload_n 0, 1) := by decide +kernel
theorem dX3_canBeMoved_15 : decode cX3_canBeMoved 15 = .ok (.getfield 22, 3) := by decide +kernel
theorem dX3_canBeMoved_18 : decode cX3_canBeMoved 18 = .ok (.iload_n 2, 1) := by decide +kernel
theorem dX3_canBeMoved_19 : decode cX3_canBeMoved 19 = .ok (.iaload, 1) := by decide +kernel
theorem dX3_canBeMoved_20 : decode cX3_canBeMoved 20 = .ok (.ishl, 1) := by decide +kernel
theorem dX3_canBeMoved_21 : decode cX3_canBeMoved 21 = .ok (.ior, 1) := by decide +kernel
theorem dX3_canBeMoved_22 : decode cX3_canBeMoved 22 = .ok (.istore_n 1, 1) := by decide +kernel
theorem dX3_canBeMoved_23 : decode cX3_canBeMoved 23 = .ok (.iinc 2 1, 3) := by decide +kernel
theorem dX3_canBeMoved_26 : decode cX3_canBeMoved 26 = .ok (.goto (-22), 3) := by decide +kernel
theorem dX3_canBeMoved_29 : decode cX3_canBeMoved 29 = .ok (.aload_n 0, 1) := by decide +kernel
theorem dX3_canBeMoved_30 : decode cX3_canBeMoved 30 = .ok (.getfield 12, 3) := by decide +kernel
theorem dX3_canBeMoved_33 : decode cX3_canBeMoved 33 = .ok (.iload_n 1, 1) := by decide +kernel
theorem dX3_canBeMoved_34 : decode cX3_canBeMoved 34 = .ok (.invokevirtual 59, 3) := by decide +kernel
theorem dX3_canBeMoved_37 : decode cX3_canBeMoved 37 = .ok (.ifCond .ne 5, 3) := by decide +kernel
theorem dX3_canBeMoved_40 : decode cX3_canBeMoved 40 = .ok (.iconst 0, 1) := by decide +kernel
theorem dX3_canBeMoved_41 : decode cX3_canBeMoved 41 = .ok (.ireturn, 1) := by decide +kernel
theorem dX3_canBeMoved_42 : decode cX3_canBeMoved 42 = .ok (.iconst 0, 1) := by decide +kernel
theorem dX3_canBeMoved_43 : decode cX3_canBeMoved 43 = .ok (.istore_n 2, 1) := by decide +kernel
theorem dX3_canBeMoved_44 : decode cX3_canBeMoved 44 = .ok (.iload_n 2, 1) := by decide +kernel
theorem dX3_canBeMoved_45 : decode cX3_canBeMoved 45 = .ok (.aload_n 0, 1) := by decide +kernel
theorem dX3_canBeMoved_46 : decode cX3_canBeMoved 46 = .ok (.getfield 28, 3) := by decide +kernel
theorem dX3_canBeMoved_49 : decode cX3_canBeMoved 49 = .ok (.if_icmp .ge 40, 3) := by decide +kernel
theorem dX3_canBeMoved_52 : decode cX3_canBeMoved 52 = .ok (.aload_n 0, 1) := by decide +kernel
theorem dX3_canBeMoved_53 : decode cX3_canBeMoved 53 = .ok (.getfield 18, 3) := by decide +kernel
theorem dX3_canBeMoved_56 : decode cX3_canBeMoved 56 = .ok (.iload_n 2, 1) := by decide +kernel
theorem dX3_canBeMoved_57 : decode cX3_canBeMoved 57 = .ok (.aload_n 0, 1) := by decide +kernel
theorem dX3_canBeMoved_58 : decode cX3_canBeMoved 58 = .ok (.getfield 12, 3) := by decide +kernel
theorem dX3_canBeMoved_61 : decode cX3_canBeMoved 61 = .ok (.aload_n 0, 1) := by decide +kernel
theorem dX3_canBeMoved_62 : decode cX3_canBeMoved 62 = .ok (.getfield 22, 3) := by decide +kernel
theorem dX3_canBeMoved_65 : decode cX3_canBeMoved 65 = .ok (.iload_n 2, 1) := by decide +kernel
theorem dX3_canBeMoved_66 : decode cX3_canBeMoved 66 = .ok (.iaload, 1) := by decide +kernel
theorem dX3_canBeMoved_67 : decode cX3_canBeMoved 67 = .ok (.iload_n 1, 1) := by decide +kernel
theorem dX3_canBeMoved_68 : decode cX3_canBeMoved 68 = .ok (.invokevirtual 63, 3) := by decide +kernel
theorem dX3_canBeMoved_71 : decode cX3_canBeMoved 71 = .ok (.iastore, 1) := by decide +kernel
theorem dX3_canBeMoved_72 : decode cX3_canBeMoved 72 = .ok (.aload_n 0, 1) := by decide +kernel
theorem dX3_canBeMoved_73 : decode cX3_canBeMoved 73 = .ok (.getfield 18, 3) := by decide +kernel
theorem dX3_canBeMoved_76 : decode cX3_canBeMoved 76 = .ok (.iload_n 2, 1) := by decide +kernel
theorem dX3_canBeMoved_77 : decode cX3_canBeMoved 77 = .ok (.iaload, 1) := by decide +kernel
theorem dX3_canBeMoved_78 : decode cX3_canBeMoved 78 = .ok (.ifCond .ne 5, 3) := by decide +kernel
theorem dX3_canBeMoved_81 : decode cX3_canBeMoved 81 = .ok (.iconst 0, 1) := by decide +kernel
theorem dX3_canBeMoved_82 : decode cX3_canBeMoved 82 = .ok (.ireturn, 1) := by decide +kernel
theorem dX3_canBeMoved_83 : decode cX3_canBeMoved 83 = .ok (.iinc 2 1, 3) := by decide +kernel
theorem dX3_canBeMoved_86 : decode cX3_canBeMoved 86 = .ok (.goto (-42), 3) := by decide +kernel
theorem dX3_canBeMoved_89 : decode cX3_canBeMoved 89 = .ok (.iconst 1, 1) := by decide +kernel
theorem dX3_canBeMoved_90 : decode cX3_canBeMoved 90 = .ok (.ireturn, 1) := by decide +kernel
theorem dX3_chooseStands_0 : decode cX3_chooseStands 0 = .ok (.iload_n 2, 1) := by decide +kernel
theorem dX3_chooseStands_1 : decode cX3_chooseStands 1 = .ok (.aload_n 0, 1) := by decide +kernel
theorem dX3_chooseStands_2 : decode cX3_chooseStands 2 = .ok (.getfield 28, 3) := by decide +kernel
theorem dX3_chooseStands_5 : decode cX3_chooseStands 5 = .ok (.if_icmp .ge 8, 3) := by decide +kernel
theorem dX3_chooseStands_8 : decode cX3_chooseStands 8 = .ok (.iload_n 2, 1) := by decide +kernel
theorem dX3_chooseStands_9 : decode cX3_chooseStands 9 = .ok (.iconst 3, 1) := by decide +kernel
theorem dX3_chooseStands_10 : decode cX3_chooseStands 10 = .ok (.if_icmp .lt 5, 3) := by decide +kernel
theorem dX3_chooseStands_13 : decode cX3_chooseStands 13 = .ok (.iconst 1, 1) := by decide +kernel
theorem dX3_chooseStands_14 : decode cX3_chooseStands 14 = .ok (.ireturn, 1) := by decide +kernel
theorem dX3_chooseStands_15 : decode cX3_chooseStands 15 = .ok (.iconst 0, 1) := by decide +kernel
theorem dX3_chooseStands_16 : decode cX3_chooseStands 16 = .ok (.istore_n 3, 1) := by decide +kernel
theorem dX3_chooseStands_17 : decode cX3_chooseStands 17 = .ok (.iload_n 3, 1) := by decide +kernel
theorem dX3_chooseStands_18 : decode cX3_chooseStands 18 = .ok (.bipush 8, 2) := by decide +kernel
theorem dX3_chooseStands_20 : decode cX3_chooseStands 20 = .ok (.if_icmp .ge 52, 3) := by decide +kernel
theorem dX3_chooseStands_23 : decode cX3_chooseStands 23 = .ok (.aload_n 0, 1) := by decide +kernel
theorem dX3_chooseStands_24 : decode cX3_chooseStands 24 = .ok (.getfield 18, 3) := by decide +kernel
theorem dX3_chooseStands_27 : decode cX3_chooseStands 27 = .ok (.iload_n 2, 1) := by decide +kernel
theorem dX3_chooseStands_28 : decode cX3_chooseStands 28 = .ok (.iaload, 1) := by decide +kernel
theorem dX3_chooseStands_29 : decode cX3_chooseStands 29 = .ok (.iload_n 3, 1) := by decide +kernel
theorem dX3_chooseStands_30 : decode cX3_chooseStands 30 = .ok (.ishr, 1) := by decide +kernel
theorem dX3_chooseStands_31 : decode cX3_chooseStands 31 = .ok (.iconst 1, 1) := by decide +kernel
theorem dX3_chooseStands_32 : decode cX3_chooseStands 32 = .ok (.iand, 1) := by decide +kernel
theorem dX3_chooseStands_33 : decode cX3_chooseStands 33 = .ok (.ifCond .eq 33, 3) := by decide +kernel
theorem dX3_chooseStands_36 : decode cX3_chooseStands 36 = .ok (.aload_n 0, 1) := by decide +kernel
theorem dX3_chooseStands_37 : decode cX3_chooseStands 37 = .ok (.aload_n 1, 1) := by decide +kernel
theorem dX3_chooseStands_38 : decode cX3_chooseStands 38 = .ok (.iload_n 2, 1) := by decide +kernel
theorem dX3_chooseStands_39 : decode cX3_chooseStands 39 = .ok (.iload_n 3, 1) := by decide +kernel
theorem dX3_chooseStands_40 : decode cX3_chooseStands 40 = .ok (.invokevirtual 67, 3) := by decide +kernel
theorem dX3_chooseStands_43 : decode cX3_chooseStands 43 = .ok (.ifCond .eq 23, 3) := by decide +kernel
theorem dX3_chooseStands_46 : decode cX3_chooseStands 46 = .ok (.aload_n 0, 1) := by decide +kernel
theorem dX3_chooseStands_47 : decode cX3_chooseStands 47 = .ok (.getfield 25, 3) := by decide +kernel
theorem dX3_chooseStands_50 : decode cX3_chooseStands 50 = .ok (.iload_n 2, 1) := by decide +kernel
theorem dX3_chooseStands_51 : decode cX3_chooseStands 51 = .ok (.iload_n 3, 1) := by decide +kernel
theorem dX3_chooseStands_52 : decode cX3_chooseStands 52 = .ok (.iastore, 1) := by decide +kernel
theorem dX3_chooseStands_53 : decode cX3_chooseStands 53 = .ok (.aload_n 0, 1) := by decide +kernel
theorem dX3_chooseStands_54 : decode cX3_chooseStands 54 = .ok (.aload_n 1, 1) := by decide +kernel
theorem dX3_chooseStands_55 : decode cX3_chooseStands 55 = .ok (.iload_n 2, 1) := by decide +kernel
theorem dX3_chooseStands_56 : decode cX3_chooseStands 56 = .ok (.iconst 1, 1) := by decide +kernel
theorem dX3_chooseStands_57 : decode cX3_chooseStands 57 = .ok (.iadd, 1) := by decide +kernel
theorem dX3_chooseStands_58 : decode cX3_chooseStands 58 = .ok (.invokestatic 49, 3) := by decide +kernel
theorem dX3_chooseStands_61 : decode cX3_chooseStands 61 = .ok (.ifCond .eq 5, 3) := by decide +kernel
theorem dX3_chooseStands_64 : decode cX3_chooseStands 64 = .ok (.iconst 1, 1) := by decide +kernel
theorem dX3_chooseStands_65 : decode cX3_chooseStands 65 = .ok (.ireturn, 1) := by decide +kernel
theorem dX3_chooseStands_66 : decode cX3_chooseStands 66 = .ok (.iinc 3 1, 3) := by decide +kernel
theorem dX3_chooseStands_69 : decode cX3_chooseStands 69 = .ok (.goto (-52), 3) := by decide +kernel
theorem dX3_chooseStands_72 : decode cX3_chooseStands 72 = .ok (.iconst 0, 1) := by decide +kernel
theorem dX3_chooseStands_73 : decode cX3_chooseStands 73 = .ok (.ireturn, 1) := by decide +kernel
theorem dX3_agreesWithEarlier_0 : decode cX3_agreesWithEarlier 0 = .ok (.iconst 0, 1) := by decide +kernel
theorem dX3_agreesWithEarlier_1 : decode cX3_agreesWithEarlier 1 = .ok (.istore 4, 2) := by decide +kernel
theorem dX3_agreesWithEarlier_3 : decode cX3_agreesWithEarlier 3 = .ok (.iload 4, 2) := by decide +kernel
theorem dX3_agreesWithEarlier_5 : decode cX3_agreesWithEarlier 5 = .ok (.iload_n 2, 1) := by decide +kernel
theorem dX3_agreesWithEarlier_6 : decode cX3_agreesWithEarlier 6 = .ok (.if_icmp .ge 39, 3) := by decide +kernel
theorem dX3_agreesWithEarlier_9 : decode cX3_agreesWithEarlier 9 = .ok (.aload_n 1, 1) := by decide +kernel
theorem dX3_agreesWithEarlier_10 : decode cX3_agreesWithEarlier 10 = .ok (.aload_n 0, 1) := by decide +kernel
theorem dX3_agreesWithEarlier_11 : decode cX3_agreesWithEarlier 11 = .ok (.getfield 22, 3) := by decide +kernel
theorem dX3_agreesWithEarlier_14 : decode cX3_agreesWithEarlier 14 = .ok (.iload_n 2, 1) := by decide +kernel
theorem dX3_agreesWithEarlier_15 : decode cX3_agreesWithEarlier 15 = .ok (.iaload, 1) := by decide +kernel
theorem dX3_agreesWithEarlier_16 : decode cX3_agreesWithEarlier 16 = .ok (.iload_n 3, 1) := by decide +kernel
theorem dX3_agreesWithEarlier_17 : decode cX3_agreesWithEarlier 17 = .ok (.aload_n 0, 1) := by decide +kernel
theorem dX3_agreesWithEarlier_18 : decode cX3_agreesWithEarlier 18 = .ok (.getfield 22, 3) := by decide +kernel
theorem dX3_agreesWithEarlier_21 : decode cX3_agreesWithEarlier 21 = .ok (.iload 4, 2) := by decide +kernel
theorem dX3_agreesWithEarlier_23 : decode cX3_agreesWithEarlier 23 = .ok (.iaload, 1) := by decide +kernel
theorem dX3_agreesWithEarlier_24 : decode cX3_agreesWithEarlier 24 = .ok (.aload_n 0, 1) := by decide +kernel
theorem dX3_agreesWithEarlier_25 : decode cX3_agreesWithEarlier 25 = .ok (.getfield 25, 3) := by decide +kernel
theorem dX3_agreesWithEarlier_28 : decode cX3_agreesWithEarlier 28 = .ok (.iload 4, 2) := by decide +kernel
theorem dX3_agreesWithEarlier_30 : decode cX3_agreesWithEarlier 30 = .ok (.iaload, 1) := by decide +kernel
theorem dX3_agreesWithEarlier_31 : decode cX3_agreesWithEarlier 31 = .ok (.invokevirtual 71, 3) := by decide +kernel
theorem dX3_agreesWithEarlier_34 : decode cX3_agreesWithEarlier 34 = .ok (.ifCond .eq 5, 3) := by decide +kernel
theorem dX3_agreesWithEarlier_37 : decode cX3_agreesWithEarlier 37 = .ok (.iconst 0, 1) := by decide +kernel
theorem dX3_agreesWithEarlier_38 : decode cX3_agreesWithEarlier 38 = .ok (.ireturn, 1) := by decide +kernel
theorem dX3_agreesWithEarlier_39 : decode cX3_agreesWithEarlier 39 = .ok (.iinc 4 1, 3) := by decide +kernel
theorem dX3_agreesWithEarlier_42 : decode cX3_agreesWithEarlier 42 = .ok (.goto (-39), 3) := by decide +kernel
theorem dX3_agreesWithEarlier_45 : decode cX3_agreesWithEarlier 45 = .ok (.iconst 1, 1) := by decide +kernel
theorem dX3_agreesWithEarlier_46 : decode cX3_agreesWithEarlier 46 = .ok (.ireturn, 1) := by decide +kernel
theorem dX4_init_0 : decode cX4_init 0 = .ok (.aload_n 0, 1) := by decide +kernel
theorem dX4_init_1 : decode cX4_init 1 = .ok (.invokespecial 3, 3) := by decide +kernel
theorem dX4_init_4 : decode cX4_init 4 = .ok (.aload_n 0, 1) := by decide +kernel
theorem dX4_init_5 : decode cX4_init 5 = .ok (.bipush 6, 2) := by decide +kernel
theorem dX4_init_7 : decode cX4_init 7 = .ok (.anewarray 9, 3) := by decide +kernel
theorem dX4_init_10 : decode cX4_init 10 = .ok (.putfield 11, 3) := by decide +kernel
theorem dX4_init_13 : decode cX4_init 13 = .ok (.iconst 0, 1) := by decide +kernel
theorem dX4_init_14 : decode cX4_init 14 = .ok (.istore_n 1, 1) := by decide +kernel
theorem dX4_init_15 : decode cX4_init 15 = .ok (.iload_n 1, 1) := by decide +kernel
theorem dX4_init_16 : decode cX4_init 16 = .ok (.bipush 6, 2) := by decide +kernel
theorem dX4_init_18 : decode cX4_init 18 = .ok (.if_icmp .ge 22, 3) := by decide +kernel
theorem dX4_init_21 : decode cX4_init 21 = .ok (.aload_n 0, 1) := by decide +kernel
theorem dX4_init_22 : decode cX4_init 22 = .ok (.getfield 11, 3) := by decide +kernel
theorem dX4_init_25 : decode cX4_init 25 = .ok (.iload_n 1, 1) := by decide +kernel
theorem dX4_init_26 : decode cX4_init 26 = .ok (.new 9, 3) := by decide +kernel
theorem dX4_init_29 : decode cX4_init 29 = .ok (.dup, 1) := by decide +kernel
theorem dX4_init_30 : decode cX4_init 30 = .ok (.invokespecial 17, 3) := by decide +kernel
theorem dX4_init_33 : decode cX4_init 33 = .ok (.aastore, 1) := by decide +kernel
theorem dX4_init_34 : decode cX4_init 34 = .ok (.iinc 1 1, 3) := by decide +kernel
theorem dX4_init_37 : decode cX4_init 37 = .ok (.goto (-22), 3) := by decide +kernel
theorem dX4_init_40 : decode cX4_init 40 = .ok (.return_, 1) := by decide +kernel
theorem dX4_forgetAll_0 : decode cX4_forgetAll 0 = .ok (.aload_n 0, 1) := by decide +kernel
theorem dX4_forgetAll_1 : decode cX4_forgetAll 1 = .ok (.iconst 0, 1) := by decide +kernel
theorem dX4_forgetAll_2 : decode cX4_forgetAll 2 = .ok (.putfield 18, 3) := by decide +kernel
theorem dX4_forgetAll_5 : decode cX4_forgetAll 5 = .ok (.return_, 1) := by decide +kernel
theorem dX4_remember_0 : decode cX4_remember 0 = .ok (.aload_n 0, 1) := by decide +kernel
theorem dX4_remember_1 : decode cX4_remember 1 = .ok (.getfield 11, 3) := by decide +kernel
theorem dX4_remember_4 : decode cX4_remember 4 = .ok (.aload_n 0, 1) := by decide +kernel
theorem dX4_remember_5 : decode cX4_remember 5 = .ok (.getfield 22, 3) := by decide +kernel
theorem dX4_remember_8 : decode cX4_remember 8 = .ok (.aload_n 0, 1) := by decide +kernel
theorem dX4_remember_9 : decode cX4_remember 9 = .ok (.getfield 18, 3) := by decide +kernel
theorem dX4_remember_12 : decode cX4_remember 12 = .ok (.iadd, 1) := by decide +kernel
theorem dX4_remember_13 : decode cX4_remember 13 = .ok (.bipush 6, 2) := by decide +kernel
theorem dX4_remember_15 : decode cX4_remember 15 = .ok (.irem, 1) := by decide +kernel
theorem dX4_remember_16 : decode cX4_remember 16 = .ok (.aaload, 1) := by decide +kernel
theorem dX4_remember_17 : decode cX4_remember 17 = .ok (.aload_n 1, 1) := by decide +kernel
theorem dX4_remember_18 : decode cX4_remember 18 = .ok (.invokevirtual 25, 3) := by decide +kernel
theorem dX4_remember_21 : decode cX4_remember 21 = .ok (.aload_n 0, 1) := by decide +kernel
theorem dX4_remember_22 : decode cX4_remember 22 = .ok (.getfield 18, 3) := by decide +kernel
theorem dX4_remember_25 : decode cX4_remember 25 = .ok (.bipush 6, 2) := by decide +kernel
theorem dX4_remember_27 : decode cX4_remember 27 = .ok (.if_icmp .ge 16, 3) := by decide +kernel
theorem dX4_remember_30 : decode cX4_remember 30 = .ok (.aload_n 0, 1) := by decide +kernel
theorem dX4_remember_31 : decode cX4_remember 31 = .ok (.dup, 1) := by decide +kernel
theorem dX4_remember_32 : decode cX4_remember 32 = .ok (.getfield 18, 3) := by decide +kernel
theorem dX4_remember_35 : decode cX4_remember 35 = .ok (.iconst 1, 1) := by decide +kernel
theorem dX4_remember_36 : decode cX4_remember 36 = .ok (.iadd, 1) := by decide +kernel
theorem dX4_remember_37 : decode cX4_remember 37 = .ok (.putfield 18, 3) := by decide +kernel
theorem dX4_remember_40 : decode cX4_remember 40 = .ok (.goto 16, 3) := by decide +kernel
theorem dX4_remember_43 : decode cX4_remember 43 = .ok (.aload_n 0, 1) := by decide +kernel
theorem dX4_remember_44 : decode cX4_remember 44 = .ok (.aload_n 0, 1) := by decide +kernel
theorem dX4_remember_45 : decode cX4_remember 45 = .ok (.getfield 22, 3) := by decide +kernel
theorem dX4_remember_48 : decode cX4_remember 48 = .ok (.iconst 1, 1) := by decide +kernel
theorem dX4_remember_49 : decode cX4_remember 49 = .ok (.iadd, 1) := by decide +kernel
theorem dX4_remember_50 : decode cX4_remember 50 = .ok (.bipush 6, 2) := by decide +kernel
theorem dX4_remember_52 : decode cX4_remember 52 = .ok (.irem, 1) := by decide +kernel
theorem dX4_remember_53 : decode cX4_remember 53 = .ok (.putfield 22, 3) := by decide +kernel
theorem dX4_remember_56 : decode cX4_remember 56 = .ok (.return_, 1) := by decide +kernel
theorem dX4_takeBack_0 : decode cX4_takeBack 0 = .ok (.aload_n 0, 1) := by decide +kernel
theorem dX4_takeBack_1 : decode cX4_takeBack 1 = .ok (.getfield 18, 3) := by decide +kernel
theorem dX4_takeBack_4 : decode cX4_takeBack 4 = .ok (.ifCond .le 34, 3) := by decide +kernel
theorem dX4_takeBack_7 : decode cX4_takeBack 7 = .ok (.aload_n 0, 1) := by decide +kernel
theorem dX4_takeBack_8 : decode cX4_takeBack 8 = .ok (.dup, 1) := by decide +kernel
theorem dX4_takeBack_9 : decode cX4_takeBack 9 = .ok (.getfield 18, 3) := by decide +kernel
theorem dX4_takeBack_12 : decode cX4_takeBack 12 = .ok (.iconst 1, 1) := by decide +kernel
theorem dX4_takeBack_13 : decode cX4_takeBack 13 = .ok (.isub, 1) := by decide +kernel
theorem dX4_takeBack_14 : decode cX4_takeBack 14 = .ok (.putfield 18, 3) := by decide +kernel
theorem dX4_takeBack_17 : decode cX4_takeBack 17 = .ok (.aload_n 1, 1) := by decide +kernel
theorem dX4_takeBack_18 : decode cX4_takeBack 18 = .ok (.aload_n 0, 1) := by decide +kernel
theorem dX4_takeBack_19 : decode cX4_takeBack 19 = .ok (.getfield 11, 3) := by decide +kernel
theorem dX4_takeBack_22 : decode cX4_takeBack 22 = .ok (.aload_n 0, 1) := by decide +kernel
theorem dX4_takeBack_23 : decode cX4_takeBack 23 = .ok (.getfield 22, 3) := by decide +kernel
theorem dX4_takeBack_26 : decode cX4_takeBack 26 = .ok (.aload_n 0, 1) := by decide +kernel
theorem dX4_takeBack_27 : decode cX4_takeBack 27 = .ok (.getfield 18, 3) := by decide +kernel
theorem dX4_takeBack_30 : decode cX4_takeBack 30 = .ok (.iadd, 1) := by decide +kernel
theorem dX4_takeBack_31 : decode cX4_takeBack 31 = .ok (.bipush 6, 2) := by decide +kernel
theorem dX4_takeBack_33 : decode cX4_takeBack 33 = .ok (.irem, 1) := by decide +kernel
theorem dX4_takeBack_34 : decode cX4_takeBack 34 = .ok (.aaload, 1) := by decide +kernel
theorem dX4_takeBack_35 : decode cX4_takeBack 35 = .ok (.invokevirtual 25, 3) := by decide +kernel
theorem dX4_takeBack_38 : decode cX4_takeBack 38 = .ok (.return_, 1) := by decide +kernel
theorem dX5_init_0 : decode cX5_init 0 = .ok (.aload_n 0, 1) := by decide +kernel
theorem dX5_init_1 : decode cX5_init 1 = .ok (.invokespecial 3, 3) := by decide +kernel
theorem dX5_init_4 : decode cX5_init 4 = .ok (.aload_n 0, 1) := by decide +kernel
theorem dX5_init_5 : decode cX5_init 5 = .ok (.bipush 60, 2) := by decide +kernel
theorem dX5_init_7 : decode cX5_init 7 = .ok (.newarray .char, 2) := by decide +kernel
theorem dX5_init_9 : decode cX5_init 9 = .ok (.putfield 9, 3) := by decide +kernel
theorem dX5_init_12 : decode cX5_init 12 = .ok (.aload_n 0, 1) := by decide +kernel
theorem dX5_init_13 : decode cX5_init 13 = .ok (.iconst 3, 1) := by decide +kernel
theorem dX5_init_14 : decode cX5_init 14 = .ok (.newarray .int, 2) := by decide +kernel
theorem dX5_init_16 : decode cX5_init 16 = .ok (.putfield 15, 3) := by decide +kernel
theorem dX5_init_19 : decode cX5_init 19 = .ok (.return_, 1) := by decide +kernel
theorem dX5_makeEmpty_0 : decode cX5_makeEmpty 0 = .ok (.aload_n 0, 1) := by decide +kernel
theorem dX5_makeEmpty_1 : decode cX5_makeEmpty 1 = .ok (.iconst 0, 1) := by decide +kernel
theorem dX5_makeEmpty_2 : decode cX5_makeEmpty 2 = .ok (.putfield 19, 3) := by decide +kernel
theorem dX5_makeEmpty_5 : decode cX5_makeEmpty 5 = .ok (.return_, 1) := by decide +kernel
theorem dX5_add_0 : decode cX5_add 0 = .ok (.aload_n 0, 1) := by decide +kernel
theorem dX5_add_1 : decode cX5_add 1 = .ok (.getfield 19, 3) := by decide +kernel
theorem dX5_add_4 : decode cX5_add 4 = .ok (.bipush 60, 2) := by decide +kernel
theorem dX5_add_6 : decode cX5_add 6 = .ok (.if_icmp .ge 23, 3) := by decide +kernel
theorem dX5_add_9 : decode cX5_add 9 = .ok (.aload_n 0, 1) := by decide +kernel
theorem dX5_add_10 : decode cX5_add 10 = .ok (.getfield 9, 3) := by decide +kernel
theorem dX5_add_13 : decode cX5_add 13 = .ok (.aload_n 0, 1) := by decide +kernel
theorem dX5_add_14 : decode cX5_add 14 = .ok (.getfield 19, 3) := by decide +kernel
theorem dX5_add_17 : decode cX5_add 17 = .ok (.iload_n 1, 1) := by decide +kernel
theorem dX5_add_18 : decode cX5_add 18 = .ok (.castore, 1) := by decide +kernel
theorem dX5_add_19 : decode cX5_add 19 = .ok (.aload_n 0, 1) := by decide +kernel
theorem dX5_add_20 : decode cX5_add 20 = .ok (.dup, 1) := by decide +kernel
theorem dX5_add_21 : decode cX5_add 21 = .ok (.getfield 19, 3) := by decide +kernel
theorem dX5_add_24 : decode cX5_add 24 = .ok (.iconst 1, 1) := by decide +kernel
theorem dX5_add_25 : decode cX5_add 25 = .ok (.iadd, 1) := by decide +kernel
theorem dX5_add_26 : decode cX5_add 26 = .ok (.putfield 19, 3) := by decide +kernel
theorem dX5_add_29 : decode cX5_add 29 = .ok (.aload_n 0, 1) := by decide +kernel
theorem dX5_add_30 : decode cX5_add 30 = .ok (.getfield 19, 3) := by decide +kernel
theorem dX5_add_33 : decode cX5_add 33 = .ok (.ireturn, 1) := by decide +kernel
theorem dX5_goToStart_0 : decode cX5_goToStart 0 = .ok (.aload_n 0, 1) := by decide +kernel
theorem dX5_goToStart_1 : decode cX5_goToStart 1 = .ok (.iconst 0, 1) := by decide +kernel
theorem dX5_goToStart_2 : decode cX5_goToStart 2 = .ok (.putfield 23, 3) := by decide +kernel
theorem dX5_goToStart_5 : decode cX5_goToStart 5 = .ok (.return_, 1) := by decide +kernel
theorem dX5_wrongPosition_0 : decode cX5_wrongPosition 0 = .ok (.aload_n 0, 1) := by decide +kernel
theorem dX5_wrongPosition_1 : decode cX5_wrongPosition 1 = .ok (.invokevirtual 26, 3) := by decide +kernel
theorem dX5_wrongPosition_4 : decode cX5_wrongPosition 4 = .ok (.aload_n 0, 1) := by decide +kernel
theorem dX5_wrongPosition_5 : decode cX5_wrongPosition 5 = .ok (.getfield 19, 3) := by decide +kernel
theorem dX5_wrongPosition_8 : decode cX5_wrongPosition 8 = .ok (.ifCond .ne 5, 3) := by decide +kernel
theorem dX5_wrongPosition_11 : decode cX5_wrongPosition 11 = .ok (.iconst 0, 1) := by decide +kernel
theorem dX5_wrongPosition_12 : decode cX5_wrongPosition 12 = .ok (.ireturn, 1) := by decide +kernel
theorem dX5_wrongPosition_13 : decode cX5_wrongPosition 13 = .ok (.iconst 0, 1) := by decide +kernel
theorem dX5_wrongPosition_14 : decode cX5_wrongPosition 14 = .ok (.istore_n 1, 1) := by decide +kernel
theorem dX5_wrongPosition_15 : decode cX5_wrongPosition 15 = .ok (.iload_n 1, 1) := by decide +kernel
theorem dX5_wrongPosition_16 : decode cX5_wrongPosition 16 = .ok (.bipush 60, 2) := by decide +kernel
theorem dX5_wrongPosition_18 : decode cX5_wrongPosition 18 = .ok (.if_icmp .ge 32, 3) := by decide +kernel
theorem dX5_wrongPosition_21 : decode cX5_wrongPosition 21 = .ok (.aload_n 0, 1) := by decide +kernel
theorem dX5_wrongPosition_22 : decode cX5_wrongPosition 22 = .ok (.getfield 23, 3) := by decide +kernel
theorem dX5_wrongPosition_25 : decode cX5_wrongPosition 25 = .ok (.aload_n 0, 1) := by decide +kernel
theorem dX5_wrongPosition_26 : decode cX5_wrongPosition 26 = .ok (.getfield 19, 3) := by decide +kernel
theorem dX5_wrongPosition_29 : decode cX5_wrongPosition 29 = .ok (.if_icmp .ge 21, 3) := by decide +kernel
theorem dX5_wrongPosition_32 : decode cX5_wrongPosition 32 = .ok (.aload_n 0, 1) := by decide +kernel
theorem dX5_wrongPosition_33 : decode cX5_wrongPosition 33 = .ok (.invokevirtual 29, 3) := by decide +kernel
theorem dX5_wrongPosition_36 : decode cX5_wrongPosition 36 = .ok (.ifCond .ne 8, 3) := by decide +kernel
theorem dX5_wrongPosition_39 : decode cX5_wrongPosition 39 = .ok (.aload_n 0, 1) := by decide +kernel
theorem dX5_wrongPosition_40 : decode cX5_wrongPosition 40 = .ok (.getfield 23, 3) := by decide +kernel
theorem dX5_wrongPosition_43 : decode cX5_wrongPosition 43 = .ok (.ireturn, 1) := by decide +kernel
theorem dX5_wrongPosition_44 : decode cX5_wrongPosition 44 = .ok (.iinc 1 1, 3) := by decide +kernel
theorem dX5_wrongPosition_47 : decode cX5_wrongPosition 47 = .ok (.goto (-32), 3) := by decide +kernel
theorem dX5_wrongPosition_50 : decode cX5_wrongPosition 50 = .ok (.iconst (-1), 1) := by decide +kernel
theorem dX5_wrongPosition_51 : decode cX5_wrongPosition 51 = .ok (.ireturn, 1) := by decide +kernel
theorem dX5_readEntry_0 : decode cX5_readEntry 0 = .ok (.aload_n 0, 1) := by decide +kernel
theorem dX5_readEntry_1 : decode cX5_readEntry 1 = .ok (.getfield 23, 3) := by decide +kernel
theorem dX5_readEntry_4 : decode cX5_readEntry 4 = .ok (.aload_n 0, 1) := by decide +kernel
theorem dX5_readEntry_5 : decode cX5_readEntry 5 = .ok (.getfield 19, 3) := by decide +kernel
theorem dX5_readEntry_8 : decode cX5_readEntry 8 = .ok (.if_icmp .lt 5, 3) := by decide +kernel
theorem dX5_readEntry_11 : decode cX5_readEntry 11 = .ok (.iconst 0, 1) := by decide +kernel
theorem dX5_readEntry_12 : decode cX5_readEntry 12 = .ok (.ireturn, 1) := by decide +kernel
theorem dX5_readEntry_13 : decode cX5_readEntry 13 = .ok (.aload_n 0, 1) := by decide +kernel
theorem dX5_readEntry_14 : decode cX5_readEntry 14 = .ok (.aload_n 0, 1) := by decide +kernel
theorem dX5_readEntry_15 : decode cX5_readEntry 15 = .ok (.getfield 9, 3) := by decide +kernel
theorem dX5_readEntry_18 : decode cX5_readEntry 18 = .ok (.aload_n 0, 1) := by decide +kernel
theorem dX5_readEntry_19 : decode cX5_readEntry 19 = .ok (.getfield 23, 3) := by decide +kernel
theorem dX5_readEntry_22 : decode cX5_readEntry 22 = .ok (.caload, 1) := by decide +kernel
theorem dX5_readEntry_23 : decode cX5_readEntry 23 = .ok (.putfield 33, 3) := by decide +kernel
theorem dX5_readEntry_26 : decode cX5_readEntry 26 = .ok (.aload_n 0, 1) := by decide +kernel
theorem dX5_readEntry_27 : decode cX5_readEntry 27 = .ok (.getfield 33, 3) := by decide +kernel
theorem dX5_readEntry_30 : decode cX5_readEntry 30 = .ok (.invokestatic 37, 3) := by decide +kernel
theorem dX5_readEntry_33 : decode cX5_readEntry 33 = .ok (.astore_n 1, 1) := by decide +kernel
theorem dX5_readEntry_34 : decode cX5_readEntry 34 = .ok (.aload_n 1, 1) := by decide +kernel
theorem dX5_readEntry_35 : decode cX5_readEntry 35 = .ok (.invokevirtual 41, 3) := by decide +kernel
theorem dX5_readEntry_38 : decode cX5_readEntry 38 = .ok (.ifCond .eq 5, 3) := by decide +kernel
theorem dX5_readEntry_41 : decode cX5_readEntry 41 = .ok (.iconst 0, 1) := by decide +kernel
theorem dX5_readEntry_42 : decode cX5_readEntry 42 = .ok (.ireturn, 1) := by decide +kernel
theorem dX5_readEntry_43 : decode cX5_readEntry 43 = .ok (.aload_n 0, 1) := by decide +kernel
theorem dX5_readEntry_44 : decode cX5_readEntry 44 = .ok (.dup, 1) := by decide +kernel
theorem dX5_readEntry_45 : decode cX5_readEntry 45 = .ok (.getfield 23, 3) := by decide +kernel
theorem dX5_readEntry_48 : decode cX5_readEntry 48 = .ok (.iconst 1, 1) := by decide +kernel
theorem dX5_readEntry_49 : decode cX5_readEntry 49 = .ok (.iadd, 1) := by decide +kernel
theorem dX5_readEntry_50 : decode cX5_readEntry 50 = .ok (.putfield 23, 3) := by decide +kernel
theorem dX5_readEntry_53 : decode cX5_readEntry 53 = .ok (.aload_n 0, 1) := by decide +kernel
theorem dX5_readEntry_54 : decode cX5_readEntry 54 = .ok (.iconst 0, 1) := by decide +kernel
theorem dX5_readEntry_55 : decode cX5_readEntry 55 = .ok (.putfield 46, 3) := by decide +kernel
theorem dX5_readEntry_58 : decode cX5_readEntry 58 = .ok (.iconst 0, 1) := by decide +kernel
theorem dX5_readEntry_59 : decode cX5_readEntry 59 = .ok (.istore_n 2, 1) := by decide +kernel
theorem dX5_readEntry_60 : decode cX5_readEntry 60 = .ok (.iload_n 2, 1) := by decide +kernel
theorem dX5_readEntry_61 : decode cX5_readEntry 61 = .ok (.aload_n 1, 1) := by decide +kernel
theorem dX5_readEntry_62 : decode cX5_readEntry 62 = .ok (.invokevirtual 49, 3) := by decide +kernel
theorem dX5_readEntry_65 : decode cX5_readEntry 65 = .ok (.if_icmp .ge 23, 3) := by decide +kernel
theorem dX5_readEntry_68 : decode cX5_readEntry 68 = .ok (.aload_n 0, 1) := by decide +kernel
theorem dX5_readEntry_69 : decode cX5_readEntry 69 = .ok (.aload_n 1, 1) := by decide +kernel
theorem dX5_readEntry_70 : decode cX5_readEntry 70 = .ok (.iload_n 2, 1) := by decide +kernel
theorem dX5_readEntry_71 : decode cX5_readEntry 71 = .ok (.invokevirtual 52, 3) := by decide +kernel
theorem dX5_readEntry_74 : decode cX5_readEntry 74 = .ok (.invokevirtual 56, 3) := by decide +kernel
theorem dX5_readEntry_77 : decode cX5_readEntry 77 = .ok (.ifCond .ne 5, 3) := by decide +kernel
theorem dX5_readEntry_80 : decode cX5_readEntry 80 = .ok (.iconst 0, 1) := by decide +kernel
theorem dX5_readEntry_81 : decode cX5_readEntry 81 = .ok (.ireturn, 1) := by decide +kernel
theorem dX5_readEntry_82 : decode cX5_readEntry 82 = .ok (.iinc 2 1, 3) := by decide +kernel
theorem dX5_readEntry_85 : decode cX5_readEntry 85 = .ok (.goto (-25), 3) := by decide +kernel
theorem dX5_readEntry_88 : decode cX5_readEntry 88 = .ok (.iconst 1, 1) := by decide +kernel
theorem dX5_readEntry_89 : decode cX5_readEntry 89 = .ok (.ireturn, 1) := by decide +kernel
theorem dX5_shapeOf_0 : decode cX5_shapeOf 0 = .ok (.iload_n 0, 1) := by decide +kernel
theorem dX5_shapeOf_1 : decode cX5_shapeOf 1 = .ok (.bipush 112, 2) := by decide +kernel
theorem dX5_shapeOf_3 : decode cX5_shapeOf 3 = .ok (.if_icmp .ne 6, 3) := by decide +kernel
theorem dX5_shapeOf_6 : decode cX5_shapeOf 6 = .ok (.ldc 60, 2) := by decide +kernel
theorem dX5_shapeOf_8 : decode cX5_shapeOf 8 = .ok (.areturn, 1) := by decide +kernel
theorem dX5_shapeOf_9 : decode cX5_shapeOf 9 = .ok (.iload_n 0, 1) := by decide +kernel
theorem dX5_shapeOf_10 : decode cX5_shapeOf 10 = .ok (.bipush 108, 2) := by decide +kernel
theorem dX5_shapeOf_12 : decode cX5_shapeOf 12 = .ok (.if_icmp .ne 6, 3) := by decide +kernel
theorem dX5_shapeOf_15 : decode cX5_shapeOf 15 = .ok (.ldc 62, 2) := by decide +kernel
theorem dX5_shapeOf_17 : decode cX5_shapeOf 17 = .ok (.areturn, 1) := by decide +kernel
theorem dX5_shapeOf_18 : decode cX5_shapeOf 18 = .ok (.iload_n 0, 1) := by decide +kernel
theorem dX5_shapeOf_19 : decode cX5_shapeOf 19 = .ok (.bipush 100, 2) := by decide +kernel
theorem dX5_shapeOf_21 : decode cX5_shapeOf 21 = .ok (.if_icmp .ne 6, 3) := by decide +kernel
theorem dX5_shapeOf_24 : decode cX5_shapeOf 24 = .ok (.ldc 64, 2) := by decide +kernel
theorem dX5_shapeOf_26 : decode cX5_shapeOf 26 = .ok (.areturn, 1) := by decide +kernel
theorem dX5_shapeOf_27 : decode cX5_shapeOf 27 = .ok (.iload_n 0, 1) := by decide +kernel
theorem dX5_shapeOf_28 : decode cX5_shapeOf 28 = .ok (.bipush 116, 2) := by decide +kernel
theorem dX5_shapeOf_30 : decode cX5_shapeOf 30 = .ok (.if_icmp .ne 6, 3) := by decide +kernel
theorem dX5_shapeOf_33 : decode cX5_shapeOf 33 = .ok (.ldc 66, 2) := by decide +kernel
theorem dX5_shapeOf_35 : decode cX5_shapeOf 35 = .ok (.areturn, 1) := by decide +kernel
theorem dX5_shapeOf_36 : decode cX5_shapeOf 36 = .ok (.iload_n 0, 1) := by decide +kernel
theorem dX5_shapeOf_37 : decode cX5_shapeOf 37 = .ok (.bipush 97, 2) := by decide +kernel
theorem dX5_shapeOf_39 : decode cX5_shapeOf 39 = .ok (.if_icmp .ne 8, 3) := by decide +kernel
theorem dX5_shapeOf_42 : decode cX5_shapeOf 42 = .ok (.ldc 68, 2) := by decide +kernel
theorem dX5_shapeOf_44 : decode cX5_shapeOf 44 = .ok (.goto 5, 3) := by decide +kernel
theorem dX5_shapeOf_47 : decode cX5_shapeOf 47 = .ok (.ldc 70, 2) := by decide +kernel
theorem dX5_shapeOf_49 : decode cX5_shapeOf 49 = .ok (.areturn, 1) := by decide +kernel
theorem dX5_readSign_0 : decode cX5_readSign 0 = .ok (.iload_n 1, 1) := by decide +kernel
theorem dX5_readSign_1 : decode cX5_readSign 1 = .ok (.bipush 35, 2) := by decide +kernel
theorem dX5_readSign_3 : decode cX5_readSign 3 = .ok (.if_icmp .ne 9, 3) := by decide +kernel
theorem dX5_readSign_6 : decode cX5_readSign 6 = .ok (.aload_n 0, 1) := by decide +kernel
theorem dX5_readSign_7 : decode cX5_readSign 7 = .ok (.iconst 1, 1) := by decide +kernel
theorem dX5_readSign_8 : decode cX5_readSign 8 = .ok (.invokevirtual 72, 3) := by decide +kernel
theorem dX5_readSign_11 : decode cX5_readSign 11 = .ok (.ireturn, 1) := by decide +kernel
theorem dX5_readSign_12 : decode cX5_readSign 12 = .ok (.iload_n 1, 1) := by decide +kernel
theorem dX5_readSign_13 : decode cX5_readSign 13 = .ok (.bipush 42, 2) := by decide +kernel
theorem dX5_readSign_15 : decode cX5_readSign 15 = .ok (.if_icmp .ne 9, 3) := by decide +kernel
theorem dX5_readSign_18 : decode cX5_readSign 18 = .ok (.aload_n 0, 1) := by decide +kernel
theorem dX5_readSign_19 : decode cX5_readSign 19 = .ok (.iconst 4, 1) := by decide +kernel
theorem dX5_readSign_20 : decode cX5_readSign 20 = .ok (.invokevirtual 72, 3) := by decide +kernel
theorem dX5_readSign_23 : decode cX5_readSign 23 = .ok (.ireturn, 1) := by decide +kernel
theorem dX5_readSign_24 : decode cX5_readSign 24 = .ok (.aload_n 0, 1) := by decide +kernel
theorem dX5_readSign_25 : decode cX5_readSign 25 = .ok (.getfield 23, 3) := by decide +kernel
theorem dX5_readSign_28 : decode cX5_readSign 28 = .ok (.aload_n 0, 1) := by decide +kernel
theorem dX5_readSign_29 : decode cX5_readSign 29 = .ok (.getfield 19, 3) := by decide +kernel
theorem dX5_readSign_32 : decode cX5_readSign 32 = .ok (.if_icmp .ge 16, 3) := by decide +kernel
theorem dX5_readSign_35 : decode cX5_readSign 35 = .ok (.aload_n 0, 1) := by decide +kernel
theorem dX5_readSign_36 : decode cX5_readSign 36 = .ok (.getfield 9, 3) := by decide +kernel
theorem dX5_readSign_39 : decode cX5_readSign 39 = .ok (.aload_n 0, 1) := by decide +kernel
theorem dX5_readSign_40 : decode cX5_readSign 40 = .ok (.getfield 23, 3) := by decide +kernel
theorem dX5_readSign_43 : decode cX5_readSign 43 = .ok (.caload, 1) := by decide +kernel
theorem dX5_readSign_44 : decode cX5_readSign 44 = .ok (.iload_n 1, 1) := by decide +kernel
theorem dX5_readSign_45 : decode cX5_readSign 45 = .ok (.if_icmp .eq 5, 3) := by decide +kernel
theorem dX5_readSign_48 : decode cX5_readSign 48 = .ok (.iconst 0, 1) := by decide +kernel
theorem dX5_readSign_49 : decode cX5_readSign 49 = .ok (.ireturn, 1) := by decide +kernel
theorem dX5_readSign_50 : decode cX5_readSign 50 = .ok (.aload_n 0, 1) := by decide +kernel
theorem dX5_readSign_51 : decode cX5_readSign 51 = .ok (.dup, 1) := by decide +kernel
theorem dX5_readSign_52 : decode cX5_readSign 52 = .ok (.getfield 23, 3) := by decide +kernel
theorem dX5_readSign_55 : decode cX5_readSign 55 = .ok (.iconst 1, 1) := by decide +kernel
theorem dX5_readSign_56 : decode cX5_readSign 56 = .ok (.iadd, 1) := by decide +kernel
theorem dX5_readSign_57 : decode cX5_readSign 57 = .ok (.putfield 23, 3) := by decide +kernel
theorem dX5_readSign_60 : decode cX5_readSign 60 = .ok (.iconst 1, 1) := by decide +kernel
theorem dX5_readSign_61 : decode cX5_readSign 61 = .ok (.ireturn, 1) := by decide +kernel
theorem dX5_readNumber_0 : decode cX5_readNumber 0 = .ok (.iconst 0, 1) := by decide +kernel
theorem dX5_readNumber_1 : decode cX5_readNumber 1 = .ok (.istore_n 2, 1) := by decide +kernel
theorem dX5_readNumber_2 : decode cX5_readNumber 2 = .ok (.iconst 0, 1) := by decide +kernel
theorem dX5_readNumber_3 : decode cX5_readNumber 3 = .ok (.istore_n 3, 1) := by decide +kernel
theorem dX5_readNumber_4 : decode cX5_readNumber 4 = .ok (.iload_n 3, 1) := by decide +kernel
theorem dX5_readNumber_5 : decode cX5_readNumber 5 = .ok (.iload_n 1, 1) := by decide +kernel
theorem dX5_readNumber_6 : decode cX5_readNumber 6 = .ok (.if_icmp .ge 44, 3) := by decide +kernel
theorem dX5_readNumber_9 : decode cX5_readNumber 9 = .ok (.aload_n 0, 1) := by decide +kernel
theorem dX5_readNumber_10 : decode cX5_readNumber 10 = .ok (.invokevirtual 76, 3) := by decide +kernel
theorem dX5_readNumber_13 : decode cX5_readNumber 13 = .ok (.ifCond .eq 37, 3) := by decide +kernel
theorem dX5_readNumber_16 : decode cX5_readNumber 16 = .ok (.bipush 10, 2) := by decide +kernel
theorem dX5_readNumber_18 : decode cX5_readNumber 18 = .ok (.iload_n 2, 1) := by decide +kernel
theorem dX5_readNumber_19 : decode cX5_readNumber 19 = .ok (.imul, 1) := by decide +kernel
theorem dX5_readNumber_20 : decode cX5_readNumber 20 = .ok (.aload_n 0, 1) := by decide +kernel
theorem dX5_readNumber_21 : decode cX5_readNumber 21 = .ok (.getfield 9, 3) := by decide +kernel
theorem dX5_readNumber_24 : decode cX5_readNumber 24 = .ok (.aload_n 0, 1) := by decide +kernel
theorem dX5_readNumber_25 : decode cX5_readNumber 25 = .ok (.getfield 23, 3) := by decide +kernel
theorem dX5_readNumber_28 : decode cX5_readNumber 28 = .ok (.caload, 1) := by decide +kernel
theorem dX5_readNumber_29 : decode cX5_readNumber 29 = .ok (.bipush 48, 2) := by decide +kernel
theorem dX5_readNumber_31 : decode cX5_readNumber 31 = .ok (.isub, 1) := by decide +kernel
theorem dX5_readNumber_32 : decode cX5_readNumber 32 = .ok (.iadd, 1) := by decide +kernel
theorem dX5_readNumber_33 : decode cX5_readNumber 33 = .ok (.istore_n 2, 1) := by decide +kernel
theorem dX5_readNumber_34 : decode cX5_readNumber 34 = .ok (.aload_n 0, 1) := by decide +kernel
theorem dX5_readNumber_35 : decode cX5_readNumber 35 = .ok (.dup, 1) := by decide +kernel
theorem dX5_readNumber_36 : decode cX5_readNumber 36 = .ok (.getfield 23, 3) := by decide +kernel
theorem dX5_readNumber_39 : decode cX5_readNumber 39 = .ok (.iconst 1, 1) := by decide +kernel
theorem dX5_readNumber_40 : decode cX5_readNumber 40 = .ok (.iadd, 1) := by decide +kernel
theorem dX5_readNumber_41 : decode cX5_readNumber 41 = .ok (.putfield 23, 3) := by decide +kernel
theorem dX5_readNumber_44 : decode cX5_readNumber 44 = .ok (.iinc 3 1, 3) := by decide +kernel
theorem dX5_readNumber_47 : decode cX5_readNumber 47 = .ok (.goto (-43), 3) := by decide +kernel
theorem dX5_readNumber_50 : decode cX5_readNumber 50 = .ok (.iload_n 3, 1) := by decide +kernel
theorem dX5_readNumber_51 : decode cX5_readNumber 51 = .ok (.ifCond .eq 11, 3) := by decide +kernel
theorem dX5_readNumber_54 : decode cX5_readNumber 54 = .ok (.aload_n 0, 1) := by decide +kernel
theorem dX5_readNumber_55 : decode cX5_readNumber 55 = .ok (.getfield 46, 3) := by decide +kernel
theorem dX5_readNumber_58 : decode cX5_readNumber 58 = .ok (.iconst 3, 1) := by decide +kernel
theorem dX5_readNumber_59 : decode cX5_readNumber 59 = .ok (.if_icmp .lt 5, 3) := by decide +kernel
theorem dX5_readNumber_62 : decode cX5_readNumber 62 = .ok (.iconst 0, 1) := by decide +kernel
theorem dX5_readNumber_63 : decode cX5_readNumber 63 = .ok (.ireturn, 1) := by decide +kernel
theorem dX5_readNumber_64 : decode cX5_readNumber 64 = .ok (.aload_n 0, 1) := by decide +kernel
theorem dX5_readNumber_65 : decode cX5_readNumber 65 = .ok (.getfield 15, 3) := by decide +kernel
theorem dX5_readNumber_68 : decode cX5_readNumber 68 = .ok (.aload_n 0, 1) := by decide +kernel
theorem dX5_readNumber_69 : decode cX5_readNumber 69 = .ok (.getfield 46, 3) := by decide +kernel
theorem dX5_readNumber_72 : decode cX5_readNumber 72 = .ok (.iload_n 2, 1) := by decide +kernel
theorem dX5_readNumber_73 : decode cX5_readNumber 73 = .ok (.iastore, 1) := by decide +kernel
theorem dX5_readNumber_74 : decode cX5_readNumber 74 = .ok (.aload_n 0, 1) := by decide +kernel
theorem dX5_readNumber_75 : decode cX5_readNumber 75 = .ok (.dup, 1) := by decide +kernel
theorem dX5_readNumber_76 : decode cX5_readNumber 76 = .ok (.getfield 46, 3) := by decide +kernel
theorem dX5_readNumber_79 : decode cX5_readNumber 79 = .ok (.iconst 1, 1) := by decide +kernel
theorem dX5_readNumber_80 : decode cX5_readNumber 80 = .ok (.iadd, 1) := by decide +kernel
theorem dX5_readNumber_81 : decode cX5_readNumber 81 = .ok (.putfield 46, 3) := by decide +kernel
theorem dX5_readNumber_84 : decode cX5_readNumber 84 = .ok (.iconst 1, 1) := by decide +kernel
theorem dX5_readNumber_85 : decode cX5_readNumber 85 = .ok (.ireturn, 1) := by decide +kernel
theorem dX5_isDigitNext_0 : decode cX5_isDigitNext 0 = .ok (.aload_n 0, 1) := by decide +kernel
theorem dX5_isDigitNext_1 : decode cX5_isDigitNext 1 = .ok (.getfield 23, 3) := by decide +kernel
theorem dX5_isDigitNext_4 : decode cX5_isDigitNext 4 = .ok (.aload_n 0, 1) := by decide +kernel
theorem dX5_isDigitNext_5 : decode cX5_isDigitNext 5 = .ok (.getfield 19, 3) := by decide +kernel
theorem dX5_isDigitNext_8 : decode cX5_isDigitNext 8 = .ok (.if_icmp .ge 35, 3) := by decide +kernel
theorem dX5_isDigitNext_11 : decode cX5_isDigitNext 11 = .ok (.aload_n 0, 1) := by decide +kernel
theorem dX5_isDigitNext_12 : decode cX5_isDigitNext 12 = .ok (.getfield 9, 3) := by decide +kernel
theorem dX5_isDigitNext_15 : decode cX5_isDigitNext 15 = .ok (.aload_n 0, 1) := by decide +kernel
theorem dX5_isDigitNext_16 : decode cX5_isDigitNext 16 = .ok (.getfield 23, 3) := by decide +kernel
theorem dX5_isDigitNext_19 : decode cX5_isDigitNext 19 = .ok (.caload, 1) := by decide +kernel
theorem dX5_isDigitNext_20 : decode cX5_isDigitNext 20 = .ok (.bipush 48, 2) := by decide +kernel
theorem dX5_isDigitNext_22 : decode cX5_isDigitNext 22 = .ok (.if_icmp .lt 21, 3) := by decide +kernel
theorem dX5_isDigitNext_25 : decode cX5_isDigitNext 25 = .ok (.aload_n 0, 1) := by decide +kernel
theorem dX5_isDigitNext_26 : decode cX5_isDigitNext 26 = .ok (.getfield 9, 3) := by decide +kernel
theorem dX5_isDigitNext_29 : decode cX5_isDigitNext 29 = .ok (.aload_n 0, 1) := by decide +kernel
theorem dX5_isDigitNext_30 : decode cX5_isDigitNext 30 = .ok (.getfield 23, 3) := by decide +kernel
theorem dX5_isDigitNext_33 : decode cX5_isDigitNext 33 = .ok (.caload, 1) := by decide +kernel
theorem dX5_isDigitNext_34 : decode cX5_isDigitNext 34 = .ok (.bipush 57, 2) := by decide +kernel
theorem dX5_isDigitNext_36 : decode cX5_isDigitNext 36 = .ok (.if_icmp .gt 7, 3) := by decide +kernel
theorem dX5_isDigitNext_39 : decode cX5_isDigitNext 39 = .ok (.iconst 1, 1) := by decide +kernel
theorem dX5_isDigitNext_40 : decode cX5_isDigitNext 40 = .ok (.goto 4, 3) := by decide +kernel
theorem dX5_isDigitNext_43 : decode cX5_isDigitNext 43 = .ok (.iconst 0, 1) := by decide +kernel
theorem dX5_isDigitNext_44 : decode cX5_isDigitNext 44 = .ok (.ireturn, 1) := by decide +kernel
theorem dX6_init_0 : decode cX6_init 0 = .ok (.aload_n 0, 1) := by decide +kernel
theorem dX6_init_1 : decode cX6_init 1 = .ok (.invokespecial 3, 3) := by decide +kernel
theorem dX6_init_4 : decode cX6_init 4 = .ok (.aload_n 0, 1) := by decide +kernel
theorem dX6_init_5 : decode cX6_init 5 = .ok (.new 9, 3) := by decide +kernel
theorem dX6_init_8 : decode cX6_init 8 = .ok (.dup, 1) := by decide +kernel
theorem dX6_init_9 : decode cX6_init 9 = .ok (.invokespecial 11, 3) := by decide +kernel
theorem dX6_init_12 : decode cX6_init 12 = .ok (.putfield 12, 3) := by decide +kernel
theorem dX6_init_15 : decode cX6_init 15 = .ok (.aload_n 0, 1) := by decide +kernel
theorem dX6_init_16 : decode cX6_init 16 = .ok (.new 9, 3) := by decide +kernel
theorem dX6_init_19 : decode cX6_init 19 = .ok (.dup, 1) := by decide +kernel
theorem dX6_init_20 : decode cX6_init 20 = .ok (.invokespecial 11, 3) := by decide +kernel
theorem dX6_init_23 : decode cX6_init 23 = .ok (.putfield 16, 3) := by decide +kernel
theorem dX6_init_26 : decode cX6_init 26 = .ok (.aload_n 0, 1) := by decide +kernel
theorem dX6_init_27 : decode cX6_init 27 = .ok (.new 9, 3) := by decide +kernel
theorem dX6_init_30 : decode cX6_init 30 = .ok (.dup, 1) := by decide +kernel
theorem dX6_init_31 : decode cX6_init 31 = .ok (.invokespecial 11, 3) := by decide +kernel
theorem dX6_init_34 : decode cX6_init 34 = .ok (.putfield 19, 3) := by decide +kernel
theorem dX6_init_37 : decode cX6_init 37 = .ok (.aload_n 0, 1) := by decide +kernel
theorem dX6_init_38 : decode cX6_init 38 = .ok (.new 22, 3) := by decide +kernel
theorem dX6_init_41 : decode cX6_init 41 = .ok (.dup, 1) := by decide +kernel
theorem dX6_init_42 : decode cX6_init 42 = .ok (.invokespecial 24, 3) := by decide +kernel
theorem dX6_init_45 : decode cX6_init 45 = .ok (.putfield 25, 3) := by decide +kernel
theorem dX6_init_48 : decode cX6_init 48 = .ok (.aload_n 0, 1) := by decide +kernel
theorem dX6_init_49 : decode cX6_init 49 = .ok (.new 29, 3) := by decide +kernel
theorem dX6_init_52 : decode cX6_init 52 = .ok (.dup, 1) := by decide +kernel
theorem dX6_init_53 : decode cX6_init 53 = .ok (.invokespecial 31, 3) := by decide +kernel
theorem dX6_init_56 : decode cX6_init 56 = .ok (.putfield 32, 3) := by decide +kernel
theorem dX6_init_59 : decode cX6_init 59 = .ok (.aload_n 0, 1) := by decide +kernel
theorem dX6_init_60 : decode cX6_init 60 = .ok (.new 36, 3) := by decide +kernel
theorem dX6_init_63 : decode cX6_init 63 = .ok (.dup, 1) := by decide +kernel
theorem dX6_init_64 : decode cX6_init 64 = .ok (.invokespecial 38, 3) := by decide +kernel
theorem dX6_init_67 : decode cX6_init 67 = .ok (.putfield 39, 3) := by decide +kernel
theorem dX6_init_70 : decode cX6_init 70 = .ok (.aload_n 0, 1) := by decide +kernel
theorem dX6_init_71 : decode cX6_init 71 = .ok (.new 43, 3) := by decide +kernel
theorem dX6_init_74 : decode cX6_init 74 = .ok (.dup, 1) := by decide +kernel
theorem dX6_init_75 : decode cX6_init 75 = .ok (.invokespecial 45, 3) := by decide +kernel
theorem dX6_init_78 : decode cX6_init 78 = .ok (.putfield 46, 3) := by decide +kernel
theorem dX6_init_81 : decode cX6_init 81 = .ok (.aload_n 0, 1) := by decide +kernel
theorem dX6_init_82 : decode cX6_init 82 = .ok (.sipush 1441, 3) := by decide +kernel
theorem dX6_init_85 : decode cX6_init 85 = .ok (.newarray .int, 2) := by decide +kernel
theorem dX6_init_87 : decode cX6_init 87 = .ok (.putfield 50, 3) := by decide +kernel
theorem dX6_init_90 : decode cX6_init 90 = .ok (.aload_n 0, 1) := by decide +kernel
theorem dX6_init_91 : decode cX6_init 91 = .ok (.iconst 0, 1) := by decide +kernel
theorem dX6_init_92 : decode cX6_init 92 = .ok (.putfield 54, 3) := by decide +kernel
theorem dX6_init_95 : decode cX6_init 95 = .ok (.aload_n 0, 1) := by decide +kernel
theorem dX6_init_96 : decode cX6_init 96 = .ok (.iconst 0, 1) := by decide +kernel
theorem dX6_init_97 : decode cX6_init 97 = .ok (.putfield 58, 3) := by decide +kernel
theorem dX6_init_100 : decode cX6_init 100 = .ok (.aload_n 0, 1) := by decide +kernel
theorem dX6_init_101 : decode cX6_init 101 = .ok (.iconst (-1), 1) := by decide +kernel
theorem dX6_init_102 : decode cX6_init 102 = .ok (.putfield 62, 3) := by decide +kernel
theorem dX6_init_105 : decode cX6_init 105 = .ok (.return_, 1) := by decide +kernel
theorem dX6_clear_0 : decode cX6_clear 0 = .ok (.aload_n 0, 1) := by decide +kernel
theorem dX6_clear_1 : decode cX6_clear 1 = .ok (.getfield 12, 3) := by decide +kernel
theorem dX6_clear_4 : decode cX6_clear 4 = .ok (.getfield 65, 3) := by decide +kernel
theorem dX6_clear_7 : decode cX6_clear 7 = .ok (.istore_n 1, 1) := by decide +kernel
theorem dX6_clear_8 : decode cX6_clear 8 = .ok (.aload_n 0, 1) := by decide +kernel
theorem dX6_clear_9 : decode cX6_clear 9 = .ok (.getfield 12, 3) := by decide +kernel
theorem dX6_clear_12 : decode cX6_clear 12 = .ok (.invokevirtual 68, 3) := by decide +kernel
theorem dX6_clear_15 : decode cX6_clear 15 = .ok (.aload_n 0, 1) := by decide +kernel
theorem dX6_clear_16 : decode cX6_clear 16 = .ok (.getfield 25, 3) := by decide +kernel
theorem dX6_clear_19 : decode cX6_clear 19 = .ok (.invokevirtual 71, 3) := by decide +kernel
theorem dX6_clear_22 : decode cX6_clear 22 = .ok (.iload_n 1, 1) := by decide +kernel
theorem dX6_clear_23 : decode cX6_clear 23 = .ok (.ireturn, 1) := by decide +kernel
theorem dX6_addStand_0 : decode cX6_addStand 0 = .ok (.iload_n 1, 1) := by decide +kernel
theorem dX6_addStand_1 : decode cX6_addStand 1 = .ok (.ifCond .lt 17, 3) := by decide +kernel
theorem dX6_addStand_4 : decode cX6_addStand 4 = .ok (.iload_n 1, 1) := by decide +kernel
theorem dX6_addStand_5 : decode cX6_addStand 5 = .ok (.iconst 2, 1) := by decide +kernel
theorem dX6_addStand_6 : decode cX6_addStand 6 = .ok (.if_icmp .gt 12, 3) := by decide +kernel
theorem dX6_addStand_9 : decode cX6_addStand 9 = .ok (.iload_n 2, 1) := by decide +kernel
theorem dX6_addStand_10 : decode cX6_addStand 10 = .ok (.ifCond .lt 8, 3) := by decide +kernel
theorem dX6_addStand_13 : decode cX6_addStand 13 = .ok (.iload_n 2, 1) := by decide +kernel
theorem dX6_addStand_14 : decode cX6_addStand 14 = .ok (.iconst 3, 1) := by decide +kernel
theorem dX6_addStand_15 : decode cX6_addStand 15 = .ok (.if_icmp .le 13, 3) := by decide +kernel
theorem dX6_addStand_18 : decode cX6_addStand 18 = .ok (.new 74, 3) := by decide +kernel
theorem dX6_addStand_21 : decode cX6_addStand 21 = .ok (.dup, 1) := by decide +kernel
theorem dX6_addStand_22 : decode cX6_addStand 22 = .ok (.ldc 76, 2) := by decide +kernel
theorem dX6_addStand_24 : decode cX6_addStand 24 = .ok (.invokespecial 78, 3) := by decide +kernel
theorem dX6_addStand_27 : decode cX6_addStand 27 = .ok (.athrow, 1) := by decide +kernel
theorem dX6_addStand_28 : decode cX6_addStand 28 = .ok (.aload_n 0, 1) := by decide +kernel
theorem dX6_addStand_29 : decode cX6_addStand 29 = .ok (.getfield 12, 3) := by decide +kernel
theorem dX6_addStand_32 : decode cX6_addStand 32 = .ok (.getfield 81, 3) := by decide +kernel
theorem dX6_addStand_35 : decode cX6_addStand 35 = .ok (.bipush 8, 2) := by decide +kernel
theorem dX6_addStand_37 : decode cX6_addStand 37 = .ok (.if_icmp .lt 13, 3) := by decide +kernel
theorem dX6_addStand_40 : decode cX6_addStand 40 = .ok (.new 84, 3) := by decide +kernel
theorem dX6_addStand_43 : decode cX6_addStand 43 = .ok (.dup, 1) := by decide +kernel
theorem dX6_addStand_44 : decode cX6_addStand 44 = .ok (.ldc 86, 2) := by decide +kernel
theorem dX6_addStand_46 : decode cX6_addStand 46 = .ok (.invokespecial 88, 3) := by decide +kernel
theorem dX6_addStand_49 : decode cX6_addStand 49 = .ok (.athrow, 1) := by decide +kernel
theorem dX6_addStand_50 : decode cX6_addStand 50 = .ok (.aload_n 0, 1) := by decide +kernel
theorem dX6_addStand_51 : decode cX6_addStand 51 = .ok (.getfield 25, 3) := by decide +kernel
theorem dX6_addStand_54 : decode cX6_addStand 54 = .ok (.aload_n 0, 1) := by decide +kernel
theorem dX6_addStand_55 : decode cX6_addStand 55 = .ok (.getfield 12, 3) := by decide +kernel
theorem dX6_addStand_58 : decode cX6_addStand 58 = .ok (.invokevirtual 89, 3) := by decide +kernel
theorem dX6_addStand_61 : decode cX6_addStand 61 = .ok (.aload_n 0, 1) := by decide +kernel
theorem dX6_addStand_62 : decode cX6_addStand 62 = .ok (.getfield 12, 3) := by decide +kernel
theorem dX6_addStand_65 : decode cX6_addStand 65 = .ok (.iload_n 1, 1) := by decide +kernel
theorem dX6_addStand_66 : decode cX6_addStand 66 = .ok (.iload_n 2, 1) := by decide +kernel
theorem dX6_addStand_67 : decode cX6_addStand 67 = .ok (.invokevirtual 93, 3) := by decide +kernel
theorem dX6_addStand_70 : decode cX6_addStand 70 = .ok (.ireturn, 1) := by decide +kernel
theorem dX6_pair_0 : decode cX6_pair 0 = .ok (.aload_n 0, 1) := by decide +kernel
theorem dX6_pair_1 : decode cX6_pair 1 = .ok (.getfield 12, 3) := by decide +kernel
theorem dX6_pair_4 : decode cX6_pair 4 = .ok (.iload_n 1, 1) := by decide +kernel
theorem dX6_pair_5 : decode cX6_pair 5 = .ok (.invokevirtual 97, 3) := by decide +kernel
theorem dX6_pair_8 : decode cX6_pair 8 = .ok (.ifCond .eq 14, 3) := by decide +kernel
theorem dX6_pair_11 : decode cX6_pair 11 = .ok (.aload_n 0, 1) := by decide +kernel
theorem dX6_pair_12 : decode cX6_pair 12 = .ok (.getfield 12, 3) := by decide +kernel
theorem dX6_pair_15 : decode cX6_pair 15 = .ok (.iload_n 2, 1) := by decide +kernel
theorem dX6_pair_16 : decode cX6_pair 16 = .ok (.invokevirtual 97, 3) := by decide +kernel
theorem dX6_pair_19 : decode cX6_pair 19 = .ok (.ifCond .ne 13, 3) := by decide +kernel
theorem dX6_pair_22 : decode cX6_pair 22 = .ok (.new 101, 3) := by decide +kernel
theorem dX6_pair_25 : decode cX6_pair 25 = .ok (.dup, 1) := by decide +kernel
theorem dX6_pair_26 : decode cX6_pair 26 = .ok (.ldc 103, 2) := by decide +kernel
theorem dX6_pair_28 : decode cX6_pair 28 = .ok (.invokespecial 105, 3) := by decide +kernel
theorem dX6_pair_31 : decode cX6_pair 31 = .ok (.athrow, 1) := by decide +kernel
theorem dX6_pair_32 : decode cX6_pair 32 = .ok (.iload_n 1, 1) := by decide +kernel
theorem dX6_pair_33 : decode cX6_pair 33 = .ok (.iload_n 2, 1) := by decide +kernel
theorem dX6_pair_34 : decode cX6_pair 34 = .ok (.if_icmp .eq 14, 3) := by decide +kernel
theorem dX6_pair_37 : decode cX6_pair 37 = .ok (.iload_n 3, 1) := by decide +kernel
theorem dX6_pair_38 : decode cX6_pair 38 = .ok (.iconst (-1), 1) := by decide +kernel
theorem dX6_pair_39 : decode cX6_pair 39 = .ok (.if_icmp .lt 9, 3) := by decide +kernel
theorem dX6_pair_42 : decode cX6_pair 42 = .ok (.iload_n 3, 1) := by decide +kernel
theorem dX6_pair_43 : decode cX6_pair 43 = .ok (.bipush 6, 2) := by decide +kernel
theorem dX6_pair_45 : decode cX6_pair 45 = .ok (.if_icmp .le 13, 3) := by decide +kernel
theorem dX6_pair_48 : decode cX6_pair 48 = .ok (.new 74, 3) := by decide +kernel
theorem dX6_pair_51 : decode cX6_pair 51 = .ok (.dup, 1) := by decide +kernel
theorem dX6_pair_52 : decode cX6_pair 52 = .ok (.ldc 106, 2) := by decide +kernel
theorem dX6_pair_54 : decode cX6_pair 54 = .ok (.invokespecial 78, 3) := by decide +kernel
theorem dX6_pair_57 : decode cX6_pair 57 = .ok (.athrow, 1) := by decide +kernel
theorem dX6_pair_58 : decode cX6_pair 58 = .ok (.aload_n 0, 1) := by decide +kernel
theorem dX6_pair_59 : decode cX6_pair 59 = .ok (.getfield 25, 3) := by decide +kernel
theorem dX6_pair_62 : decode cX6_pair 62 = .ok (.aload_n 0, 1) := by decide +kernel
theorem dX6_pair_63 : decode cX6_pair 63 = .ok (.getfield 12, 3) := by decide +kernel
theorem dX6_pair_66 : decode cX6_pair 66 = .ok (.invokevirtual 89, 3) := by decide +kernel
theorem dX6_pair_69 : decode cX6_pair 69 = .ok (.aload_n 0, 1) := by decide +kernel
theorem dX6_pair_70 : decode cX6_pair 70 = .ok (.getfield 12, 3) := by decide +kernel
theorem dX6_pair_73 : decode cX6_pair 73 = .ok (.iload_n 1, 1) := by decide +kernel
theorem dX6_pair_74 : decode cX6_pair 74 = .ok (.iload_n 2, 1) := by decide +kernel
theorem dX6_pair_75 : decode cX6_pair 75 = .ok (.iload_n 3, 1) := by decide +kernel
theorem dX6_pair_76 : decode cX6_pair 76 = .ok (.invokevirtual 108, 3) := by decide +kernel
theorem dX6_pair_79 : decode cX6_pair 79 = .ok (.ireturn, 1) := by decide +kernel
theorem dX6_setOpen_0 : decode cX6_setOpen 0 = .ok (.aload_n 0, 1) := by decide +kernel
theorem dX6_setOpen_1 : decode cX6_setOpen 1 = .ok (.getfield 12, 3) := by decide +kernel
theorem dX6_setOpen_4 : decode cX6_setOpen 4 = .ok (.iload_n 1, 1) := by decide +kernel
theorem dX6_setOpen_5 : decode cX6_setOpen 5 = .ok (.invokevirtual 97, 3) := by decide +kernel
theorem dX6_setOpen_8 : decode cX6_setOpen 8 = .ok (.ifCond .ne 13, 3) := by decide +kernel
theorem dX6_setOpen_11 : decode cX6_setOpen 11 = .ok (.new 101, 3) := by decide +kernel
theorem dX6_setOpen_14 : decode cX6_setOpen 14 = .ok (.dup, 1) := by decide +kernel
theorem dX6_setOpen_15 : decode cX6_setOpen 15 = .ok (.ldc 103, 2) := by decide +kernel
theorem dX6_setOpen_17 : decode cX6_setOpen 17 = .ok (.invokespecial 105, 3) := by decide +kernel
theorem dX6_setOpen_20 : decode cX6_setOpen 20 = .ok (.athrow, 1) := by decide +kernel
theorem dX6_setOpen_21 : decode cX6_setOpen 21 = .ok (.aload_n 0, 1) := by decide +kernel
theorem dX6_setOpen_22 : decode cX6_setOpen 22 = .ok (.getfield 25, 3) := by decide +kernel
theorem dX6_setOpen_25 : decode cX6_setOpen 25 = .ok (.aload_n 0, 1) := by decide +kernel
theorem dX6_setOpen_26 : decode cX6_setOpen 26 = .ok (.getfield 12, 3) := by decide +kernel
theorem dX6_setOpen_29 : decode cX6_setOpen 29 = .ok (.invokevirtual 89, 3) := by decide +kernel
theorem dX6_setOpen_32 : decode cX6_setOpen 32 = .ok (.aload_n 0, 1) := by decide +kernel
theorem dX6_setOpen_33 : decode cX6_setOpen 33 = .ok (.getfield 12, 3) := by decide +kernel
theorem dX6_setOpen_36 : decode cX6_setOpen 36 = .ok (.iload_n 1, 1) := by decide +kernel
theorem dX6_setOpen_37 : decode cX6_setOpen 37 = .ok (.iload_n 2, 1) := by decide +kernel
theorem dX6_setOpen_38 : decode cX6_setOpen 38 = .ok (.invokevirtual 112, 3) := by decide +kernel
theorem dX6_setOpen_41 : decode cX6_setOpen 41 = .ok (.ireturn, 1) := by decide +kernel
theorem dX6_setBuffer_0 : decode cX6_setBuffer 0 = .ok (.iload_n 1, 1) := by decide +kernel
theorem dX6_setBuffer_1 : decode cX6_setBuffer 1 = .ok (.ifCond .lt 9, 3) := by decide +kernel
theorem dX6_setBuffer_4 : decode cX6_setBuffer 4 = .ok (.iload_n 1, 1) := by decide +kernel
theorem dX6_setBuffer_5 : decode cX6_setBuffer 5 = .ok (.bipush 60, 2) := by decide +kernel
theorem dX6_setBuffer_7 : decode cX6_setBuffer 7 = .ok (.if_icmp .le 13, 3) := by decide +kernel
theorem dX6_setBuffer_10 : decode cX6_setBuffer 10 = .ok (.new 74, 3) := by decide +kernel
theorem dX6_setBuffer_13 : decode cX6_setBuffer 13 = .ok (.dup, 1) := by decide +kernel
theorem dX6_setBuffer_14 : decode cX6_setBuffer 14 = .ok (.ldc 116, 2) := by decide +kernel
theorem dX6_setBuffer_16 : decode cX6_setBuffer 16 = .ok (.invokespecial 78, 3) := by decide +kernel
theorem dX6_setBuffer_19 : decode cX6_setBuffer 19 = .ok (.athrow, 1) := by decide +kernel
theorem dX6_setBuffer_20 : decode cX6_setBuffer 20 = .ok (.aload_n 0, 1) := by decide +kernel
theorem dX6_setBuffer_21 : decode cX6_setBuffer 21 = .ok (.getfield 25, 3) := by decide +kernel
theorem dX6_setBuffer_24 : decode cX6_setBuffer 24 = .ok (.aload_n 0, 1) := by decide +kernel
theorem dX6_setBuffer_25 : decode cX6_setBuffer 25 = .ok (.getfield 12, 3) := by decide +kernel
theorem dX6_setBuffer_28 : decode cX6_setBuffer 28 = .ok (.invokevirtual 89, 3) := by decide +kernel
theorem dX6_setBuffer_31 : decode cX6_setBuffer 31 = .ok (.aload_n 0, 1) := by decide +kernel
theorem dX6_setBuffer_32 : decode cX6_setBuffer 32 = .ok (.getfield 12, 3) := by decide +kernel
theorem dX6_setBuffer_35 : decode cX6_setBuffer 35 = .ok (.getfield 118, 3) := by decide +kernel
theorem dX6_setBuffer_38 : decode cX6_setBuffer 38 = .ok (.istore_n 2, 1) := by decide +kernel
theorem dX6_setBuffer_39 : decode cX6_setBuffer 39 = .ok (.aload_n 0, 1) := by decide +kernel
theorem dX6_setBuffer_40 : decode cX6_setBuffer 40 = .ok (.getfield 12, 3) := by decide +kernel
theorem dX6_setBuffer_43 : decode cX6_setBuffer 43 = .ok (.iload_n 1, 1) := by decide +kernel
theorem dX6_setBuffer_44 : decode cX6_setBuffer 44 = .ok (.putfield 118, 3) := by decide +kernel
theorem dX6_setBuffer_47 : decode cX6_setBuffer 47 = .ok (.iload_n 2, 1) := by decide +kernel
theorem dX6_setBuffer_48 : decode cX6_setBuffer 48 = .ok (.ireturn, 1) := by decide +kernel
theorem dX6_stand_0 : decode cX6_stand 0 = .ok (.aload_n 0, 1) := by decide +kernel
theorem dX6_stand_1 : decode cX6_stand 1 = .ok (.getfield 12, 3) := by decide +kernel
theorem dX6_stand_4 : decode cX6_stand 4 = .ok (.iload_n 1, 1) := by decide +kernel
theorem dX6_stand_5 : decode cX6_stand 5 = .ok (.invokevirtual 97, 3) := by decide +kernel
theorem dX6_stand_8 : decode cX6_stand 8 = .ok (.ifCond .ne 13, 3) := by decide +kernel
theorem dX6_stand_11 : decode cX6_stand 11 = .ok (.new 101, 3) := by decide +kernel
theorem dX6_stand_14 : decode cX6_stand 14 = .ok (.dup, 1) := by decide +kernel
theorem dX6_stand_15 : decode cX6_stand 15 = .ok (.ldc 103, 2) := by decide +kernel
theorem dX6_stand_17 : decode cX6_stand 17 = .ok (.invokespecial 105, 3) := by decide +kernel
theorem dX6_stand_20 : decode cX6_stand 20 = .ok (.athrow, 1) := by decide +kernel
theorem dX6_stand_21 : decode cX6_stand 21 = .ok (.iload_n 2, 1) := by decide +kernel
theorem dX6_stand_22 : decode cX6_stand 22 = .ok (.tableswitch 125 0 6 #[42, 52, 62, 79, 88, 100, 116], 42) := by decide +kernel
theorem dX6_stand_64 : decode cX6_stand 64 = .ok (.aload_n 0, 1) := by decide +kernel
theorem dX6_stand_65 : decode cX6_stand 65 = .ok (.getfield 12, 3) := by decide +kernel
theorem dX6_stand_68 : decode cX6_stand 68 = .ok (.getfield 121, 3) := by decide +kernel
theorem dX6_stand_71 : decode cX6_stand 71 = .ok (.iload_n 1, 1) := by decide +kernel
theorem dX6_stand_72 : decode cX6_stand 72 = .ok (.iaload, 1) := by decide +kernel
theorem dX6_stand_73 : decode cX6_stand 73 = .ok (.ireturn, 1) := by decide +kernel
theorem dX6_stand_74 : decode cX6_stand 74 = .ok (.aload_n 0, 1) := by decide +kernel
theorem dX6_stand_75 : decode cX6_stand 75 = .ok (.getfield 12, 3) := by decide +kernel
theorem dX6_stand_78 : decode cX6_stand 78 = .ok (.getfield 124, 3) := by decide +kernel
theorem dX6_stand_81 : decode cX6_stand 81 = .ok (.iload_n 1, 1) := by decide +kernel
theorem dX6_stand_82 : decode cX6_stand 82 = .ok (.iaload, 1) := by decide +kernel
theorem dX6_stand_83 : decode cX6_stand 83 = .ok (.ireturn, 1) := by decide +kernel
theorem dX6_stand_84 : decode cX6_stand 84 = .ok (.aload_n 0, 1) := by decide +kernel
theorem dX6_stand_85 : decode cX6_stand 85 = .ok (.getfield 12, 3) := by decide +kernel
theorem dX6_stand_88 : decode cX6_stand 88 = .ok (.iload_n 1, 1) := by decide +kernel
theorem dX6_stand_89 : decode cX6_stand 89 = .ok (.invokevirtual 127, 3) := by decide +kernel
theorem dX6_stand_92 : decode cX6_stand 92 = .ok (.ifCond .eq 7, 3) := by decide +kernel
theorem dX6_stand_95 : decode cX6_stand 95 = .ok (.iconst 1, 1) := by decide +kernel
theorem dX6_stand_96 : decode cX6_stand 96 = .ok (.goto 4, 3) := by decide +kernel
theorem dX6_stand_99 : decode cX6_stand 99 = .ok (.iconst 0, 1) := by decide +kernel
theorem dX6_stand_100 : decode cX6_stand 100 = .ok (.ireturn, 1) := by decide +kernel
theorem dX6_stand_101 : decode cX6_stand 101 = .ok (.aload_n 0, 1) := by decide +kernel
theorem dX6_stand_102 : decode cX6_stand 102 = .ok (.getfield 12, 3) := by decide +kernel
theorem dX6_stand_105 : decode cX6_stand 105 = .ok (.iload_n 1, 1) := by decide +kernel
theorem dX6_stand_106 : decode cX6_stand 106 = .ok (.invokevirtual 130, 3) := by decide +kernel
theorem dX6_stand_109 : decode cX6_stand 109 = .ok (.ireturn, 1) := by decide +kernel
theorem dX6_stand_110 : decode cX6_stand 110 = .ok (.aload_n 0, 1) := by decide +kernel
theorem dX6_stand_111 : decode cX6_stand 111 = .ok (.getfield 12, 3) := by decide +kernel
theorem dX6_stand_114 : decode cX6_stand 114 = .ok (.iload_n 1, 1) := by decide +kernel
theorem dX6_stand_115 : decode cX6_stand 115 = .ok (.invokevirtual 134, 3) := by decide +kernel
theorem dX6_stand_118 : decode cX6_stand 118 = .ok (.invokestatic 137, 3) := by decide +kernel
theorem dX6_stand_121 : decode cX6_stand 121 = .ok (.ireturn, 1) := by decide +kernel
theorem dX6_stand_122 : decode cX6_stand 122 = .ok (.aload_n 0, 1) := by decide +kernel
theorem dX6_stand_123 : decode cX6_stand 123 = .ok (.getfield 12, 3) := by decide +kernel
theorem dX6_stand_126 : decode cX6_stand 126 = .ok (.aload_n 0, 1) := by decide +kernel
theorem dX6_stand_127 : decode cX6_stand 127 = .ok (.getfield 12, 3) := by decide +kernel
theorem dX6_stand_130 : decode cX6_stand 130 = .ok (.iload_n 1, 1) := by decide +kernel
theorem dX6_stand_131 : decode cX6_stand 131 = .ok (.invokevirtual 134, 3) := by decide +kernel
theorem dX6_stand_134 : decode cX6_stand 134 = .ok (.invokevirtual 142, 3) := by decide +kernel
theorem dX6_stand_137 : decode cX6_stand 137 = .ok (.ireturn, 1) := by decide +kernel
theorem dX6_stand_138 : decode cX6_stand 138 = .ok (.aload_n 0, 1) := by decide +kernel
theorem dX6_stand_139 : decode cX6_stand 139 = .ok (.getfield 12, 3) := by decide +kernel
theorem dX6_stand_142 : decode cX6_stand 142 = .ok (.iload_n 1, 1) := by decide +kernel
theorem dX6_stand_143 : decode cX6_stand 143 = .ok (.invokevirtual 145, 3) := by decide +kernel
theorem dX6_stand_146 : decode cX6_stand 146 = .ok (.ireturn, 1) := by decide +kernel
theorem dX6_stand_147 : decode cX6_stand 147 = .ok (.new 74, 3) := by decide +kernel
theorem dX6_stand_150 : decode cX6_stand 150 = .ok (.dup, 1) := by decide +kernel
theorem dX6_stand_151 : decode cX6_stand 151 = .ok (.ldc 148, 2) := by decide +kernel
theorem dX6_stand_153 : decode cX6_stand 153 = .ok (.invokespecial 78, 3) := by decide +kernel
theorem dX6_stand_156 : decode cX6_stand 156 = .ok (.athrow, 1) := by decide +kernel
theorem dX6_at_0 : decode cX6_at 0 = .ok (.aload_n 0, 1) := by decide +kernel
theorem dX6_at_1 : decode cX6_at 1 = .ok (.getfield 12, 3) := by decide +kernel
theorem dX6_at_4 : decode cX6_at 4 = .ok (.iload_n 1, 1) := by decide +kernel
theorem dX6_at_5 : decode cX6_at 5 = .ok (.invokevirtual 97, 3) := by decide +kernel
theorem dX6_at_8 : decode cX6_at 8 = .ok (.ifCond .ne 13, 3) := by decide +kernel
theorem dX6_at_11 : decode cX6_at 11 = .ok (.new 101, 3) := by decide +kernel
theorem dX6_at_14 : decode cX6_at 14 = .ok (.dup, 1) := by decide +kernel
theorem dX6_at_15 : decode cX6_at 15 = .ok (.ldc 103, 2) := by decide +kernel
theorem dX6_at_17 : decode cX6_at 17 = .ok (.invokespecial 105, 3) := by decide +kernel
theorem dX6_at_20 : decode cX6_at 20 = .ok (.athrow, 1) := by decide +kernel
theorem dX6_at_21 : decode cX6_at 21 = .ok (.iload_n 2, 1) := by decide +kernel
theorem dX6_at_22 : decode cX6_at 22 = .ok (.ifCond .lt 10, 3) := by decide +kernel
theorem dX6_at_25 : decode cX6_at 25 = .ok (.iload_n 2, 1) := by decide +kernel
theorem dX6_at_26 : decode cX6_at 26 = .ok (.sipush 1440, 3) := by decide +kernel
theorem dX6_at_29 : decode cX6_at 29 = .ok (.if_icmp .le 13, 3) := by decide +kernel
theorem dX6_at_32 : decode cX6_at 32 = .ok (.new 74, 3) := by decide +kernel
theorem dX6_at_35 : decode cX6_at 35 = .ok (.dup, 1) := by decide +kernel
theorem dX6_at_36 : decode cX6_at 36 = .ok (.ldc 150, 2) := by decide +kernel
theorem dX6_at_38 : decode cX6_at 38 = .ok (.invokespecial 78, 3) := by decide +kernel
theorem dX6_at_41 : decode cX6_at 41 = .ok (.athrow, 1) := by decide +kernel
theorem dX6_at_42 : decode cX6_at 42 = .ok (.aload_n 0, 1) := by decide +kernel
theorem dX6_at_43 : decode cX6_at 43 = .ok (.getfield 12, 3) := by decide +kernel
theorem dX6_at_46 : decode cX6_at 46 = .ok (.iload_n 1, 1) := by decide +kernel
theorem dX6_at_47 : decode cX6_at 47 = .ok (.iload_n 2, 1) := by decide +kernel
theorem dX6_at_48 : decode cX6_at 48 = .ok (.invokevirtual 152, 3) := by decide +kernel
theorem dX6_at_51 : decode cX6_at 51 = .ok (.istore_n 3, 1) := by decide +kernel
theorem dX6_at_52 : decode cX6_at 52 = .ok (.iload_n 3, 1) := by decide +kernel
theorem dX6_at_53 : decode cX6_at 53 = .ok (.ifCond .ge 13, 3) := by decide +kernel
theorem dX6_at_56 : decode cX6_at 56 = .ok (.new 155, 3) := by decide +kernel
theorem dX6_at_59 : decode cX6_at 59 = .ok (.dup, 1) := by decide +kernel
theorem dX6_at_60 : decode cX6_at 60 = .ok (.ldc 157, 2) := by decide +kernel
theorem dX6_at_62 : decode cX6_at 62 = .ok (.invokespecial 159, 3) := by decide +kernel
theorem dX6_at_65 : decode cX6_at 65 = .ok (.athrow, 1) := by decide +kernel
theorem dX6_at_66 : decode cX6_at 66 = .ok (.iload_n 3, 1) := by decide +kernel
theorem dX6_at_67 : decode cX6_at 67 = .ok (.ireturn, 1) := by decide +kernel
theorem dX6_gap_0 : decode cX6_gap 0 = .ok (.aload_n 0, 1) := by decide +kernel
theorem dX6_gap_1 : decode cX6_gap 1 = .ok (.getfield 12, 3) := by decide +kernel
theorem dX6_gap_4 : decode cX6_gap 4 = .ok (.iload_n 1, 1) := by decide +kernel
theorem dX6_gap_5 : decode cX6_gap 5 = .ok (.invokevirtual 97, 3) := by decide +kernel
theorem dX6_gap_8 : decode cX6_gap 8 = .ok (.ifCond .ne 13, 3) := by decide +kernel
theorem dX6_gap_11 : decode cX6_gap 11 = .ok (.new 101, 3) := by decide +kernel
theorem dX6_gap_14 : decode cX6_gap 14 = .ok (.dup, 1) := by decide +kernel
theorem dX6_gap_15 : decode cX6_gap 15 = .ok (.ldc 103, 2) := by decide +kernel
theorem dX6_gap_17 : decode cX6_gap 17 = .ok (.invokespecial 105, 3) := by decide +kernel
theorem dX6_gap_20 : decode cX6_gap 20 = .ok (.athrow, 1) := by decide +kernel
theorem dX6_gap_21 : decode cX6_gap 21 = .ok (.iload_n 2, 1) := by decide +kernel
theorem dX6_gap_22 : decode cX6_gap 22 = .ok (.ifCond .lt 10, 3) := by decide +kernel
theorem dX6_gap_25 : decode cX6_gap 25 = .ok (.iload_n 2, 1) := by decide +kernel
theorem dX6_gap_26 : decode cX6_gap 26 = .ok (.sipush 1440, 3) := by decide +kernel
theorem dX6_gap_29 : decode cX6_gap 29 = .ok (.if_icmp .le 13, 3) := by decide +kernel
theorem dX6_gap_32 : decode cX6_gap 32 = .ok (.new 74, 3) := by decide +kernel
theorem dX6_gap_35 : decode cX6_gap 35 = .ok (.dup, 1) := by decide +kernel
theorem dX6_gap_36 : decode cX6_gap 36 = .ok (.ldc 150, 2) := by decide +kernel
theorem dX6_gap_38 : decode cX6_gap 38 = .ok (.invokespecial 78, 3) := by decide +kernel
theorem dX6_gap_41 : decode cX6_gap 41 = .ok (.athrow, 1) := by decide +kernel
theorem dX6_gap_42 : decode cX6_gap 42 = .ok (.aload_n 0, 1) := by decide +kernel
theorem dX6_gap_43 : decode cX6_gap 43 = .ok (.getfield 12, 3) := by decide +kernel
theorem dX6_gap_46 : decode cX6_gap 46 = .ok (.iload_n 1, 1) := by decide +kernel
theorem dX6_gap_47 : decode cX6_gap 47 = .ok (.iload_n 2, 1) := by decide +kernel
theorem dX6_gap_48 : decode cX6_gap 48 = .ok (.invokevirtual 160, 3) := by decide +kernel
theorem dX6_gap_51 : decode cX6_gap 51 = .ok (.ireturn, 1) := by decide +kernel
theorem dX6_addTurn_0 : decode cX6_addTurn 0 = .ok (.iload_n 1, 1) := by decide +kernel
theorem dX6_addTurn_1 : decode cX6_addTurn 1 = .ok (.ifCond .lt 21, 3) := by decide +kernel
theorem dX6_addTurn_4 : decode cX6_addTurn 4 = .ok (.iload_n 1, 1) := by decide +kernel
theorem dX6_addTurn_5 : decode cX6_addTurn 5 = .ok (.iconst 3, 1) := by decide +kernel
theorem dX6_addTurn_6 : decode cX6_addTurn 6 = .ok (.if_icmp .gt 16, 3) := by decide +kernel
theorem dX6_addTurn_9 : decode cX6_addTurn 9 = .ok (.iload 4, 2) := by decide +kernel
theorem dX6_addTurn_11 : decode cX6_addTurn 11 = .ok (.iconst 1, 1) := by decide +kernel
theorem dX6_addTurn_12 : decode cX6_addTurn 12 = .ok (.if_icmp .lt 10, 3) := by decide +kernel
theorem dX6_addTurn_15 : decode cX6_addTurn 15 = .ok (.iload 4, 2) := by decide +kernel
theorem dX6_addTurn_17 : decode cX6_addTurn 17 = .ok (.bipush 9, 2) := by decide +kernel
theorem dX6_addTurn_19 : decode cX6_addTurn 19 = .ok (.if_icmp .le 13, 3) := by decide +kernel
theorem dX6_addTurn_22 : decode cX6_addTurn 22 = .ok (.new 74, 3) := by decide +kernel
theorem dX6_addTurn_25 : decode cX6_addTurn 25 = .ok (.dup, 1) := by decide +kernel
theorem dX6_addTurn_26 : decode cX6_addTurn 26 = .ok (.ldc 163, 2) := by decide +kernel
theorem dX6_addTurn_28 : decode cX6_addTurn 28 = .ok (.invokespecial 78, 3) := by decide +kernel
theorem dX6_addTurn_31 : decode cX6_addTurn 31 = .ok (.athrow, 1) := by decide +kernel
theorem dX6_addTurn_32 : decode cX6_addTurn 32 = .ok (.iload_n 2, 1) := by decide +kernel
theorem dX6_addTurn_33 : decode cX6_addTurn 33 = .ok (.ifCond .lt 21, 3) := by decide +kernel
theorem dX6_addTurn_36 : decode cX6_addTurn 36 = .ok (.iload_n 2, 1) := by decide +kernel
theorem dX6_addTurn_37 : decode cX6_addTurn 37 = .ok (.sipush 1440, 3) := by decide +kernel
theorem dX6_addTurn_40 : decode cX6_addTurn 40 = .ok (.if_icmp .gt 14, 3) := by decide +kernel
theorem dX6_addTurn_43 : decode cX6_addTurn 43 = .ok (.iload_n 3, 1) := by decide +kernel
theorem dX6_addTurn_44 : decode cX6_addTurn 44 = .ok (.ifCond .lt 10, 3) := by decide +kernel
theorem dX6_addTurn_47 : decode cX6_addTurn 47 = .ok (.iload_n 3, 1) := by decide +kernel
theorem dX6_addTurn_48 : decode cX6_addTurn 48 = .ok (.sipush 1440, 3) := by decide +kernel
theorem dX6_addTurn_51 : decode cX6_addTurn 51 = .ok (.if_icmp .le 13, 3) := by decide +kernel
theorem dX6_addTurn_54 : decode cX6_addTurn 54 = .ok (.new 74, 3) := by decide +kernel
theorem dX6_addTurn_57 : decode cX6_addTurn 57 = .ok (.dup, 1) := by decide +kernel
theorem dX6_addTurn_58 : decode cX6_addTurn 58 = .ok (.ldc 150, 2) := by decide +kernel
theorem dX6_addTurn_60 : decode cX6_addTurn 60 = .ok (.invokespecial 78, 3) := by decide +kernel
theorem dX6_addTurn_63 : decode cX6_addTurn 63 = .ok (.athrow, 1) := by decide +kernel
theorem dX6_addTurn_64 : decode cX6_addTurn 64 = .ok (.iload_n 3, 1) := by decide +kernel
theorem dX6_addTurn_65 : decode cX6_addTurn 65 = .ok (.iload_n 2, 1) := by decide +kernel
theorem dX6_addTurn_66 : decode cX6_addTurn 66 = .ok (.isub, 1) := by decide +kernel
theorem dX6_addTurn_67 : decode cX6_addTurn 67 = .ok (.bipush 30, 2) := by decide +kernel
theorem dX6_addTurn_69 : decode cX6_addTurn 69 = .ok (.if_icmp .ge 13, 3) := by decide +kernel
theorem dX6_addTurn_72 : decode cX6_addTurn 72 = .ok (.new 74, 3) := by decide +kernel
theorem dX6_addTurn_75 : decode cX6_addTurn 75 = .ok (.dup, 1) := by decide +kernel
theorem dX6_addTurn_76 : decode cX6_addTurn 76 = .ok (.ldc 165, 2) := by decide +kernel
theorem dX6_addTurn_78 : decode cX6_addTurn 78 = .ok (.invokespecial 78, 3) := by decide +kernel
theorem dX6_addTurn_81 : decode cX6_addTurn 81 = .ok (.athrow, 1) := by decide +kernel
theorem dX6_addTurn_82 : decode cX6_addTurn 82 = .ok (.aload_n 0, 1) := by decide +kernel
theorem dX6_addTurn_83 : decode cX6_addTurn 83 = .ok (.getfield 12, 3) := by decide +kernel
theorem dX6_addTurn_86 : decode cX6_addTurn 86 = .ok (.getfield 65, 3) := by decide +kernel
theorem dX6_addTurn_89 : decode cX6_addTurn 89 = .ok (.bipush 10, 2) := by decide +kernel
theorem dX6_addTurn_91 : decode cX6_addTurn 91 = .ok (.if_icmp .lt 13, 3) := by decide +kernel
theorem dX6_addTurn_94 : decode cX6_addTurn 94 = .ok (.new 84, 3) := by decide +kernel
theorem dX6_addTurn_97 : decode cX6_addTurn 97 = .ok (.dup, 1) := by decide +kernel
theorem dX6_addTurn_98 : decode cX6_addTurn 98 = .ok (.ldc 167, 2) := by decide +kernel
theorem dX6_addTurn_100 : decode cX6_addTurn 100 = .ok (.invokespecial 88, 3) := by decide +kernel
theorem dX6_addTurn_103 : decode cX6_addTurn 103 = .ok (.athrow, 1) := by decide +kernel
theorem dX6_addTurn_104 : decode cX6_addTurn 104 = .ok (.aload_n 0, 1) := by decide +kernel
theorem dX6_addTurn_105 : decode cX6_addTurn 105 = .ok (.getfield 25, 3) := by decide +kernel
theorem dX6_addTurn_108 : decode cX6_addTurn 108 = .ok (.aload_n 0, 1) := by decide +kernel
theorem dX6_addTurn_109 : decode cX6_addTurn 109 = .ok (.getfield 12, 3) := by decide +kernel
theorem dX6_addTurn_112 : decode cX6_addTurn 112 = .ok (.invokevirtual 89, 3) := by decide +kernel
theorem dX6_addTurn_115 : decode cX6_addTurn 115 = .ok (.aload_n 0, 1) := by decide +kernel
theorem dX6_addTurn_116 : decode cX6_addTurn 116 = .ok (.getfield 12, 3) := by decide +kernel
theorem dX6_addTurn_119 : decode cX6_addTurn 119 = .ok (.iload_n 1, 1) := by decide +kernel
theorem dX6_addTurn_120 : decode cX6_addTurn 120 = .ok (.iload_n 2, 1) := by decide +kernel
theorem dX6_addTurn_121 : decode cX6_addTurn 121 = .ok (.iload_n 3, 1) := by decide +kernel
theorem dX6_addTurn_122 : decode cX6_addTurn 122 = .ok (.iload 4, 2) := by decide +kernel
theorem dX6_addTurn_124 : decode cX6_addTurn 124 = .ok (.invokevirtual 169, 3) := by decide +kernel
theorem dX6_addTurn_127 : decode cX6_addTurn 127 = .ok (.ireturn, 1) := by decide +kernel
theorem dX6_turn_0 : decode cX6_turn 0 = .ok (.aload_n 0, 1) := by decide +kernel
theorem dX6_turn_1 : decode cX6_turn 1 = .ok (.getfield 12, 3) := by decide +kernel
theorem dX6_turn_4 : decode cX6_turn 4 = .ok (.iload_n 1, 1) := by decide +kernel
theorem dX6_turn_5 : decode cX6_turn 5 = .ok (.invokevirtual 173, 3) := by decide +kernel
theorem dX6_turn_8 : decode cX6_turn 8 = .ok (.ifCond .ne 13, 3) := by decide +kernel
theorem dX6_turn_11 : decode cX6_turn 11 = .ok (.new 101, 3) := by decide +kernel
theorem dX6_turn_14 : decode cX6_turn 14 = .ok (.dup, 1) := by decide +kernel
theorem dX6_turn_15 : decode cX6_turn 15 = .ok (.ldc 176, 2) := by decide +kernel
theorem dX6_turn_17 : decode cX6_turn 17 = .ok (.invokespecial 105, 3) := by decide +kernel
theorem dX6_turn_20 : decode cX6_turn 20 = .ok (.athrow, 1) := by decide +kernel
theorem dX6_turn_21 : decode cX6_turn 21 = .ok (.iload_n 2, 1) := by decide +kernel
theorem dX6_turn_22 : decode cX6_turn 22 = .ok (.tableswitch 97 0 5 #[38, 48, 58, 68, 78, 88], 38) := by decide +kernel
theorem dX6_turn_60 : decode cX6_turn 60 = .ok (.aload_n 0, 1) := by decide +kernel
theorem dX6_turn_61 : decode cX6_turn 61 = .ok (.getfield 12, 3) := by decide +kernel
theorem dX6_turn_64 : decode cX6_turn 64 = .ok (.getfield 178, 3) := by decide +kernel
theorem dX6_turn_67 : decode cX6_turn 67 = .ok (.iload_n 1, 1) := by decide +kernel
theorem dX6_turn_68 : decode cX6_turn 68 = .ok (.iaload, 1) := by decide +kernel
theorem dX6_turn_69 : decode cX6_turn 69 = .ok (.ireturn, 1) := by decide +kernel
theorem dX6_turn_70 : decode cX6_turn 70 = .ok (.aload_n 0, 1) := by decide +kernel
theorem dX6_turn_71 : decode cX6_turn 71 = .ok (.getfield 12, 3) := by decide +kernel
theorem dX6_turn_74 : decode cX6_turn 74 = .ok (.getfield 181, 3) := by decide +kernel
theorem dX6_turn_77 : decode cX6_turn 77 = .ok (.iload_n 1, 1) := by decide +kernel
theorem dX6_turn_78 : decode cX6_turn 78 = .ok (.iaload, 1) := by decide +kernel
theorem dX6_turn_79 : decode cX6_turn 79 = .ok (.ireturn, 1) := by decide +kernel
theorem dX6_turn_80 : decode cX6_turn 80 = .ok (.aload_n 0, 1) := by decide +kernel
theorem dX6_turn_81 : decode cX6_turn 81 = .ok (.getfield 12, 3) := by decide +kernel
theorem dX6_turn_84 : decode cX6_turn 84 = .ok (.getfield 184, 3) := by decide +kernel
theorem dX6_turn_87 : decode cX6_turn 87 = .ok (.iload_n 1, 1) := by decide +kernel
theorem dX6_turn_88 : decode cX6_turn 88 = .ok (.iaload, 1) := by decide +kernel
theorem dX6_turn_89 : decode cX6_turn 89 = .ok (.ireturn, 1) := by decide +kernel
theorem dX6_turn_90 : decode cX6_turn 90 = .ok (.aload_n 0, 1) := by decide +kernel
theorem dX6_turn_91 : decode cX6_turn 91 = .ok (.getfield 12, 3) := by decide +kernel
theorem dX6_turn_94 : decode cX6_turn 94 = .ok (.getfield 187, 3) := by decide +kernel
theorem dX6_turn_97 : decode cX6_turn 97 = .ok (.iload_n 1, 1) := by decide +kernel
theorem dX6_turn_98 : decode cX6_turn 98 = .ok (.iaload, 1) := by decide +kernel
theorem dX6_turn_99 : decode cX6_turn 99 = .ok (.ireturn, 1) := by decide +kernel
theorem dX6_turn_100 : decode cX6_turn 100 = .ok (.aload_n 0, 1) := by decide +kernel
theorem dX6_turn_101 : decode cX6_turn 101 = .ok (.getfield 12, 3) := by decide +kernel
theorem dX6_turn_104 : decode cX6_turn 104 = .ok (.getfield 190, 3) := by decide +kernel
theorem dX6_turn_107 : decode cX6_turn 107 = .ok (.iload_n 1, 1) := by decide +kernel
theorem dX6_turn_108 : decode cX6_turn 108 = .ok (.iaload, 1) := by decide +kernel
theorem dX6_turn_109 : decode cX6_turn 109 = .ok (.ireturn, 1) := by decide +kernel
theorem dX6_turn_110 : decode cX6_turn 110 = .ok (.aload_n 0, 1) := by decide +kernel
theorem dX6_turn_111 : decode cX6_turn 111 = .ok (.getfield 12, 3) := by decide +kernel
theorem dX6_turn_114 : decode cX6_turn 114 = .ok (.iload_n 1, 1) := by decide +kernel
theorem dX6_turn_115 : decode cX6_turn 115 = .ok (.invokevirtual 193, 3) := by decide +kernel
theorem dX6_turn_118 : decode cX6_turn 118 = .ok (.ireturn, 1) := by decide +kernel
theorem dX6_turn_119 : decode cX6_turn 119 = .ok (.new 74, 3) := by decide +kernel
theorem dX6_turn_122 : decode cX6_turn 122 = .ok (.dup, 1) := by decide +kernel
theorem dX6_turn_123 : decode cX6_turn 123 = .ok (.ldc 196, 2) := by decide +kernel
theorem dX6_turn_125 : decode cX6_turn 125 = .ok (.invokespecial 78, 3) := by decide +kernel
theorem dX6_turn_128 : decode cX6_turn 128 = .ok (.athrow, 1) := by decide +kernel
theorem dX6_ofStay_0 : decode cX6_ofStay 0 = .ok (.aload_n 0, 1) := by decide +kernel
theorem dX6_ofStay_1 : decode cX6_ofStay 1 = .ok (.getfield 12, 3) := by decide +kernel
theorem dX6_ofStay_4 : decode cX6_ofStay 4 = .ok (.iload_n 1, 1) := by decide +kernel
theorem dX6_ofStay_5 : decode cX6_ofStay 5 = .ok (.iload_n 2, 1) := by decide +kernel
theorem dX6_ofStay_6 : decode cX6_ofStay 6 = .ok (.invokevirtual 198, 3) := by decide +kernel
theorem dX6_ofStay_9 : decode cX6_ofStay 9 = .ok (.ifCond .ne 13, 3) := by decide +kernel
theorem dX6_ofStay_12 : decode cX6_ofStay 12 = .ok (.new 101, 3) := by decide +kernel
theorem dX6_ofStay_15 : decode cX6_ofStay 15 = .ok (.dup, 1) := by decide +kernel
theorem dX6_ofStay_16 : decode cX6_ofStay 16 = .ok (.ldc 202, 2) := by decide +kernel
theorem dX6_ofStay_18 : decode cX6_ofStay 18 = .ok (.invokespecial 105, 3) := by decide +kernel
theorem dX6_ofStay_21 : decode cX6_ofStay 21 = .ok (.athrow, 1) := by decide +kernel
theorem dX6_ofStay_22 : decode cX6_ofStay 22 = .ok (.iconst 2, 1) := by decide +kernel
theorem dX6_ofStay_23 : decode cX6_ofStay 23 = .ok (.iload_n 1, 1) := by decide +kernel
theorem dX6_ofStay_24 : decode cX6_ofStay 24 = .ok (.imul, 1) := by decide +kernel
theorem dX6_ofStay_25 : decode cX6_ofStay 25 = .ok (.iload_n 2, 1) := by decide +kernel
theorem dX6_ofStay_26 : decode cX6_ofStay 26 = .ok (.iadd, 1) := by decide +kernel
theorem dX6_ofStay_27 : decode cX6_ofStay 27 = .ok (.istore 4, 2) := by decide +kernel
theorem dX6_ofStay_29 : decode cX6_ofStay 29 = .ok (.iload_n 3, 1) := by decide +kernel
theorem dX6_ofStay_30 : decode cX6_ofStay 30 = .ok (.tableswitch 109 0 5 #[38, 49, 60, 71, 81, 91], 38) := by decide +kernel
theorem dX6_ofStay_68 : decode cX6_ofStay 68 = .ok (.aload_n 0, 1) := by decide +kernel
theorem dX6_ofStay_69 : decode cX6_ofStay 69 = .ok (.getfield 12, 3) := by decide +kernel
theorem dX6_ofStay_72 : decode cX6_ofStay 72 = .ok (.getfield 204, 3) := by decide +kernel
theorem dX6_ofStay_75 : decode cX6_ofStay 75 = .ok (.iload 4, 2) := by decide +kernel
theorem dX6_ofStay_77 : decode cX6_ofStay 77 = .ok (.iaload, 1) := by decide +kernel
theorem dX6_ofStay_78 : decode cX6_ofStay 78 = .ok (.ireturn, 1) := by decide +kernel
theorem dX6_ofStay_79 : decode cX6_ofStay 79 = .ok (.aload_n 0, 1) := by decide +kernel
theorem dX6_ofStay_80 : decode cX6_ofStay 80 = .ok (.getfield 12, 3) := by decide +kernel
theorem dX6_ofStay_83 : decode cX6_ofStay 83 = .ok (.getfield 207, 3) := by decide +kernel
theorem dX6_ofStay_86 : decode cX6_ofStay 86 = .ok (.iload 4, 2) := by decide +kernel
theorem dX6_ofStay_88 : decode cX6_ofStay 88 = .ok (.iaload, 1) := by decide +kernel
theorem dX6_ofStay_89 : decode cX6_ofStay 89 = .ok (.ireturn, 1) := by decide +kernel
theorem dX6_ofStay_90 : decode cX6_ofStay 90 = .ok (.aload_n 0, 1) := by decide +kernel
theorem dX6_ofStay_91 : decode cX6_ofStay 91 = .ok (.getfield 12, 3) := by decide +kernel
theorem dX6_ofStay_94 : decode cX6_ofStay 94 = .ok (.getfield 210, 3) := by decide +kernel
theorem dX6_ofStay_97 : decode cX6_ofStay 97 = .ok (.iload 4, 2) := by decide +kernel
theorem dX6_ofStay_99 : decode cX6_ofStay 99 = .ok (.iaload, 1) := by decide +kernel
theorem dX6_ofStay_100 : decode cX6_ofStay 100 = .ok (.ireturn, 1) := by decide +kernel
theorem dX6_ofStay_101 : decode cX6_ofStay 101 = .ok (.aload_n 0, 1) := by decide +kernel
theorem dX6_ofStay_102 : decode cX6_ofStay 102 = .ok (.getfield 12, 3) := by decide +kernel
theorem dX6_ofStay_105 : decode cX6_ofStay 105 = .ok (.iload 4, 2) := by decide +kernel
theorem dX6_ofStay_107 : decode cX6_ofStay 107 = .ok (.invokevirtual 213, 3) := by decide +kernel
theorem dX6_ofStay_110 : decode cX6_ofStay 110 = .ok (.ireturn, 1) := by decide +kernel
theorem dX6_ofStay_111 : decode cX6_ofStay 111 = .ok (.aload_n 0, 1) := by decide +kernel
theorem dX6_ofStay_112 : decode cX6_ofStay 112 = .ok (.getfield 12, 3) := by decide +kernel
theorem dX6_ofStay_115 : decode cX6_ofStay 115 = .ok (.iload 4, 2) := by decide +kernel
theorem dX6_ofStay_117 : decode cX6_ofStay 117 = .ok (.invokevirtual 216, 3) := by decide +kernel
theorem dX6_ofStay_120 : decode cX6_ofStay 120 = .ok (.ireturn, 1) := by decide +kernel
theorem dX6_ofStay_121 : decode cX6_ofStay 121 = .ok (.aload_n 0, 1) := by decide +kernel
theorem dX6_ofStay_122 : decode cX6_ofStay 122 = .ok (.getfield 12, 3) := by decide +kernel
theorem dX6_ofStay_125 : decode cX6_ofStay 125 = .ok (.iload 4, 2) := by decide +kernel
theorem dX6_ofStay_127 : decode cX6_ofStay 127 = .ok (.invokevirtual 219, 3) := by decide +kernel
theorem dX6_ofStay_130 : decode cX6_ofStay 130 = .ok (.ifCond .eq 7, 3) := by decide +kernel
theorem dX6_ofStay_133 : decode cX6_ofStay 133 = .ok (.iconst 1, 1) := by decide +kernel
theorem dX6_ofStay_134 : decode cX6_ofStay 134 = .ok (.goto 4, 3) := by decide +kernel
theorem dX6_ofStay_137 : decode cX6_ofStay 137 = .ok (.iconst 0, 1) := by decide +kernel
theorem dX6_ofStay_138 : decode cX6_ofStay 138 = .ok (.ireturn, 1) := by decide +kernel
theorem dX6_ofStay_139 : decode cX6_ofStay 139 = .ok (.new 74, 3) := by decide +kernel
theorem dX6_ofStay_142 : decode cX6_ofStay 142 = .ok (.dup, 1) := by decide +kernel
theorem dX6_ofStay_143 : decode cX6_ofStay 143 = .ok (.ldc 196, 2) := by decide +kernel
theorem dX6_ofStay_145 : decode cX6_ofStay 145 = .ok (.invokespecial 78, 3) := by decide +kernel
theorem dX6_ofStay_148 : decode cX6_ofStay 148 = .ok (.athrow, 1) := by decide +kernel
theorem dX6_place_0 : decode cX6_place 0 = .ok (.aload_n 0, 1) := by decide +kernel
theorem dX6_place_1 : decode cX6_place 1 = .ok (.getfield 12, 3) := by decide +kernel
theorem dX6_place_4 : decode cX6_place 4 = .ok (.iload_n 1, 1) := by decide +kernel
theorem dX6_place_5 : decode cX6_place 5 = .ok (.iload_n 2, 1) := by decide +kernel
theorem dX6_place_6 : decode cX6_place 6 = .ok (.invokevirtual 198, 3) := by decide +kernel
theorem dX6_place_9 : decode cX6_place 9 = .ok (.ifCond .eq 14, 3) := by decide +kernel
theorem dX6_place_12 : decode cX6_place 12 = .ok (.aload_n 0, 1) := by decide +kernel
theorem dX6_place_13 : decode cX6_place 13 = .ok (.getfield 12, 3) := by decide +kernel
theorem dX6_place_16 : decode cX6_place 16 = .ok (.iload_n 3, 1) := by decide +kernel
theorem dX6_place_17 : decode cX6_place 17 = .ok (.invokevirtual 97, 3) := by decide +kernel
theorem dX6_place_20 : decode cX6_place 20 = .ok (.ifCond .ne 13, 3) := by decide +kernel
theorem dX6_place_23 : decode cX6_place 23 = .ok (.new 101, 3) := by decide +kernel
theorem dX6_place_26 : decode cX6_place 26 = .ok (.dup, 1) := by decide +kernel
theorem dX6_place_27 : decode cX6_place 27 = .ok (.ldc 222, 2) := by decide +kernel
theorem dX6_place_29 : decode cX6_place 29 = .ok (.invokespecial 105, 3) := by decide +kernel
theorem dX6_place_32 : decode cX6_place 32 = .ok (.athrow, 1) := by decide +kernel
theorem dX6_place_33 : decode cX6_place 33 = .ok (.iconst 2, 1) := by decide +kernel
theorem dX6_place_34 : decode cX6_place 34 = .ok (.iload_n 1, 1) := by decide +kernel
theorem dX6_place_35 : decode cX6_place 35 = .ok (.imul, 1) := by decide +kernel
theorem dX6_place_36 : decode cX6_place 36 = .ok (.iload_n 2, 1) := by decide +kernel
theorem dX6_place_37 : decode cX6_place 37 = .ok (.iadd, 1) := by decide +kernel
theorem dX6_place_38 : decode cX6_place 38 = .ok (.istore 4, 2) := by decide +kernel
theorem dX6_place_40 : decode cX6_place 40 = .ok (.aload_n 0, 1) := by decide +kernel
theorem dX6_place_41 : decode cX6_place 41 = .ok (.getfield 12, 3) := by decide +kernel
theorem dX6_place_44 : decode cX6_place 44 = .ok (.iload 4, 2) := by decide +kernel
theorem dX6_place_46 : decode cX6_place 46 = .ok (.iload_n 3, 1) := by decide +kernel
theorem dX6_place_47 : decode cX6_place 47 = .ok (.invokevirtual 224, 3) := by decide +kernel
theorem dX6_place_50 : decode cX6_place 50 = .ok (.istore 5, 2) := by decide +kernel
theorem dX6_place_52 : decode cX6_place 52 = .ok (.iload 5, 2) := by decide +kernel
theorem dX6_place_54 : decode cX6_place 54 = .ok (.ifCond .eq 19, 3) := by decide +kernel
theorem dX6_place_57 : decode cX6_place 57 = .ok (.aload_n 0, 1) := by decide +kernel
theorem dX6_place_58 : decode cX6_place 58 = .ok (.iload 5, 2) := by decide +kernel
theorem dX6_place_60 : decode cX6_place 60 = .ok (.putfield 58, 3) := by decide +kernel
theorem dX6_place_63 : decode cX6_place 63 = .ok (.new 227, 3) := by decide +kernel
theorem dX6_place_66 : decode cX6_place 66 = .ok (.dup, 1) := by decide +kernel
theorem dX6_place_67 : decode cX6_place 67 = .ok (.ldc 229, 2) := by decide +kernel
theorem dX6_place_69 : decode cX6_place 69 = .ok (.invokespecial 231, 3) := by decide +kernel
theorem dX6_place_72 : decode cX6_place 72 = .ok (.athrow, 1) := by decide +kernel
theorem dX6_place_73 : decode cX6_place 73 = .ok (.aload_n 0, 1) := by decide +kernel
theorem dX6_place_74 : decode cX6_place 74 = .ok (.getfield 25, 3) := by decide +kernel
theorem dX6_place_77 : decode cX6_place 77 = .ok (.aload_n 0, 1) := by decide +kernel
theorem dX6_place_78 : decode cX6_place 78 = .ok (.getfield 12, 3) := by decide +kernel
theorem dX6_place_81 : decode cX6_place 81 = .ok (.invokevirtual 89, 3) := by decide +kernel
theorem dX6_place_84 : decode cX6_place 84 = .ok (.aload_n 0, 1) := by decide +kernel
theorem dX6_place_85 : decode cX6_place 85 = .ok (.getfield 12, 3) := by decide +kernel
theorem dX6_place_88 : decode cX6_place 88 = .ok (.getfield 210, 3) := by decide +kernel
theorem dX6_place_91 : decode cX6_place 91 = .ok (.iload 4, 2) := by decide +kernel
theorem dX6_place_93 : decode cX6_place 93 = .ok (.iaload, 1) := by decide +kernel
theorem dX6_place_94 : decode cX6_place 94 = .ok (.istore 6, 2) := by decide +kernel
theorem dX6_place_96 : decode cX6_place 96 = .ok (.aload_n 0, 1) := by decide +kernel
theorem dX6_place_97 : decode cX6_place 97 = .ok (.getfield 12, 3) := by decide +kernel
theorem dX6_place_100 : decode cX6_place 100 = .ok (.getfield 210, 3) := by decide +kernel
theorem dX6_place_103 : decode cX6_place 103 = .ok (.iload 4, 2) := by decide +kernel
theorem dX6_place_105 : decode cX6_place 105 = .ok (.iload_n 3, 1) := by decide +kernel
theorem dX6_place_106 : decode cX6_place 106 = .ok (.iastore, 1) := by decide +kernel
theorem dX6_place_107 : decode cX6_place 107 = .ok (.iload 6, 2) := by decide +kernel
theorem dX6_place_109 : decode cX6_place 109 = .ok (.ireturn, 1) := by decide +kernel
theorem dX6_whyNot_0 : decode cX6_whyNot 0 = .ok (.aload_n 0, 1) := by decide +kernel
theorem dX6_whyNot_1 : decode cX6_whyNot 1 = .ok (.getfield 12, 3) := by decide +kernel
theorem dX6_whyNot_4 : decode cX6_whyNot 4 = .ok (.iload_n 1, 1) := by decide +kernel
theorem dX6_whyNot_5 : decode cX6_whyNot 5 = .ok (.iload_n 2, 1) := by decide +kernel
theorem dX6_whyNot_6 : decode cX6_whyNot 6 = .ok (.invokevirtual 198, 3) := by decide +kernel
theorem dX6_whyNot_9 : decode cX6_whyNot 9 = .ok (.ifCond .eq 14, 3) := by decide +kernel
theorem dX6_whyNot_12 : decode cX6_whyNot 12 = .ok (.aload_n 0, 1) := by decide +kernel
theorem dX6_whyNot_13 : decode cX6_whyNot 13 = .ok (.getfield 12, 3) := by decide +kernel
theorem dX6_whyNot_16 : decode cX6_whyNot 16 = .ok (.iload_n 3, 1) := by decide +kernel
theorem dX6_whyNot_17 : decode cX6_whyNot 17 = .ok (.invokevirtual 97, 3) := by decide +kernel
theorem dX6_whyNot_20 : decode cX6_whyNot 20 = .ok (.ifCond .ne 13, 3) := by decide +kernel
theorem dX6_whyNot_23 : decode cX6_whyNot 23 = .ok (.new 101, 3) := by decide +kernel
theorem dX6_whyNot_26 : decode cX6_whyNot 26 = .ok (.dup, 1) := by decide +kernel
theorem dX6_whyNot_27 : decode cX6_whyNot 27 = .ok (.ldc 222, 2) := by decide +kernel
theorem dX6_whyNot_29 : decode cX6_whyNot 29 = .ok (.invokespecial 105, 3) := by decide +kernel
theorem dX6_whyNot_32 : decode cX6_whyNot 32 = .ok (.athrow, 1) := by decide +kernel
theorem dX6_whyNot_33 : decode cX6_whyNot 33 = .ok (.aload_n 0, 1) := by decide +kernel
theorem dX6_whyNot_34 : decode cX6_whyNot 34 = .ok (.getfield 12, 3) := by decide +kernel
theorem dX6_whyNot_37 : decode cX6_whyNot 37 = .ok (.iconst 2, 1) := by decide +kernel
theorem dX6_whyNot_38 : decode cX6_whyNot 38 = .ok (.iload_n 1, 1) := by decide +kernel
theorem dX6_whyNot_39 : decode cX6_whyNot 39 = .ok (.imul, 1) := by decide +kernel
theorem dX6_whyNot_40 : decode cX6_whyNot 40 = .ok (.iload_n 2, 1) := by decide +kernel
theorem dX6_whyNot_41 : decode cX6_whyNot 41 = .ok (.iadd, 1) := by decide +kernel
theorem dX6_whyNot_42 : decode cX6_whyNot 42 = .ok (.iload_n 3, 1) := by decide +kernel
theorem dX6_whyNot_43 : decode cX6_whyNot 43 = .ok (.invokevirtual 224, 3) := by decide +kernel
theorem dX6_whyNot_46 : decode cX6_whyNot 46 = .ok (.ireturn, 1) := by decide +kernel
theorem dX6_options_0 : decode cX6_options 0 = .ok (.aload_n 0, 1) := by decide +kernel
theorem dX6_options_1 : decode cX6_options 1 = .ok (.getfield 12, 3) := by decide +kernel
theorem dX6_options_4 : decode cX6_options 4 = .ok (.iload_n 1, 1) := by decide +kernel
theorem dX6_options_5 : decode cX6_options 5 = .ok (.iload_n 2, 1) := by decide +kernel
theorem dX6_options_6 : decode cX6_options 6 = .ok (.invokevirtual 198, 3) := by decide +kernel
theorem dX6_options_9 : decode cX6_options 9 = .ok (.ifCond .ne 13, 3) := by decide +kernel
theorem dX6_options_12 : decode cX6_options 12 = .ok (.new 101, 3) := by decide +kernel
theorem dX6_options_15 : decode cX6_options 15 = .ok (.dup, 1) := by decide +kernel
theorem dX6_options_16 : decode cX6_options 16 = .ok (.ldc 202, 2) := by decide +kernel
theorem dX6_options_18 : decode cX6_options 18 = .ok (.invokespecial 105, 3) := by decide +kernel
theorem dX6_options_21 : decode cX6_options 21 = .ok (.athrow, 1) := by decide +kernel
theorem dX6_options_22 : decode cX6_options 22 = .ok (.aload_n 0, 1) := by decide +kernel
theorem dX6_options_23 : decode cX6_options 23 = .ok (.getfield 12, 3) := by decide +kernel
theorem dX6_options_26 : decode cX6_options 26 = .ok (.iconst 2, 1) := by decide +kernel
theorem dX6_options_27 : decode cX6_options 27 = .ok (.iload_n 1, 1) := by decide +kernel
theorem dX6_options_28 : decode cX6_options 28 = .ok (.imul, 1) := by decide +kernel
theorem dX6_options_29 : decode cX6_options 29 = .ok (.iload_n 2, 1) := by decide +kernel
theorem dX6_options_30 : decode cX6_options 30 = .ok (.iadd, 1) := by decide +kernel
theorem dX6_options_31 : decode cX6_options 31 = .ok (.invokevirtual 232, 3) := by decide +kernel
theorem dX6_options_34 : decode cX6_options 34 = .ok (.ireturn, 1) := by decide +kernel
theorem dX6_cheapest_0 : decode cX6_cheapest 0 = .ok (.aload_n 0, 1) := by decide +kernel
theorem dX6_cheapest_1 : decode cX6_cheapest 1 = .ok (.getfield 12, 3) := by decide +kernel
theorem dX6_cheapest_4 : decode cX6_cheapest 4 = .ok (.iload_n 1, 1) := by decide +kernel
theorem dX6_cheapest_5 : decode cX6_cheapest 5 = .ok (.iload_n 2, 1) := by decide +kernel
theorem dX6_cheapest_6 : decode cX6_cheapest 6 = .ok (.invokevirtual 198, 3) := by decide +kernel
theorem dX6_cheapest_9 : decode cX6_cheapest 9 = .ok (.ifCond .ne 13, 3) := by decide +kernel
theorem dX6_cheapest_12 : decode cX6_cheapest 12 = .ok (.new 101, 3) := by decide +kernel
theorem dX6_cheapest_15 : decode cX6_cheapest 15 = .ok (.dup, 1) := by decide +kernel
theorem dX6_cheapest_16 : decode cX6_cheapest 16 = .ok (.ldc 202, 2) := by decide +kernel
theorem dX6_cheapest_18 : decode cX6_cheapest 18 = .ok (.invokespecial 105, 3) := by decide +kernel
theorem dX6_cheapest_21 : decode cX6_cheapest 21 = .ok (.athrow, 1) := by decide +kernel
theorem dX6_cheapest_22 : decode cX6_cheapest 22 = .ok (.aload_n 0, 1) := by decide +kernel
theorem dX6_cheapest_23 : decode cX6_cheapest 23 = .ok (.getfield 12, 3) := by decide +kernel
theorem dX6_cheapest_26 : decode cX6_cheapest 26 = .ok (.iconst 2, 1) := by decide +kernel
theorem dX6_cheapest_27 : decode cX6_cheapest 27 = .ok (.iload_n 1, 1) := by decide +kernel
theorem dX6_cheapest_28 : decode cX6_cheapest 28 = .ok (.imul, 1) := by decide +kernel
theorem dX6_cheapest_29 : decode cX6_cheapest 29 = .ok (.iload_n 2, 1) := by decide +kernel
theorem dX6_cheapest_30 : decode cX6_cheapest 30 = .ok (.iadd, 1) := by decide +kernel
theorem dX6_cheapest_31 : decode cX6_cheapest 31 = .ok (.invokevirtual 235, 3) := by decide +kernel
theorem dX6_cheapest_34 : decode cX6_cheapest 34 = .ok (.istore_n 3, 1) := by decide +kernel
theorem dX6_cheapest_35 : decode cX6_cheapest 35 = .ok (.iload_n 3, 1) := by decide +kernel
theorem dX6_cheapest_36 : decode cX6_cheapest 36 = .ok (.ifCond .ge 13, 3) := by decide +kernel
theorem dX6_cheapest_39 : decode cX6_cheapest 39 = .ok (.new 155, 3) := by decide +kernel
theorem dX6_cheapest_42 : decode cX6_cheapest 42 = .ok (.dup, 1) := by decide +kernel
theorem dX6_cheapest_43 : decode cX6_cheapest 43 = .ok (.ldc 238, 2) := by decide +kernel
theorem dX6_cheapest_45 : decode cX6_cheapest 45 = .ok (.invokespecial 159, 3) := by decide +kernel
theorem dX6_cheapest_48 : decode cX6_cheapest 48 = .ok (.athrow, 1) := by decide +kernel
theorem dX6_cheapest_49 : decode cX6_cheapest 49 = .ok (.iload_n 3, 1) := by decide +kernel
theorem dX6_cheapest_50 : decode cX6_cheapest 50 = .ok (.ireturn, 1) := by decide +kernel
theorem dX6_lift_0 : decode cX6_lift 0 = .ok (.aload_n 0, 1) := by decide +kernel
theorem dX6_lift_1 : decode cX6_lift 1 = .ok (.getfield 12, 3) := by decide +kernel
theorem dX6_lift_4 : decode cX6_lift 4 = .ok (.iload_n 1, 1) := by decide +kernel
theorem dX6_lift_5 : decode cX6_lift 5 = .ok (.iload_n 2, 1) := by decide +kernel
theorem dX6_lift_6 : decode cX6_lift 6 = .ok (.invokevirtual 198, 3) := by decide +kernel
theorem dX6_lift_9 : decode cX6_lift 9 = .ok (.ifCond .ne 13, 3) := by decide +kernel
theorem dX6_lift_12 : decode cX6_lift 12 = .ok (.new 101, 3) := by decide +kernel
theorem dX6_lift_15 : decode cX6_lift 15 = .ok (.dup, 1) := by decide +kernel
theorem dX6_lift_16 : decode cX6_lift 16 = .ok (.ldc 202, 2) := by decide +kernel
theorem dX6_lift_18 : decode cX6_lift 18 = .ok (.invokespecial 105, 3) := by decide +kernel
theorem dX6_lift_21 : decode cX6_lift 21 = .ok (.athrow, 1) := by decide +kernel
theorem dX6_lift_22 : decode cX6_lift 22 = .ok (.iconst 2, 1) := by decide +kernel
theorem dX6_lift_23 : decode cX6_lift 23 = .ok (.iload_n 1, 1) := by decide +kernel
theorem dX6_lift_24 : decode cX6_lift 24 = .ok (.imul, 1) := by decide +kernel
theorem dX6_lift_25 : decode cX6_lift 25 = .ok (.iload_n 2, 1) := by decide +kernel
theorem dX6_lift_26 : decode cX6_lift 26 = .ok (.iadd, 1) := by decide +kernel
theorem dX6_lift_27 : decode cX6_lift 27 = .ok (.istore_n 3, 1) := by decide +kernel
theorem dX6_lift_28 : decode cX6_lift 28 = .ok (.aload_n 0, 1) := by decide +kernel
theorem dX6_lift_29 : decode cX6_lift 29 = .ok (.getfield 12, 3) := by decide +kernel
theorem dX6_lift_32 : decode cX6_lift 32 = .ok (.getfield 210, 3) := by decide +kernel
theorem dX6_lift_35 : decode cX6_lift 35 = .ok (.iload_n 3, 1) := by decide +kernel
theorem dX6_lift_36 : decode cX6_lift 36 = .ok (.iaload, 1) := by decide +kernel
theorem dX6_lift_37 : decode cX6_lift 37 = .ok (.istore 4, 2) := by decide +kernel
theorem dX6_lift_39 : decode cX6_lift 39 = .ok (.iload 4, 2) := by decide +kernel
theorem dX6_lift_41 : decode cX6_lift 41 = .ok (.ifCond .ge 13, 3) := by decide +kernel
theorem dX6_lift_44 : decode cX6_lift 44 = .ok (.new 84, 3) := by decide +kernel
theorem dX6_lift_47 : decode cX6_lift 47 = .ok (.dup, 1) := by decide +kernel
theorem dX6_lift_48 : decode cX6_lift 48 = .ok (.ldc 240, 2) := by decide +kernel
theorem dX6_lift_50 : decode cX6_lift 50 = .ok (.invokespecial 88, 3) := by decide +kernel
theorem dX6_lift_53 : decode cX6_lift 53 = .ok (.athrow, 1) := by decide +kernel
theorem dX6_lift_54 : decode cX6_lift 54 = .ok (.aload_n 0, 1) := by decide +kernel
theorem dX6_lift_55 : decode cX6_lift 55 = .ok (.getfield 25, 3) := by decide +kernel
theorem dX6_lift_58 : decode cX6_lift 58 = .ok (.aload_n 0, 1) := by decide +kernel
theorem dX6_lift_59 : decode cX6_lift 59 = .ok (.getfield 12, 3) := by decide +kernel
theorem dX6_lift_62 : decode cX6_lift 62 = .ok (.invokevirtual 89, 3) := by decide +kernel
theorem dX6_lift_65 : decode cX6_lift 65 = .ok (.aload_n 0, 1) := by decide +kernel
theorem dX6_lift_66 : decode cX6_lift 66 = .ok (.getfield 12, 3) := by decide +kernel
theorem dX6_lift_69 : decode cX6_lift 69 = .ok (.getfield 210, 3) := by decide +kernel
theorem dX6_lift_72 : decode cX6_lift 72 = .ok (.iload_n 3, 1) := by decide +kernel
theorem dX6_lift_73 : decode cX6_lift 73 = .ok (.iconst (-1), 1) := by decide +kernel
theorem dX6_lift_74 : decode cX6_lift 74 = .ok (.iastore, 1) := by decide +kernel
theorem dX6_lift_75 : decode cX6_lift 75 = .ok (.iload 4, 2) := by decide +kernel
theorem dX6_lift_77 : decode cX6_lift 77 = .ok (.ireturn, 1) := by decide +kernel
theorem dX6_reason_0 : decode cX6_reason 0 = .ok (.aload_n 0, 1) := by decide +kernel
theorem dX6_reason_1 : decode cX6_reason 1 = .ok (.getfield 58, 3) := by decide +kernel
theorem dX6_reason_4 : decode cX6_reason 4 = .ok (.ifCond .ne 13, 3) := by decide +kernel
theorem dX6_reason_7 : decode cX6_reason 7 = .ok (.new 155, 3) := by decide +kernel
theorem dX6_reason_10 : decode cX6_reason 10 = .ok (.dup, 1) := by decide +kernel
theorem dX6_reason_11 : decode cX6_reason 11 = .ok (.ldc 242, 2) := by decide +kernel
theorem dX6_reason_13 : decode cX6_reason 13 = .ok (.invokespecial 159, 3) := by decide +kernel
theorem dX6_reason_16 : decode cX6_reason 16 = .ok (.athrow, 1) := by decide +kernel
theorem dX6_reason_17 : decode cX6_reason 17 = .ok (.aload_n 0, 1) := by decide +kernel
theorem dX6_reason_18 : decode cX6_reason 18 = .ok (.getfield 58, 3) := by decide +kernel
theorem dX6_reason_21 : decode cX6_reason 21 = .ok (.ireturn, 1) := by decide +kernel
theorem dX6_tow_0 : decode cX6_tow 0 = .ok (.aload_n 0, 1) := by decide +kernel
theorem dX6_tow_1 : decode cX6_tow 1 = .ok (.getfield 12, 3) := by decide +kernel
theorem dX6_tow_4 : decode cX6_tow 4 = .ok (.iload_n 1, 1) := by decide +kernel
theorem dX6_tow_5 : decode cX6_tow 5 = .ok (.invokevirtual 173, 3) := by decide +kernel
theorem dX6_tow_8 : decode cX6_tow 8 = .ok (.ifCond .ne 13, 3) := by decide +kernel
theorem dX6_tow_11 : decode cX6_tow 11 = .ok (.new 101, 3) := by decide +kernel
theorem dX6_tow_14 : decode cX6_tow 14 = .ok (.dup, 1) := by decide +kernel
theorem dX6_tow_15 : decode cX6_tow 15 = .ok (.ldc 176, 2) := by decide +kernel
theorem dX6_tow_17 : decode cX6_tow 17 = .ok (.invokespecial 105, 3) := by decide +kernel
theorem dX6_tow_20 : decode cX6_tow 20 = .ok (.athrow, 1) := by decide +kernel
theorem dX6_tow_21 : decode cX6_tow 21 = .ok (.aload_n 0, 1) := by decide +kernel
theorem dX6_tow_22 : decode cX6_tow 22 = .ok (.getfield 12, 3) := by decide +kernel
theorem dX6_tow_25 : decode cX6_tow 25 = .ok (.iload_n 1, 1) := by decide +kernel
theorem dX6_tow_26 : decode cX6_tow 26 = .ok (.iload_n 2, 1) := by decide +kernel
theorem dX6_tow_27 : decode cX6_tow 27 = .ok (.invokevirtual 244, 3) := by decide +kernel
theorem dX6_tow_30 : decode cX6_tow 30 = .ok (.ifCond .ne 13, 3) := by decide +kernel
theorem dX6_tow_33 : decode cX6_tow 33 = .ok (.new 74, 3) := by decide +kernel
theorem dX6_tow_36 : decode cX6_tow 36 = .ok (.dup, 1) := by decide +kernel
theorem dX6_tow_37 : decode cX6_tow 37 = .ok (.ldc 247, 2) := by decide +kernel
theorem dX6_tow_39 : decode cX6_tow 39 = .ok (.invokespecial 78, 3) := by decide +kernel
theorem dX6_tow_42 : decode cX6_tow 42 = .ok (.athrow, 1) := by decide +kernel
theorem dX6_tow_43 : decode cX6_tow 43 = .ok (.aload_n 0, 1) := by decide +kernel
theorem dX6_tow_44 : decode cX6_tow 44 = .ok (.getfield 12, 3) := by decide +kernel
theorem dX6_tow_47 : decode cX6_tow 47 = .ok (.iload_n 1, 1) := by decide +kernel
theorem dX6_tow_48 : decode cX6_tow 48 = .ok (.invokevirtual 249, 3) := by decide +kernel
theorem dX6_tow_51 : decode cX6_tow 51 = .ok (.ifCond .eq 13, 3) := by decide +kernel
theorem dX6_tow_54 : decode cX6_tow 54 = .ok (.new 84, 3) := by decide +kernel
theorem dX6_tow_57 : decode cX6_tow 57 = .ok (.dup, 1) := by decide +kernel
theorem dX6_tow_58 : decode cX6_tow 58 = .ok (.ldc 252, 2) := by decide +kernel
theorem dX6_tow_60 : decode cX6_tow 60 = .ok (.invokespecial 88, 3) := by decide +kernel
theorem dX6_tow_63 : decode cX6_tow 63 = .ok (.athrow, 1) := by decide +kernel
theorem dX6_tow_64 : decode cX6_tow 64 = .ok (.aload_n 0, 1) := by decide +kernel
theorem dX6_tow_65 : decode cX6_tow 65 = .ok (.getfield 25, 3) := by decide +kernel
theorem dX6_tow_68 : decode cX6_tow 68 = .ok (.aload_n 0, 1) := by decide +kernel
theorem dX6_tow_69 : decode cX6_tow 69 = .ok (.getfield 12, 3) := by decide +kernel
theorem dX6_tow_72 : decode cX6_tow 72 = .ok (.invokevirtual 89, 3) := by decide +kernel
theorem dX6_tow_75 : decode cX6_tow 75 = .ok (.aload_n 0, 1) := by decide +kernel
theorem dX6_tow_76 : decode cX6_tow 76 = .ok (.getfield 12, 3) := by decide +kernel
theorem dX6_tow_79 : decode cX6_tow 79 = .ok (.iload_n 1, 1) := by decide +kernel
theorem dX6_tow_80 : decode cX6_tow 80 = .ok (.iload_n 2, 1) := by decide +kernel
theorem dX6_tow_81 : decode cX6_tow 81 = .ok (.invokevirtual 254, 3) := by decide +kernel
theorem dX6_tow_84 : decode cX6_tow 84 = .ok (.ireturn, 1) := by decide +kernel
theorem dX6_untow_0 : decode cX6_untow 0 = .ok (.aload_n 0, 1) := by decide +kernel
theorem dX6_untow_1 : decode cX6_untow 1 = .ok (.getfield 12, 3) := by decide +kernel
theorem dX6_untow_4 : decode cX6_untow 4 = .ok (.iload_n 1, 1) := by decide +kernel
theorem dX6_untow_5 : decode cX6_untow 5 = .ok (.invokevirtual 173, 3) := by decide +kernel
theorem dX6_untow_8 : decode cX6_untow 8 = .ok (.ifCond .ne 13, 3) := by decide +kernel
theorem dX6_untow_11 : decode cX6_untow 11 = .ok (.new 101, 3) := by decide +kernel
theorem dX6_untow_14 : decode cX6_untow 14 = .ok (.dup, 1) := by decide +kernel
theorem dX6_untow_15 : decode cX6_untow 15 = .ok (.ldc 176, 2) := by decide +kernel
theorem dX6_untow_17 : decode cX6_untow 17 = .ok (.invokespecial 105, 3) := by decide +kernel
theorem dX6_untow_20 : decode cX6_untow 20 = .ok (.athrow, 1) := by decide +kernel
theorem dX6_untow_21 : decode cX6_untow 21 = .ok (.aload_n 0, 1) := by decide +kernel
theorem dX6_untow_22 : decode cX6_untow 22 = .ok (.getfield 12, 3) := by decide +kernel
theorem dX6_untow_25 : decode cX6_untow 25 = .ok (.iload_n 1, 1) := by decide +kernel
theorem dX6_untow_26 : decode cX6_untow 26 = .ok (.invokevirtual 249, 3) := by decide +kernel
theorem dX6_untow_29 : decode cX6_untow 29 = .ok (.ifCond .ne 14, 3) := by decide +kernel
theorem dX6_untow_32 : decode cX6_untow 32 = .ok (.new 84, 3) := by decide +kernel
theorem dX6_untow_35 : decode cX6_untow 35 = .ok (.dup, 1) := by decide +kernel
theorem dX6_untow_36 : decode cX6_untow 36 = .ok (.ldc_w 257, 3) := by decide +kernel
theorem dX6_untow_39 : decode cX6_untow 39 = .ok (.invokespecial 88, 3) := by decide +kernel
theorem dX6_untow_42 : decode cX6_untow 42 = .ok (.athrow, 1) := by decide +kernel
theorem dX6_untow_43 : decode cX6_untow 43 = .ok (.aload_n 0, 1) := by decide +kernel
theorem dX6_untow_44 : decode cX6_untow 44 = .ok (.getfield 25, 3) := by decide +kernel
theorem dX6_untow_47 : decode cX6_untow 47 = .ok (.aload_n 0, 1) := by decide +kernel
theorem dX6_untow_48 : decode cX6_untow 48 = .ok (.getfield 12, 3) := by decide +kernel
theorem dX6_untow_51 : decode cX6_untow 51 = .ok (.invokevirtual 89, 3) := by decide +kernel
theorem dX6_untow_54 : decode cX6_untow 54 = .ok (.aload_n 0, 1) := by decide +kernel
theorem dX6_untow_55 : decode cX6_untow 55 = .ok (.getfield 12, 3) := by decide +kernel
theorem dX6_untow_58 : decode cX6_untow 58 = .ok (.iload_n 1, 1) := by decide +kernel
theorem dX6_untow_59 : decode cX6_untow 59 = .ok (.invokevirtual 259, 3) := by decide +kernel
theorem dX6_untow_62 : decode cX6_untow 62 = .ok (.ireturn, 1) := by decide +kernel
theorem dX6_delay_0 : decode cX6_delay 0 = .ok (.aload_n 0, 1) := by decide +kernel
theorem dX6_delay_1 : decode cX6_delay 1 = .ok (.getfield 12, 3) := by decide +kernel
theorem dX6_delay_4 : decode cX6_delay 4 = .ok (.iload_n 1, 1) := by decide +kernel
theorem dX6_delay_5 : decode cX6_delay 5 = .ok (.invokevirtual 173, 3) := by decide +kernel
theorem dX6_delay_8 : decode cX6_delay 8 = .ok (.ifCond .ne 13, 3) := by decide +kernel
theorem dX6_delay_11 : decode cX6_delay 11 = .ok (.new 101, 3) := by decide +kernel
theorem dX6_delay_14 : decode cX6_delay 14 = .ok (.dup, 1) := by decide +kernel
theorem dX6_delay_15 : decode cX6_delay 15 = .ok (.ldc 176, 2) := by decide +kernel
theorem dX6_delay_17 : decode cX6_delay 17 = .ok (.invokespecial 105, 3) := by decide +kernel
theorem dX6_delay_20 : decode cX6_delay 20 = .ok (.athrow, 1) := by decide +kernel
theorem dX6_delay_21 : decode cX6_delay 21 = .ok (.iload_n 2, 1) := by decide +kernel
theorem dX6_delay_22 : decode cX6_delay 22 = .ok (.iconst 1, 1) := by decide +kernel
theorem dX6_delay_23 : decode cX6_delay 23 = .ok (.if_icmp .lt 10, 3) := by decide +kernel
theorem dX6_delay_26 : decode cX6_delay 26 = .ok (.iload_n 2, 1) := by decide +kernel
theorem dX6_delay_27 : decode cX6_delay 27 = .ok (.sipush 300, 3) := by decide +kernel
theorem dX6_delay_30 : decode cX6_delay 30 = .ok (.if_icmp .le 14, 3) := by decide +kernel
theorem dX6_delay_33 : decode cX6_delay 33 = .ok (.new 74, 3) := by decide +kernel
theorem dX6_delay_36 : decode cX6_delay 36 = .ok (.dup, 1) := by decide +kernel
theorem dX6_delay_37 : decode cX6_delay 37 = .ok (.ldc_w 262, 3) := by decide +kernel
theorem dX6_delay_40 : decode cX6_delay 40 = .ok (.invokespecial 78, 3) := by decide +kernel
theorem dX6_delay_43 : decode cX6_delay 43 = .ok (.athrow, 1) := by decide +kernel
theorem dX6_delay_44 : decode cX6_delay 44 = .ok (.aload_n 0, 1) := by decide +kernel
theorem dX6_delay_45 : decode cX6_delay 45 = .ok (.getfield 12, 3) := by decide +kernel
theorem dX6_delay_48 : decode cX6_delay 48 = .ok (.iload_n 1, 1) := by decide +kernel
theorem dX6_delay_49 : decode cX6_delay 49 = .ok (.iload_n 2, 1) := by decide +kernel
theorem dX6_delay_50 : decode cX6_delay 50 = .ok (.invokevirtual 264, 3) := by decide +kernel
theorem dX6_delay_53 : decode cX6_delay 53 = .ok (.sipush 1440, 3) := by decide +kernel
theorem dX6_delay_56 : decode cX6_delay 56 = .ok (.if_icmp .le 14, 3) := by decide +kernel
theorem dX6_delay_59 : decode cX6_delay 59 = .ok (.new 84, 3) := by decide +kernel
theorem dX6_delay_62 : decode cX6_delay 62 = .ok (.dup, 1) := by decide +kernel
theorem dX6_delay_63 : decode cX6_delay 63 = .ok (.ldc_w 267, 3) := by decide +kernel
theorem dX6_delay_66 : decode cX6_delay 66 = .ok (.invokespecial 88, 3) := by decide +kernel
theorem dX6_delay_69 : decode cX6_delay 69 = .ok (.athrow, 1) := by decide +kernel
theorem dX6_delay_70 : decode cX6_delay 70 = .ok (.aload_n 0, 1) := by decide +kernel
theorem dX6_delay_71 : decode cX6_delay 71 = .ok (.getfield 25, 3) := by decide +kernel
theorem dX6_delay_74 : decode cX6_delay 74 = .ok (.aload_n 0, 1) := by decide +kernel
theorem dX6_delay_75 : decode cX6_delay 75 = .ok (.getfield 12, 3) := by decide +kernel
theorem dX6_delay_78 : decode cX6_delay 78 = .ok (.invokevirtual 89, 3) := by decide +kernel
theorem dX6_delay_81 : decode cX6_delay 81 = .ok (.aload_n 0, 1) := by decide +kernel
theorem dX6_delay_82 : decode cX6_delay 82 = .ok (.getfield 12, 3) := by decide +kernel
theorem dX6_delay_85 : decode cX6_delay 85 = .ok (.iload_n 1, 1) := by decide +kernel
theorem dX6_delay_86 : decode cX6_delay 86 = .ok (.iload_n 2, 1) := by decide +kernel
theorem dX6_delay_87 : decode cX6_delay 87 = .ok (.invokevirtual 269, 3) := by decide +kernel
theorem dX6_delay_90 : decode cX6_delay 90 = .ok (.ireturn, 1) := by decide +kernel
theorem dX6_assignAll_0 : decode cX6_assignAll 0 = .ok (.aload_n 0, 1) := by decide +kernel
theorem dX6_assignAll_1 : decode cX6_assignAll 1 = .ok (.getfield 25, 3) := by decide +kernel
theorem dX6_assignAll_4 : decode cX6_assignAll 4 = .ok (.aload_n 0, 1) := by decide +kernel
theorem dX6_assignAll_5 : decode cX6_assignAll 5 = .ok (.getfield 12, 3) := by decide +kernel
theorem dX6_assignAll_8 : decode cX6_assignAll 8 = .ok (.invokevirtual 89, 3) := by decide +kernel
theorem dX6_assignAll_11 : decode cX6_assignAll 11 = .ok (.aload_n 0, 1) := by decide +kernel
theorem dX6_assignAll_12 : decode cX6_assignAll 12 = .ok (.getfield 12, 3) := by decide +kernel
theorem dX6_assignAll_15 : decode cX6_assignAll 15 = .ok (.invokevirtual 272, 3) := by decide +kernel
theorem dX6_assignAll_18 : decode cX6_assignAll 18 = .ok (.ireturn, 1) := by decide +kernel
theorem dX6_towGain_0 : decode cX6_towGain 0 = .ok (.aload_n 0, 1) := by decide +kernel
theorem dX6_towGain_1 : decode cX6_towGain 1 = .ok (.getfield 12, 3) := by decide +kernel
theorem dX6_towGain_4 : decode cX6_towGain 4 = .ok (.iload_n 1, 1) := by decide +kernel
theorem dX6_towGain_5 : decode cX6_towGain 5 = .ok (.invokevirtual 173, 3) := by decide +kernel
theorem dX6_towGain_8 : decode cX6_towGain 8 = .ok (.ifCond .ne 13, 3) := by decide +kernel
theorem dX6_towGain_11 : decode cX6_towGain 11 = .ok (.new 101, 3) := by decide +kernel
theorem dX6_towGain_14 : decode cX6_towGain 14 = .ok (.dup, 1) := by decide +kernel
theorem dX6_towGain_15 : decode cX6_towGain 15 = .ok (.ldc 176, 2) := by decide +kernel
theorem dX6_towGain_17 : decode cX6_towGain 17 = .ok (.invokespecial 105, 3) := by decide +kernel
theorem dX6_towGain_20 : decode cX6_towGain 20 = .ok (.athrow, 1) := by decide +kernel
theorem dX6_towGain_21 : decode cX6_towGain 21 = .ok (.aload_n 0, 1) := by decide +kernel
theorem dX6_towGain_22 : decode cX6_towGain 22 = .ok (.getfield 12, 3) := by decide +kernel
theorem dX6_towGain_25 : decode cX6_towGain 25 = .ok (.iload_n 1, 1) := by decide +kernel
theorem dX6_towGain_26 : decode cX6_towGain 26 = .ok (.iload_n 2, 1) := by decide +kernel
theorem dX6_towGain_27 : decode cX6_towGain 27 = .ok (.invokevirtual 244, 3) := by decide +kernel
theorem dX6_towGain_30 : decode cX6_towGain 30 = .ok (.ifCond .ne 13, 3) := by decide +kernel
theorem dX6_towGain_33 : decode cX6_towGain 33 = .ok (.new 74, 3) := by decide +kernel
theorem dX6_towGain_36 : decode cX6_towGain 36 = .ok (.dup, 1) := by decide +kernel
theorem dX6_towGain_37 : decode cX6_towGain 37 = .ok (.ldc 247, 2) := by decide +kernel
theorem dX6_towGain_39 : decode cX6_towGain 39 = .ok (.invokespecial 78, 3) := by decide +kernel
theorem dX6_towGain_42 : decode cX6_towGain 42 = .ok (.athrow, 1) := by decide +kernel
theorem dX6_towGain_43 : decode cX6_towGain 43 = .ok (.aload_n 0, 1) := by decide +kernel
theorem dX6_towGain_44 : decode cX6_towGain 44 = .ok (.getfield 12, 3) := by decide +kernel
theorem dX6_towGain_47 : decode cX6_towGain 47 = .ok (.iload_n 1, 1) := by decide +kernel
theorem dX6_towGain_48 : decode cX6_towGain 48 = .ok (.invokevirtual 249, 3) := by decide +kernel
theorem dX6_towGain_51 : decode cX6_towGain 51 = .ok (.ifCond .eq 13, 3) := by decide +kernel
theorem dX6_towGain_54 : decode cX6_towGain 54 = .ok (.new 84, 3) := by decide +kernel
theorem dX6_towGain_57 : decode cX6_towGain 57 = .ok (.dup, 1) := by decide +kernel
theorem dX6_towGain_58 : decode cX6_towGain 58 = .ok (.ldc 252, 2) := by decide +kernel
theorem dX6_towGain_60 : decode cX6_towGain 60 = .ok (.invokespecial 88, 3) := by decide +kernel
theorem dX6_towGain_63 : decode cX6_towGain 63 = .ok (.athrow, 1) := by decide +kernel
theorem dX6_towGain_64 : decode cX6_towGain 64 = .ok (.aload_n 0, 1) := by decide +kernel
theorem dX6_towGain_65 : decode cX6_towGain 65 = .ok (.getfield 16, 3) := by decide +kernel
theorem dX6_towGain_68 : decode cX6_towGain 68 = .ok (.aload_n 0, 1) := by decide +kernel
theorem dX6_towGain_69 : decode cX6_towGain 69 = .ok (.getfield 12, 3) := by decide +kernel
theorem dX6_towGain_72 : decode cX6_towGain 72 = .ok (.invokevirtual 276, 3) := by decide +kernel
theorem dX6_towGain_75 : decode cX6_towGain 75 = .ok (.aload_n 0, 1) := by decide +kernel
theorem dX6_towGain_76 : decode cX6_towGain 76 = .ok (.getfield 16, 3) := by decide +kernel
theorem dX6_towGain_79 : decode cX6_towGain 79 = .ok (.invokevirtual 272, 3) := by decide +kernel
theorem dX6_towGain_82 : decode cX6_towGain 82 = .ok (.pop, 1) := by decide +kernel
theorem dX6_towGain_83 : decode cX6_towGain 83 = .ok (.aload_n 0, 1) := by decide +kernel
theorem dX6_towGain_84 : decode cX6_towGain 84 = .ok (.getfield 16, 3) := by decide +kernel
theorem dX6_towGain_87 : decode cX6_towGain 87 = .ok (.invokevirtual 279, 3) := by decide +kernel
theorem dX6_towGain_90 : decode cX6_towGain 90 = .ok (.istore_n 3, 1) := by decide +kernel
theorem dX6_towGain_91 : decode cX6_towGain 91 = .ok (.aload_n 0, 1) := by decide +kernel
theorem dX6_towGain_92 : decode cX6_towGain 92 = .ok (.getfield 16, 3) := by decide +kernel
theorem dX6_towGain_95 : decode cX6_towGain 95 = .ok (.aload_n 0, 1) := by decide +kernel
theorem dX6_towGain_96 : decode cX6_towGain 96 = .ok (.getfield 12, 3) := by decide +kernel
theorem dX6_towGain_99 : decode cX6_towGain 99 = .ok (.invokevirtual 276, 3) := by decide +kernel
theorem dX6_towGain_102 : decode cX6_towGain 102 = .ok (.aload_n 0, 1) := by decide +kernel
theorem dX6_towGain_103 : decode cX6_towGain 103 = .ok (.getfield 16, 3) := by decide +kernel
theorem dX6_towGain_106 : decode cX6_towGain 106 = .ok (.iload_n 1, 1) := by decide +kernel
theorem dX6_towGain_107 : decode cX6_towGain 107 = .ok (.iload_n 2, 1) := by decide +kernel
theorem dX6_towGain_108 : decode cX6_towGain 108 = .ok (.invokevirtual 254, 3) := by decide +kernel
theorem dX6_towGain_111 : decode cX6_towGain 111 = .ok (.pop, 1) := by decide +kernel
theorem dX6_towGain_112 : decode cX6_towGain 112 = .ok (.aload_n 0, 1) := by decide +kernel
theorem dX6_towGain_113 : decode cX6_towGain 113 = .ok (.getfield 16, 3) := by decide +kernel
theorem dX6_towGain_116 : decode cX6_towGain 116 = .ok (.invokevirtual 272, 3) := by decide +kernel
theorem dX6_towGain_119 : decode cX6_towGain 119 = .ok (.pop, 1) := by decide +kernel
theorem dX6_towGain_120 : decode cX6_towGain 120 = .ok (.iload_n 3, 1) := by decide +kernel
theorem dX6_towGain_121 : decode cX6_towGain 121 = .ok (.aload_n 0, 1) := by decide +kernel
theorem dX6_towGain_122 : decode cX6_towGain 122 = .ok (.getfield 16, 3) := by decide +kernel
theorem dX6_towGain_125 : decode cX6_towGain 125 = .ok (.invokevirtual 279, 3) := by decide +kernel
theorem dX6_towGain_128 : decode cX6_towGain 128 = .ok (.isub, 1) := by decide +kernel
theorem dX6_towGain_129 : decode cX6_towGain 129 = .ok (.ireturn, 1) := by decide +kernel
theorem dX6_leastMoves_0 : decode cX6_leastMoves 0 = .ok (.aload_n 0, 1) := by decide +kernel
theorem dX6_leastMoves_1 : decode cX6_leastMoves 1 = .ok (.getfield 39, 3) := by decide +kernel
theorem dX6_leastMoves_4 : decode cX6_leastMoves 4 = .ok (.aload_n 0, 1) := by decide +kernel
theorem dX6_leastMoves_5 : decode cX6_leastMoves 5 = .ok (.getfield 12, 3) := by decide +kernel
theorem dX6_leastMoves_8 : decode cX6_leastMoves 8 = .ok (.invokevirtual 282, 3) := by decide +kernel
theorem dX6_leastMoves_11 : decode cX6_leastMoves 11 = .ok (.ifCond .ne 14, 3) := by decide +kernel
theorem dX6_leastMoves_14 : decode cX6_leastMoves 14 = .ok (.new 155, 3) := by decide +kernel
theorem dX6_leastMoves_17 : decode cX6_leastMoves 17 = .ok (.dup, 1) := by decide +kernel
theorem dX6_leastMoves_18 : decode cX6_leastMoves 18 = .ok (.ldc_w 286, 3) := by decide +kernel
theorem dX6_leastMoves_21 : decode cX6_leastMoves 21 = .ok (.invokespecial 159, 3) := by decide +kernel
theorem dX6_leastMoves_24 : decode cX6_leastMoves 24 = .ok (.athrow, 1) := by decide +kernel
theorem dX6_leastMoves_25 : decode cX6_leastMoves 25 = .ok (.aload_n 0, 1) := by decide +kernel
theorem dX6_leastMoves_26 : decode cX6_leastMoves 26 = .ok (.getfield 39, 3) := by decide +kernel
theorem dX6_leastMoves_29 : decode cX6_leastMoves 29 = .ok (.getfield 288, 3) := by decide +kernel
theorem dX6_leastMoves_32 : decode cX6_leastMoves 32 = .ok (.ireturn, 1) := by decide +kernel
theorem dX6_leastAgain_0 : decode cX6_leastAgain 0 = .ok (.aload_n 0, 1) := by decide +kernel
theorem dX6_leastAgain_1 : decode cX6_leastAgain 1 = .ok (.getfield 46, 3) := by decide +kernel
theorem dX6_leastAgain_4 : decode cX6_leastAgain 4 = .ok (.aload_n 0, 1) := by decide +kernel
theorem dX6_leastAgain_5 : decode cX6_leastAgain 5 = .ok (.getfield 12, 3) := by decide +kernel
theorem dX6_leastAgain_8 : decode cX6_leastAgain 8 = .ok (.invokevirtual 291, 3) := by decide +kernel
theorem dX6_leastAgain_11 : decode cX6_leastAgain 11 = .ok (.istore_n 1, 1) := by decide +kernel
theorem dX6_leastAgain_12 : decode cX6_leastAgain 12 = .ok (.iload_n 1, 1) := by decide +kernel
theorem dX6_leastAgain_13 : decode cX6_leastAgain 13 = .ok (.iconst 3, 1) := by decide +kernel
theorem dX6_leastAgain_14 : decode cX6_leastAgain 14 = .ok (.if_icmp .le 14, 3) := by decide +kernel
theorem dX6_leastAgain_17 : decode cX6_leastAgain 17 = .ok (.new 155, 3) := by decide +kernel
theorem dX6_leastAgain_20 : decode cX6_leastAgain 20 = .ok (.dup, 1) := by decide +kernel
theorem dX6_leastAgain_21 : decode cX6_leastAgain 21 = .ok (.ldc_w 286, 3) := by decide +kernel
theorem dX6_leastAgain_24 : decode cX6_leastAgain 24 = .ok (.invokespecial 159, 3) := by decide +kernel
theorem dX6_leastAgain_27 : decode cX6_leastAgain 27 = .ok (.athrow, 1) := by decide +kernel
theorem dX6_leastAgain_28 : decode cX6_leastAgain 28 = .ok (.iload_n 1, 1) := by decide +kernel
theorem dX6_leastAgain_29 : decode cX6_leastAgain 29 = .ok (.ireturn, 1) := by decide +kernel
theorem dX6_moveOf_0 : decode cX6_moveOf 0 = .ok (.aload_n 0, 1) := by decide +kernel
theorem dX6_moveOf_1 : decode cX6_moveOf 1 = .ok (.getfield 39, 3) := by decide +kernel
theorem dX6_moveOf_4 : decode cX6_moveOf 4 = .ok (.aload_n 0, 1) := by decide +kernel
theorem dX6_moveOf_5 : decode cX6_moveOf 5 = .ok (.getfield 12, 3) := by decide +kernel
theorem dX6_moveOf_8 : decode cX6_moveOf 8 = .ok (.invokevirtual 282, 3) := by decide +kernel
theorem dX6_moveOf_11 : decode cX6_moveOf 11 = .ok (.ifCond .eq 18, 3) := by decide +kernel
theorem dX6_moveOf_14 : decode cX6_moveOf 14 = .ok (.iload_n 1, 1) := by decide +kernel
theorem dX6_moveOf_15 : decode cX6_moveOf 15 = .ok (.ifCond .lt 14, 3) := by decide +kernel
theorem dX6_moveOf_18 : decode cX6_moveOf 18 = .ok (.iload_n 1, 1) := by decide +kernel
theorem dX6_moveOf_19 : decode cX6_moveOf 19 = .ok (.aload_n 0, 1) := by decide +kernel
theorem dX6_moveOf_20 : decode cX6_moveOf 20 = .ok (.getfield 39, 3) := by decide +kernel
theorem dX6_moveOf_23 : decode cX6_moveOf 23 = .ok (.getfield 288, 3) := by decide +kernel
theorem dX6_moveOf_26 : decode cX6_moveOf 26 = .ok (.if_icmp .lt 14, 3) := by decide +kernel
theorem dX6_moveOf_29 : decode cX6_moveOf 29 = .ok (.new 155, 3) := by decide +kernel
theorem dX6_moveOf_32 : decode cX6_moveOf 32 = .ok (.dup, 1) := by decide +kernel
theorem dX6_moveOf_33 : decode cX6_moveOf 33 = .ok (.ldc_w 295, 3) := by decide +kernel
theorem dX6_moveOf_36 : decode cX6_moveOf 36 = .ok (.invokespecial 159, 3) := by decide +kernel
theorem dX6_moveOf_39 : decode cX6_moveOf 39 = .ok (.athrow, 1) := by decide +kernel
theorem dX6_moveOf_40 : decode cX6_moveOf 40 = .ok (.iload_n 2, 1) := by decide +kernel
theorem dX6_moveOf_41 : decode cX6_moveOf 41 = .ok (.ifCond .eq 15, 3) := by decide +kernel
theorem dX6_moveOf_44 : decode cX6_moveOf 44 = .ok (.aload_n 0, 1) := by decide +kernel
theorem dX6_moveOf_45 : decode cX6_moveOf 45 = .ok (.getfield 39, 3) := by decide +kernel
theorem dX6_moveOf_48 : decode cX6_moveOf 48 = .ok (.getfield 297, 3) := by decide +kernel
theorem dX6_moveOf_51 : decode cX6_moveOf 51 = .ok (.iload_n 1, 1) := by decide +kernel
theorem dX6_moveOf_52 : decode cX6_moveOf 52 = .ok (.iaload, 1) := by decide +kernel
theorem dX6_moveOf_53 : decode cX6_moveOf 53 = .ok (.goto 12, 3) := by decide +kernel
theorem dX6_moveOf_56 : decode cX6_moveOf 56 = .ok (.aload_n 0, 1) := by decide +kernel
theorem dX6_moveOf_57 : decode cX6_moveOf 57 = .ok (.getfield 39, 3) := by decide +kernel
theorem dX6_moveOf_60 : decode cX6_moveOf 60 = .ok (.getfield 300, 3) := by decide +kernel
theorem dX6_moveOf_63 : decode cX6_moveOf 63 = .ok (.iload_n 1, 1) := by decide +kernel
theorem dX6_moveOf_64 : decode cX6_moveOf 64 = .ok (.iaload, 1) := by decide +kernel
theorem dX6_moveOf_65 : decode cX6_moveOf 65 = .ok (.ireturn, 1) := by decide +kernel
theorem dX6_repair_0 : decode cX6_repair 0 = .ok (.aload_n 0, 1) := by decide +kernel
theorem dX6_repair_1 : decode cX6_repair 1 = .ok (.getfield 39, 3) := by decide +kernel
theorem dX6_repair_4 : decode cX6_repair 4 = .ok (.aload_n 0, 1) := by decide +kernel
theorem dX6_repair_5 : decode cX6_repair 5 = .ok (.getfield 12, 3) := by decide +kernel
theorem dX6_repair_8 : decode cX6_repair 8 = .ok (.invokevirtual 282, 3) := by decide +kernel
theorem dX6_repair_11 : decode cX6_repair 11 = .ok (.ifCond .ne 14, 3) := by decide +kernel
theorem dX6_repair_14 : decode cX6_repair 14 = .ok (.new 155, 3) := by decide +kernel
theorem dX6_repair_17 : decode cX6_repair 17 = .ok (.dup, 1) := by decide +kernel
theorem dX6_repair_18 : decode cX6_repair 18 = .ok (.ldc_w 286, 3) := by decide +kernel
theorem dX6_repair_21 : decode cX6_repair 21 = .ok (.invokespecial 159, 3) := by decide +kernel
theorem dX6_repair_24 : decode cX6_repair 24 = .ok (.athrow, 1) := by decide +kernel
theorem dX6_repair_25 : decode cX6_repair 25 = .ok (.aload_n 0, 1) := by decide +kernel
theorem dX6_repair_26 : decode cX6_repair 26 = .ok (.getfield 25, 3) := by decide +kernel
theorem dX6_repair_29 : decode cX6_repair 29 = .ok (.aload_n 0, 1) := by decide +kernel
theorem dX6_repair_30 : decode cX6_repair 30 = .ok (.getfield 12, 3) := by decide +kernel
theorem dX6_repair_33 : decode cX6_repair 33 = .ok (.invokevirtual 89, 3) := by decide +kernel
theorem dX6_repair_36 : decode cX6_repair 36 = .ok (.iconst 0, 1) := by decide +kernel
theorem dX6_repair_37 : decode cX6_repair 37 = .ok (.istore_n 1, 1) := by decide +kernel
theorem dX6_repair_38 : decode cX6_repair 38 = .ok (.iload_n 1, 1) := by decide +kernel
theorem dX6_repair_39 : decode cX6_repair 39 = .ok (.aload_n 0, 1) := by decide +kernel
theorem dX6_repair_40 : decode cX6_repair 40 = .ok (.getfield 39, 3) := by decide +kernel
theorem dX6_repair_43 : decode cX6_repair 43 = .ok (.getfield 288, 3) := by decide +kernel
theorem dX6_repair_46 : decode cX6_repair 46 = .ok (.if_icmp .ge 35, 3) := by decide +kernel
theorem dX6_repair_49 : decode cX6_repair 49 = .ok (.aload_n 0, 1) := by decide +kernel
theorem dX6_repair_50 : decode cX6_repair 50 = .ok (.getfield 12, 3) := by decide +kernel
theorem dX6_repair_53 : decode cX6_repair 53 = .ok (.getfield 210, 3) := by decide +kernel
theorem dX6_repair_56 : decode cX6_repair 56 = .ok (.aload_n 0, 1) := by decide +kernel
theorem dX6_repair_57 : decode cX6_repair 57 = .ok (.getfield 39, 3) := by decide +kernel
theorem dX6_repair_60 : decode cX6_repair 60 = .ok (.getfield 300, 3) := by decide +kernel
theorem dX6_repair_63 : decode cX6_repair 63 = .ok (.iload_n 1, 1) := by decide +kernel
theorem dX6_repair_64 : decode cX6_repair 64 = .ok (.iaload, 1) := by decide +kernel
theorem dX6_repair_65 : decode cX6_repair 65 = .ok (.aload_n 0, 1) := by decide +kernel
theorem dX6_repair_66 : decode cX6_repair 66 = .ok (.getfield 39, 3) := by decide +kernel
theorem dX6_repair_69 : decode cX6_repair 69 = .ok (.getfield 297, 3) := by decide +kernel
theorem dX6_repair_72 : decode cX6_repair 72 = .ok (.iload_n 1, 1) := by decide +kernel
theorem dX6_repair_73 : decode cX6_repair 73 = .ok (.iaload, 1) := by decide +kernel
theorem dX6_repair_74 : decode cX6_repair 74 = .ok (.iastore, 1) := by decide +kernel
theorem dX6_repair_75 : decode cX6_repair 75 = .ok (.iinc 1 1, 3) := by decide +kernel
theorem dX6_repair_78 : decode cX6_repair 78 = .ok (.goto (-40), 3) := by decide +kernel
theorem dX6_repair_81 : decode cX6_repair 81 = .ok (.aload_n 0, 1) := by decide +kernel
theorem dX6_repair_82 : decode cX6_repair 82 = .ok (.getfield 12, 3) := by decide +kernel
theorem dX6_repair_85 : decode cX6_repair 85 = .ok (.dup, 1) := by decide +kernel
theorem dX6_repair_86 : decode cX6_repair 86 = .ok (.getfield 303, 3) := by decide +kernel
theorem dX6_repair_89 : decode cX6_repair 89 = .ok (.aload_n 0, 1) := by decide +kernel
theorem dX6_repair_90 : decode cX6_repair 90 = .ok (.getfield 39, 3) := by decide +kernel
theorem dX6_repair_93 : decode cX6_repair 93 = .ok (.getfield 288, 3) := by decide +kernel
theorem dX6_repair_96 : decode cX6_repair 96 = .ok (.iadd, 1) := by decide +kernel
theorem dX6_repair_97 : decode cX6_repair 97 = .ok (.putfield 303, 3) := by decide +kernel
theorem dX6_repair_100 : decode cX6_repair 100 = .ok (.aload_n 0, 1) := by decide +kernel
theorem dX6_repair_101 : decode cX6_repair 101 = .ok (.getfield 39, 3) := by decide +kernel
theorem dX6_repair_104 : decode cX6_repair 104 = .ok (.getfield 288, 3) := by decide +kernel
theorem dX6_repair_107 : decode cX6_repair 107 = .ok (.ireturn, 1) := by decide +kernel
theorem dX6_conflicts_0 : decode cX6_conflicts 0 = .ok (.iconst 0, 1) := by decide +kernel
theorem dX6_conflicts_1 : decode cX6_conflicts 1 = .ok (.istore_n 1, 1) := by decide +kernel
theorem dX6_conflicts_2 : decode cX6_conflicts 2 = .ok (.iconst 0, 1) := by decide +kernel
theorem dX6_conflicts_3 : decode cX6_conflicts 3 = .ok (.istore_n 2, 1) := by decide +kernel
theorem dX6_conflicts_4 : decode cX6_conflicts 4 = .ok (.iload_n 2, 1) := by decide +kernel
theorem dX6_conflicts_5 : decode cX6_conflicts 5 = .ok (.bipush 20, 2) := by decide +kernel
theorem dX6_conflicts_7 : decode cX6_conflicts 7 = .ok (.if_icmp .ge 23, 3) := by decide +kernel
theorem dX6_conflicts_10 : decode cX6_conflicts 10 = .ok (.iload_n 1, 1) := by decide +kernel
theorem dX6_conflicts_11 : decode cX6_conflicts 11 = .ok (.aload_n 0, 1) := by decide +kernel
theorem dX6_conflicts_12 : decode cX6_conflicts 12 = .ok (.getfield 12, 3) := by decide +kernel
theorem dX6_conflicts_15 : decode cX6_conflicts 15 = .ok (.iload_n 2, 1) := by decide +kernel
theorem dX6_conflicts_16 : decode cX6_conflicts 16 = .ok (.invokevirtual 216, 3) := by decide +kernel
theorem dX6_conflicts_19 : decode cX6_conflicts 19 = .ok (.invokestatic 137, 3) := by decide +kernel
theorem dX6_conflicts_22 : decode cX6_conflicts 22 = .ok (.iadd, 1) := by decide +kernel
theorem dX6_conflicts_23 : decode cX6_conflicts 23 = .ok (.istore_n 1, 1) := by decide +kernel
theorem dX6_conflicts_24 : decode cX6_conflicts 24 = .ok (.iinc 2 1, 3) := by decide +kernel
theorem dX6_conflicts_27 : decode cX6_conflicts 27 = .ok (.goto (-23), 3) := by decide +kernel
theorem dX6_conflicts_30 : decode cX6_conflicts 30 = .ok (.iload_n 1, 1) := by decide +kernel
theorem dX6_conflicts_31 : decode cX6_conflicts 31 = .ok (.iconst 1, 1) := by decide +kernel
theorem dX6_conflicts_32 : decode cX6_conflicts 32 = .ok (.ishr, 1) := by decide +kernel
theorem dX6_conflicts_33 : decode cX6_conflicts 33 = .ok (.ireturn, 1) := by decide +kernel
theorem dX6_account_0 : decode cX6_account 0 = .ok (.iload_n 1, 1) := by decide +kernel
theorem dX6_account_1 : decode cX6_account 1 = .ok (.tableswitch 181 0 10 #[59, 67, 75, 86, 97, 105, 124, 139, 154, 165, 173], 59) := by decide +kernel
theorem dX6_account_60 : decode cX6_account 60 = .ok (.aload_n 0, 1) := by decide +kernel
theorem dX6_account_61 : decode cX6_account 61 = .ok (.getfield 12, 3) := by decide +kernel
theorem dX6_account_64 : decode cX6_account 64 = .ok (.getfield 81, 3) := by decide +kernel
theorem dX6_account_67 : decode cX6_account 67 = .ok (.ireturn, 1) := by decide +kernel
theorem dX6_account_68 : decode cX6_account 68 = .ok (.aload_n 0, 1) := by decide +kernel
theorem dX6_account_69 : decode cX6_account 69 = .ok (.getfield 12, 3) := by decide +kernel
theorem dX6_account_72 : decode cX6_account 72 = .ok (.getfield 65, 3) := by decide +kernel
theorem dX6_account_75 : decode cX6_account 75 = .ok (.ireturn, 1) := by decide +kernel
theorem dX6_account_76 : decode cX6_account 76 = .ok (.aload_n 0, 1) := by decide +kernel
theorem dX6_account_77 : decode cX6_account 77 = .ok (.getfield 12, 3) := by decide +kernel
theorem dX6_account_80 : decode cX6_account 80 = .ok (.invokevirtual 306, 3) := by decide +kernel
theorem dX6_account_83 : decode cX6_account 83 = .ok (.invokestatic 137, 3) := by decide +kernel
theorem dX6_account_86 : decode cX6_account 86 = .ok (.ireturn, 1) := by decide +kernel
theorem dX6_account_87 : decode cX6_account 87 = .ok (.aload_n 0, 1) := by decide +kernel
theorem dX6_account_88 : decode cX6_account 88 = .ok (.getfield 12, 3) := by decide +kernel
theorem dX6_account_91 : decode cX6_account 91 = .ok (.invokevirtual 309, 3) := by decide +kernel
theorem dX6_account_94 : decode cX6_account 94 = .ok (.invokestatic 137, 3) := by decide +kernel
theorem dX6_account_97 : decode cX6_account 97 = .ok (.ireturn, 1) := by decide +kernel
theorem dX6_account_98 : decode cX6_account 98 = .ok (.aload_n 0, 1) := by decide +kernel
theorem dX6_account_99 : decode cX6_account 99 = .ok (.getfield 12, 3) := by decide +kernel
theorem dX6_account_102 : decode cX6_account 102 = .ok (.invokevirtual 279, 3) := by decide +kernel
theorem dX6_account_105 : decode cX6_account 105 = .ok (.ireturn, 1) := by decide +kernel
theorem dX6_account_106 : decode cX6_account 106 = .ok (.aload_n 0, 1) := by decide +kernel
theorem dX6_account_107 : decode cX6_account 107 = .ok (.getfield 12, 3) := by decide +kernel
theorem dX6_account_110 : decode cX6_account 110 = .ok (.invokevirtual 306, 3) := by decide +kernel
theorem dX6_account_113 : decode cX6_account 113 = .ok (.invokestatic 137, 3) := by decide +kernel
theorem dX6_account_116 : decode cX6_account 116 = .ok (.aload_n 0, 1) := by decide +kernel
theorem dX6_account_117 : decode cX6_account 117 = .ok (.getfield 12, 3) := by decide +kernel
theorem dX6_account_120 : decode cX6_account 120 = .ok (.getfield 65, 3) := by decide +kernel
theorem dX6_account_123 : decode cX6_account 123 = .ok (.isub, 1) := by decide +kernel
theorem dX6_account_124 : decode cX6_account 124 = .ok (.ireturn, 1) := by decide +kernel
theorem dX6_account_125 : decode cX6_account 125 = .ok (.aload_n 0, 1) := by decide +kernel
theorem dX6_account_126 : decode cX6_account 126 = .ok (.getfield 12, 3) := by decide +kernel
theorem dX6_account_129 : decode cX6_account 129 = .ok (.aload_n 0, 1) := by decide +kernel
theorem dX6_account_130 : decode cX6_account 130 = .ok (.getfield 12, 3) := by decide +kernel
theorem dX6_account_133 : decode cX6_account 133 = .ok (.invokevirtual 306, 3) := by decide +kernel
theorem dX6_account_136 : decode cX6_account 136 = .ok (.invokevirtual 142, 3) := by decide +kernel
theorem dX6_account_139 : decode cX6_account 139 = .ok (.ireturn, 1) := by decide +kernel
theorem dX6_account_140 : decode cX6_account 140 = .ok (.aload_n 0, 1) := by decide +kernel
theorem dX6_account_141 : decode cX6_account 141 = .ok (.getfield 12, 3) := by decide +kernel
theorem dX6_account_144 : decode cX6_account 144 = .ok (.aload_n 0, 1) := by decide +kernel
theorem dX6_account_145 : decode cX6_account 145 = .ok (.getfield 12, 3) := by decide +kernel
theorem dX6_account_148 : decode cX6_account 148 = .ok (.invokevirtual 309, 3) := by decide +kernel
theorem dX6_account_151 : decode cX6_account 151 = .ok (.invokevirtual 142, 3) := by decide +kernel
theorem dX6_account_154 : decode cX6_account 154 = .ok (.ireturn, 1) := by decide +kernel
theorem dX6_account_155 : decode cX6_account 155 = .ok (.aload_n 0, 1) := by decide +kernel
theorem dX6_account_156 : decode cX6_account 156 = .ok (.getfield 12, 3) := by decide +kernel
theorem dX6_account_159 : decode cX6_account 159 = .ok (.invokevirtual 312, 3) := by decide +kernel
theorem dX6_account_162 : decode cX6_account 162 = .ok (.invokestatic 137, 3) := by decide +kernel
theorem dX6_account_165 : decode cX6_account 165 = .ok (.ireturn, 1) := by decide +kernel
theorem dX6_account_166 : decode cX6_account 166 = .ok (.aload_n 0, 1) := by decide +kernel
theorem dX6_account_167 : decode cX6_account 167 = .ok (.getfield 12, 3) := by decide +kernel
theorem dX6_account_170 : decode cX6_account 170 = .ok (.getfield 303, 3) := by decide +kernel
theorem dX6_account_173 : decode cX6_account 173 = .ok (.ireturn, 1) := by decide +kernel
theorem dX6_account_174 : decode cX6_account 174 = .ok (.aload_n 0, 1) := by decide +kernel
theorem dX6_account_175 : decode cX6_account 175 = .ok (.getfield 12, 3) := by decide +kernel
theorem dX6_account_178 : decode cX6_account 178 = .ok (.invokevirtual 315, 3) := by decide +kernel
theorem dX6_account_181 : decode cX6_account 181 = .ok (.ireturn, 1) := by decide +kernel
theorem dX6_account_182 : decode cX6_account 182 = .ok (.new 74, 3) := by decide +kernel
theorem dX6_account_185 : decode cX6_account 185 = .ok (.dup, 1) := by decide +kernel
theorem dX6_account_186 : decode cX6_account 186 = .ok (.ldc_w 318, 3) := by decide +kernel
theorem dX6_account_189 : decode cX6_account 189 = .ok (.invokespecial 78, 3) := by decide +kernel
theorem dX6_account_192 : decode cX6_account 192 = .ok (.athrow, 1) := by decide +kernel
theorem dX6_minutes_0 : decode cX6_minutes 0 = .ok (.aload_n 0, 1) := by decide +kernel
theorem dX6_minutes_1 : decode cX6_minutes 1 = .ok (.getfield 50, 3) := by decide +kernel
theorem dX6_minutes_4 : decode cX6_minutes 4 = .ok (.iconst 0, 1) := by decide +kernel
theorem dX6_minutes_5 : decode cX6_minutes 5 = .ok (.invokestatic 320, 3) := by decide +kernel
theorem dX6_minutes_8 : decode cX6_minutes 8 = .ok (.iconst 0, 1) := by decide +kernel
theorem dX6_minutes_9 : decode cX6_minutes 9 = .ok (.istore_n 1, 1) := by decide +kernel
theorem dX6_minutes_10 : decode cX6_minutes 10 = .ok (.iload_n 1, 1) := by decide +kernel
theorem dX6_minutes_11 : decode cX6_minutes 11 = .ok (.bipush 20, 2) := by decide +kernel
theorem dX6_minutes_13 : decode cX6_minutes 13 = .ok (.if_icmp .ge 56, 3) := by decide +kernel
theorem dX6_minutes_16 : decode cX6_minutes 16 = .ok (.aload_n 0, 1) := by decide +kernel
theorem dX6_minutes_17 : decode cX6_minutes 17 = .ok (.getfield 12, 3) := by decide +kernel
theorem dX6_minutes_20 : decode cX6_minutes 20 = .ok (.iload_n 1, 1) := by decide +kernel
theorem dX6_minutes_21 : decode cX6_minutes 21 = .ok (.invokevirtual 326, 3) := by decide +kernel
theorem dX6_minutes_24 : decode cX6_minutes 24 = .ok (.ifCond .eq 39, 3) := by decide +kernel
theorem dX6_minutes_27 : decode cX6_minutes 27 = .ok (.aload_n 0, 1) := by decide +kernel
theorem dX6_minutes_28 : decode cX6_minutes 28 = .ok (.getfield 50, 3) := by decide +kernel
theorem dX6_minutes_31 : decode cX6_minutes 31 = .ok (.aload_n 0, 1) := by decide +kernel
theorem dX6_minutes_32 : decode cX6_minutes 32 = .ok (.getfield 12, 3) := by decide +kernel
theorem dX6_minutes_35 : decode cX6_minutes 35 = .ok (.getfield 204, 3) := by decide +kernel
theorem dX6_minutes_38 : decode cX6_minutes 38 = .ok (.iload_n 1, 1) := by decide +kernel
theorem dX6_minutes_39 : decode cX6_minutes 39 = .ok (.iaload, 1) := by decide +kernel
theorem dX6_minutes_40 : decode cX6_minutes 40 = .ok (.dup2, 1) := by decide +kernel
theorem dX6_minutes_41 : decode cX6_minutes 41 = .ok (.iaload, 1) := by decide +kernel
theorem dX6_minutes_42 : decode cX6_minutes 42 = .ok (.iconst 1, 1) := by decide +kernel
theorem dX6_minutes_43 : decode cX6_minutes 43 = .ok (.iadd, 1) := by decide +kernel
theorem dX6_minutes_44 : decode cX6_minutes 44 = .ok (.iastore, 1) := by decide +kernel
theorem dX6_minutes_45 : decode cX6_minutes 45 = .ok (.aload_n 0, 1) := by decide +kernel
theorem dX6_minutes_46 : decode cX6_minutes 46 = .ok (.getfield 50, 3) := by decide +kernel
theorem dX6_minutes_49 : decode cX6_minutes 49 = .ok (.aload_n 0, 1) := by decide +kernel
theorem dX6_minutes_50 : decode cX6_minutes 50 = .ok (.getfield 12, 3) := by decide +kernel
theorem dX6_minutes_53 : decode cX6_minutes 53 = .ok (.getfield 207, 3) := by decide +kernel
theorem dX6_minutes_56 : decode cX6_minutes 56 = .ok (.iload_n 1, 1) := by decide +kernel
theorem dX6_minutes_57 : decode cX6_minutes 57 = .ok (.iaload, 1) := by decide +kernel
theorem dX6_minutes_58 : decode cX6_minutes 58 = .ok (.dup2, 1) := by decide +kernel
theorem dX6_minutes_59 : decode cX6_minutes 59 = .ok (.iaload, 1) := by decide +kernel
theorem dX6_minutes_60 : decode cX6_minutes 60 = .ok (.iconst 1, 1) := by decide +kernel
theorem dX6_minutes_61 : decode cX6_minutes 61 = .ok (.isub, 1) := by decide +kernel
theorem dX6_minutes_62 : decode cX6_minutes 62 = .ok (.iastore, 1) := by decide +kernel
theorem dX6_minutes_63 : decode cX6_minutes 63 = .ok (.iinc 1 1, 3) := by decide +kernel
theorem dX6_minutes_66 : decode cX6_minutes 66 = .ok (.goto (-56), 3) := by decide +kernel
theorem dX6_minutes_69 : decode cX6_minutes 69 = .ok (.iconst 0, 1) := by decide +kernel
theorem dX6_minutes_70 : decode cX6_minutes 70 = .ok (.istore_n 1, 1) := by decide +kernel
theorem dX6_minutes_71 : decode cX6_minutes 71 = .ok (.iconst 0, 1) := by decide +kernel
theorem dX6_minutes_72 : decode cX6_minutes 72 = .ok (.istore_n 2, 1) := by decide +kernel
theorem dX6_minutes_73 : decode cX6_minutes 73 = .ok (.iconst 0, 1) := by decide +kernel
theorem dX6_minutes_74 : decode cX6_minutes 74 = .ok (.istore_n 3, 1) := by decide +kernel
theorem dX6_minutes_75 : decode cX6_minutes 75 = .ok (.iload_n 3, 1) := by decide +kernel
theorem dX6_minutes_76 : decode cX6_minutes 76 = .ok (.sipush 1440, 3) := by decide +kernel
theorem dX6_minutes_79 : decode cX6_minutes 79 = .ok (.if_icmp .ge 22, 3) := by decide +kernel
theorem dX6_minutes_82 : decode cX6_minutes 82 = .ok (.iload_n 1, 1) := by decide +kernel
theorem dX6_minutes_83 : decode cX6_minutes 83 = .ok (.aload_n 0, 1) := by decide +kernel
theorem dX6_minutes_84 : decode cX6_minutes 84 = .ok (.getfield 50, 3) := by decide +kernel
theorem dX6_minutes_87 : decode cX6_minutes 87 = .ok (.iload_n 3, 1) := by decide +kernel
theorem dX6_minutes_88 : decode cX6_minutes 88 = .ok (.iaload, 1) := by decide +kernel
theorem dX6_minutes_89 : decode cX6_minutes 89 = .ok (.iadd, 1) := by decide +kernel
theorem dX6_minutes_90 : decode cX6_minutes 90 = .ok (.istore_n 1, 1) := by decide +kernel
theorem dX6_minutes_91 : decode cX6_minutes 91 = .ok (.iload_n 2, 1) := by decide +kernel
theorem dX6_minutes_92 : decode cX6_minutes 92 = .ok (.iload_n 1, 1) := by decide +kernel
theorem dX6_minutes_93 : decode cX6_minutes 93 = .ok (.iadd, 1) := by decide +kernel
theorem dX6_minutes_94 : decode cX6_minutes 94 = .ok (.istore_n 2, 1) := by decide +kernel
theorem dX6_minutes_95 : decode cX6_minutes 95 = .ok (.iinc 3 1, 3) := by decide +kernel
theorem dX6_minutes_98 : decode cX6_minutes 98 = .ok (.goto (-23), 3) := by decide +kernel
theorem dX6_minutes_101 : decode cX6_minutes 101 = .ok (.iload_n 2, 1) := by decide +kernel
theorem dX6_minutes_102 : decode cX6_minutes 102 = .ok (.ireturn, 1) := by decide +kernel
theorem dX6_peak_0 : decode cX6_peak 0 = .ok (.iconst 0, 1) := by decide +kernel
theorem dX6_peak_1 : decode cX6_peak 1 = .ok (.istore_n 2, 1) := by decide +kernel
theorem dX6_peak_2 : decode cX6_peak 2 = .ok (.iconst 0, 1) := by decide +kernel
theorem dX6_peak_3 : decode cX6_peak 3 = .ok (.istore_n 3, 1) := by decide +kernel
theorem dX6_peak_4 : decode cX6_peak 4 = .ok (.iconst 0, 1) := by decide +kernel
theorem dX6_peak_5 : decode cX6_peak 5 = .ok (.istore 4, 2) := by decide +kernel
theorem dX6_peak_7 : decode cX6_peak 7 = .ok (.iload 4, 2) := by decide +kernel
theorem dX6_peak_9 : decode cX6_peak 9 = .ok (.bipush 20, 2) := by decide +kernel
theorem dX6_peak_11 : decode cX6_peak 11 = .ok (.if_icmp .ge 68, 3) := by decide +kernel
theorem dX6_peak_14 : decode cX6_peak 14 = .ok (.aload_n 0, 1) := by decide +kernel
theorem dX6_peak_15 : decode cX6_peak 15 = .ok (.getfield 12, 3) := by decide +kernel
theorem dX6_peak_18 : decode cX6_peak 18 = .ok (.iload 4, 2) := by decide +kernel
theorem dX6_peak_20 : decode cX6_peak 20 = .ok (.invokevirtual 326, 3) := by decide +kernel
theorem dX6_peak_23 : decode cX6_peak 23 = .ok (.ifCond .eq 50, 3) := by decide +kernel
theorem dX6_peak_26 : decode cX6_peak 26 = .ok (.aload_n 0, 1) := by decide +kernel
theorem dX6_peak_27 : decode cX6_peak 27 = .ok (.getfield 12, 3) := by decide +kernel
theorem dX6_peak_30 : decode cX6_peak 30 = .ok (.getfield 204, 3) := by decide +kernel
theorem dX6_peak_33 : decode cX6_peak 33 = .ok (.iload 4, 2) := by decide +kernel
theorem dX6_peak_35 : decode cX6_peak 35 = .ok (.iaload, 1) := by decide +kernel
theorem dX6_peak_36 : decode cX6_peak 36 = .ok (.istore 5, 2) := by decide +kernel
theorem dX6_peak_38 : decode cX6_peak 38 = .ok (.aload_n 0, 1) := by decide +kernel
theorem dX6_peak_39 : decode cX6_peak 39 = .ok (.getfield 12, 3) := by decide +kernel
theorem dX6_peak_42 : decode cX6_peak 42 = .ok (.iload 5, 2) := by decide +kernel
theorem dX6_peak_44 : decode cX6_peak 44 = .ok (.invokevirtual 329, 3) := by decide +kernel
theorem dX6_peak_47 : decode cX6_peak 47 = .ok (.istore 6, 2) := by decide +kernel
theorem dX6_peak_49 : decode cX6_peak 49 = .ok (.iload 6, 2) := by decide +kernel
theorem dX6_peak_51 : decode cX6_peak 51 = .ok (.iload_n 2, 1) := by decide +kernel
theorem dX6_peak_52 : decode cX6_peak 52 = .ok (.if_icmp .gt 15, 3) := by decide +kernel
theorem dX6_peak_55 : decode cX6_peak 55 = .ok (.iload 6, 2) := by decide +kernel
theorem dX6_peak_57 : decode cX6_peak 57 = .ok (.iload_n 2, 1) := by decide +kernel
theorem dX6_peak_58 : decode cX6_peak 58 = .ok (.if_icmp .ne 15, 3) := by decide +kernel
theorem dX6_peak_61 : decode cX6_peak 61 = .ok (.iload 5, 2) := by decide +kernel
theorem dX6_peak_63 : decode cX6_peak 63 = .ok (.iload_n 3, 1) := by decide +kernel
theorem dX6_peak_64 : decode cX6_peak 64 = .ok (.if_icmp .ge 9, 3) := by decide +kernel
theorem dX6_peak_67 : decode cX6_peak 67 = .ok (.iload 6, 2) := by decide +kernel
theorem dX6_peak_69 : decode cX6_peak 69 = .ok (.istore_n 2, 1) := by decide +kernel
theorem dX6_peak_70 : decode cX6_peak 70 = .ok (.iload 5, 2) := by decide +kernel
theorem dX6_peak_72 : decode cX6_peak 72 = .ok (.istore_n 3, 1) := by decide +kernel
theorem dX6_peak_73 : decode cX6_peak 73 = .ok (.iinc 4 1, 3) := by decide +kernel
theorem dX6_peak_76 : decode cX6_peak 76 = .ok (.goto (-69), 3) := by decide +kernel
theorem dX6_peak_79 : decode cX6_peak 79 = .ok (.iload_n 1, 1) := by decide +kernel
theorem dX6_peak_80 : decode cX6_peak 80 = .ok (.ifCond .eq 7, 3) := by decide +kernel
theorem dX6_peak_83 : decode cX6_peak 83 = .ok (.iload_n 3, 1) := by decide +kernel
theorem dX6_peak_84 : decode cX6_peak 84 = .ok (.goto 4, 3) := by decide +kernel
theorem dX6_peak_87 : decode cX6_peak 87 = .ok (.iload_n 2, 1) := by decide +kernel
theorem dX6_peak_88 : decode cX6_peak 88 = .ok (.ireturn, 1) := by decide +kernel
theorem dX6_meanCost_0 : decode cX6_meanCost 0 = .ok (.aload_n 0, 1) := by decide +kernel
theorem dX6_meanCost_1 : decode cX6_meanCost 1 = .ok (.getfield 12, 3) := by decide +kernel
theorem dX6_meanCost_4 : decode cX6_meanCost 4 = .ok (.getfield 65, 3) := by decide +kernel
theorem dX6_meanCost_7 : decode cX6_meanCost 7 = .ok (.istore_n 1, 1) := by decide +kernel
theorem dX6_meanCost_8 : decode cX6_meanCost 8 = .ok (.iload_n 1, 1) := by decide +kernel
theorem dX6_meanCost_9 : decode cX6_meanCost 9 = .ok (.ifCond .ne 14, 3) := by decide +kernel
theorem dX6_meanCost_12 : decode cX6_meanCost 12 = .ok (.new 332, 3) := by decide +kernel
theorem dX6_meanCost_15 : decode cX6_meanCost 15 = .ok (.dup, 1) := by decide +kernel
theorem dX6_meanCost_16 : decode cX6_meanCost 16 = .ok (.ldc_w 334, 3) := by decide +kernel
theorem dX6_meanCost_19 : decode cX6_meanCost 19 = .ok (.invokespecial 336, 3) := by decide +kernel
theorem dX6_meanCost_22 : decode cX6_meanCost 22 = .ok (.athrow, 1) := by decide +kernel
theorem dX6_meanCost_23 : decode cX6_meanCost 23 = .ok (.aload_n 0, 1) := by decide +kernel
theorem dX6_meanCost_24 : decode cX6_meanCost 24 = .ok (.getfield 12, 3) := by decide +kernel
theorem dX6_meanCost_27 : decode cX6_meanCost 27 = .ok (.invokevirtual 279, 3) := by decide +kernel
theorem dX6_meanCost_30 : decode cX6_meanCost 30 = .ok (.i2f, 1) := by decide +kernel
theorem dX6_meanCost_31 : decode cX6_meanCost 31 = .ok (.iload_n 1, 1) := by decide +kernel
theorem dX6_meanCost_32 : decode cX6_meanCost 32 = .ok (.i2f, 1) := by decide +kernel
theorem dX6_meanCost_33 : decode cX6_meanCost 33 = .ok (.fdiv, 1) := by decide +kernel
theorem dX6_meanCost_34 : decode cX6_meanCost 34 = .ok (.freturn, 1) := by decide +kernel
theorem dX6_append_0 : decode cX6_append 0 = .ok (.iload_n 1, 1) := by decide +kernel
theorem dX6_append_1 : decode cX6_append 1 = .ok (.bipush 32, 2) := by decide +kernel
theorem dX6_append_3 : decode cX6_append 3 = .ok (.if_icmp .lt 9, 3) := by decide +kernel
theorem dX6_append_6 : decode cX6_append 6 = .ok (.iload_n 1, 1) := by decide +kernel
theorem dX6_append_7 : decode cX6_append 7 = .ok (.bipush 126, 2) := by decide +kernel
theorem dX6_append_9 : decode cX6_append 9 = .ok (.if_icmp .le 14, 3) := by decide +kernel
theorem dX6_append_12 : decode cX6_append 12 = .ok (.new 74, 3) := by decide +kernel
theorem dX6_append_15 : decode cX6_append 15 = .ok (.dup, 1) := by decide +kernel
theorem dX6_append_16 : decode cX6_append 16 = .ok (.ldc_w 337, 3) := by decide +kernel
theorem dX6_append_19 : decode cX6_append 19 = .ok (.invokespecial 78, 3) := by decide +kernel
theorem dX6_append_22 : decode cX6_append 22 = .ok (.athrow, 1) := by decide +kernel
theorem dX6_append_23 : decode cX6_append 23 = .ok (.aload_n 0, 1) := by decide +kernel
theorem dX6_append_24 : decode cX6_append 24 = .ok (.getfield 32, 3) := by decide +kernel
theorem dX6_append_27 : decode cX6_append 27 = .ok (.getfield 339, 3) := by decide +kernel
theorem dX6_append_30 : decode cX6_append 30 = .ok (.bipush 60, 2) := by decide +kernel
theorem dX6_append_32 : decode cX6_append 32 = .ok (.if_icmp .lt 14, 3) := by decide +kernel
theorem dX6_append_35 : decode cX6_append 35 = .ok (.new 84, 3) := by decide +kernel
theorem dX6_append_38 : decode cX6_append 38 = .ok (.dup, 1) := by decide +kernel
theorem dX6_append_39 : decode cX6_append 39 = .ok (.ldc_w 342, 3) := by decide +kernel
theorem dX6_append_42 : decode cX6_append 42 = .ok (.invokespecial 88, 3) := by decide +kernel
theorem dX6_append_45 : decode cX6_append 45 = .ok (.athrow, 1) := by decide +kernel
theorem dX6_append_46 : decode cX6_append 46 = .ok (.aload_n 0, 1) := by decide +kernel
theorem dX6_append_47 : decode cX6_append 47 = .ok (.getfield 32, 3) := by decide +kernel
theorem dX6_append_50 : decode cX6_append 50 = .ok (.iload_n 1, 1) := by decide +kernel
theorem dX6_append_51 : decode cX6_append 51 = .ok (.invokevirtual 344, 3) := by decide +kernel
theorem dX6_append_54 : decode cX6_append 54 = .ok (.ireturn, 1) := by decide +kernel
theorem dX6_read_0 : decode cX6_read 0 = .ok (.aload_n 0, 1) := by decide +kernel
theorem dX6_read_1 : decode cX6_read 1 = .ok (.getfield 32, 3) := by decide +kernel
theorem dX6_read_4 : decode cX6_read 4 = .ok (.invokevirtual 348, 3) := by decide +kernel
theorem dX6_read_7 : decode cX6_read 7 = .ok (.istore_n 1, 1) := by decide +kernel
theorem dX6_read_8 : decode cX6_read 8 = .ok (.iload_n 1, 1) := by decide +kernel
theorem dX6_read_9 : decode cX6_read 9 = .ok (.ifCond .lt 26, 3) := by decide +kernel
theorem dX6_read_12 : decode cX6_read 12 = .ok (.aload_n 0, 1) := by decide +kernel
theorem dX6_read_13 : decode cX6_read 13 = .ok (.iload_n 1, 1) := by decide +kernel
theorem dX6_read_14 : decode cX6_read 14 = .ok (.putfield 62, 3) := by decide +kernel
theorem dX6_read_17 : decode cX6_read 17 = .ok (.aload_n 0, 1) := by decide +kernel
theorem dX6_read_18 : decode cX6_read 18 = .ok (.getfield 32, 3) := by decide +kernel
theorem dX6_read_21 : decode cX6_read 21 = .ok (.invokevirtual 351, 3) := by decide +kernel
theorem dX6_read_24 : decode cX6_read 24 = .ok (.new 74, 3) := by decide +kernel
theorem dX6_read_27 : decode cX6_read 27 = .ok (.dup, 1) := by decide +kernel
theorem dX6_read_28 : decode cX6_read 28 = .ok (.ldc_w 352, 3) := by decide +kernel
theorem dX6_read_31 : decode cX6_read 31 = .ok (.invokespecial 78, 3) := by decide +kernel
theorem dX6_read_34 : decode cX6_read 34 = .ok (.athrow, 1) := by decide +kernel
theorem dX6_read_35 : decode cX6_read 35 = .ok (.aload_n 0, 1) := by decide +kernel
theorem dX6_read_36 : decode cX6_read 36 = .ok (.getfield 16, 3) := by decide +kernel
theorem dX6_read_39 : decode cX6_read 39 = .ok (.aload_n 0, 1) := by decide +kernel
theorem dX6_read_40 : decode cX6_read 40 = .ok (.getfield 12, 3) := by decide +kernel
theorem dX6_read_43 : decode cX6_read 43 = .ok (.invokevirtual 276, 3) := by decide +kernel
theorem dX6_read_46 : decode cX6_read 46 = .ok (.aload_n 0, 1) := by decide +kernel
theorem dX6_read_47 : decode cX6_read 47 = .ok (.getfield 32, 3) := by decide +kernel
theorem dX6_read_50 : decode cX6_read 50 = .ok (.invokevirtual 354, 3) := by decide +kernel
theorem dX6_read_53 : decode cX6_read 53 = .ok (.iconst 0, 1) := by decide +kernel
theorem dX6_read_54 : decode cX6_read 54 = .ok (.istore_n 2, 1) := by decide +kernel
theorem dX6_read_55 : decode cX6_read 55 = .ok (.iconst 1, 1) := by decide +kernel
theorem dX6_read_56 : decode cX6_read 56 = .ok (.istore_n 3, 1) := by decide +kernel
theorem dX6_read_57 : decode cX6_read 57 = .ok (.iload_n 3, 1) := by decide +kernel
theorem dX6_read_58 : decode cX6_read 58 = .ok (.ifCond .eq 55, 3) := by decide +kernel
theorem dX6_read_61 : decode cX6_read 61 = .ok (.iload_n 2, 1) := by decide +kernel
theorem dX6_read_62 : decode cX6_read 62 = .ok (.bipush 60, 2) := by decide +kernel
theorem dX6_read_64 : decode cX6_read 64 = .ok (.if_icmp .ge 49, 3) := by decide +kernel
theorem dX6_read_67 : decode cX6_read 67 = .ok (.aload_n 0, 1) := by decide +kernel
theorem dX6_read_68 : decode cX6_read 68 = .ok (.getfield 32, 3) := by decide +kernel
theorem dX6_read_71 : decode cX6_read 71 = .ok (.getfield 357, 3) := by decide +kernel
theorem dX6_read_74 : decode cX6_read 74 = .ok (.aload_n 0, 1) := by decide +kernel
theorem dX6_read_75 : decode cX6_read 75 = .ok (.getfield 32, 3) := by decide +kernel
theorem dX6_read_78 : decode cX6_read 78 = .ok (.getfield 339, 3) := by decide +kernel
theorem dX6_read_81 : decode cX6_read 81 = .ok (.if_icmp .ge 32, 3) := by decide +kernel
theorem dX6_read_84 : decode cX6_read 84 = .ok (.aload_n 0, 1) := by decide +kernel
theorem dX6_read_85 : decode cX6_read 85 = .ok (.getfield 32, 3) := by decide +kernel
theorem dX6_read_88 : decode cX6_read 88 = .ok (.invokevirtual 360, 3) := by decide +kernel
theorem dX6_read_91 : decode cX6_read 91 = .ok (.ifCond .eq 14, 3) := by decide +kernel
theorem dX6_read_94 : decode cX6_read 94 = .ok (.aload_n 0, 1) := by decide +kernel
theorem dX6_read_95 : decode cX6_read 95 = .ok (.invokevirtual 364, 3) := by decide +kernel
theorem dX6_read_98 : decode cX6_read 98 = .ok (.ifCond .eq 7, 3) := by decide +kernel
theorem dX6_read_101 : decode cX6_read 101 = .ok (.iconst 1, 1) := by decide +kernel
theorem dX6_read_102 : decode cX6_read 102 = .ok (.goto 4, 3) := by decide +kernel
theorem dX6_read_105 : decode cX6_read 105 = .ok (.iconst 0, 1) := by decide +kernel
theorem dX6_read_106 : decode cX6_read 106 = .ok (.istore_n 3, 1) := by decide +kernel
theorem dX6_read_107 : decode cX6_read 107 = .ok (.iinc 2 1, 3) := by decide +kernel
theorem dX6_read_110 : decode cX6_read 110 = .ok (.goto (-53), 3) := by decide +kernel
theorem dX6_read_113 : decode cX6_read 113 = .ok (.aload_n 0, 1) := by decide +kernel
theorem dX6_read_114 : decode cX6_read 114 = .ok (.getfield 32, 3) := by decide +kernel
theorem dX6_read_117 : decode cX6_read 117 = .ok (.invokevirtual 351, 3) := by decide +kernel
theorem dX6_read_120 : decode cX6_read 120 = .ok (.iload_n 3, 1) := by decide +kernel
theorem dX6_read_121 : decode cX6_read 121 = .ok (.ifCond .ne 14, 3) := by decide +kernel
theorem dX6_read_124 : decode cX6_read 124 = .ok (.new 84, 3) := by decide +kernel
theorem dX6_read_127 : decode cX6_read 127 = .ok (.dup, 1) := by decide +kernel
theorem dX6_read_128 : decode cX6_read 128 = .ok (.ldc_w 367, 3) := by decide +kernel
theorem dX6_read_131 : decode cX6_read 131 = .ok (.invokespecial 88, 3) := by decide +kernel
theorem dX6_read_134 : decode cX6_read 134 = .ok (.athrow, 1) := by decide +kernel
theorem dX6_read_135 : decode cX6_read 135 = .ok (.aload_n 0, 1) := by decide +kernel
theorem dX6_read_136 : decode cX6_read 136 = .ok (.getfield 25, 3) := by decide +kernel
theorem dX6_read_139 : decode cX6_read 139 = .ok (.aload_n 0, 1) := by decide +kernel
theorem dX6_read_140 : decode cX6_read 140 = .ok (.getfield 12, 3) := by decide +kernel
theorem dX6_read_143 : decode cX6_read 143 = .ok (.invokevirtual 89, 3) := by decide +kernel
theorem dX6_read_146 : decode cX6_read 146 = .ok (.aload_n 0, 1) := by decide +kernel
theorem dX6_read_147 : decode cX6_read 147 = .ok (.getfield 12, 3) := by decide +kernel
theorem dX6_read_150 : decode cX6_read 150 = .ok (.aload_n 0, 1) := by decide +kernel
theorem dX6_read_151 : decode cX6_read 151 = .ok (.getfield 16, 3) := by decide +kernel
theorem dX6_read_154 : decode cX6_read 154 = .ok (.invokevirtual 276, 3) := by decide +kernel
theorem dX6_read_157 : decode cX6_read 157 = .ok (.iload_n 2, 1) := by decide +kernel
theorem dX6_read_158 : decode cX6_read 158 = .ok (.ireturn, 1) := by decide +kernel
theorem dX6_errorPosition_0 : decode cX6_errorPosition 0 = .ok (.aload_n 0, 1) := by decide +kernel
theorem dX6_errorPosition_1 : decode cX6_errorPosition 1 = .ok (.getfield 62, 3) := by decide +kernel
theorem dX6_errorPosition_4 : decode cX6_errorPosition 4 = .ok (.ifCond .ge 14, 3) := by decide +kernel
theorem dX6_errorPosition_7 : decode cX6_errorPosition 7 = .ok (.new 155, 3) := by decide +kernel
theorem dX6_errorPosition_10 : decode cX6_errorPosition 10 = .ok (.dup, 1) := by decide +kernel
theorem dX6_errorPosition_11 : decode cX6_errorPosition 11 = .ok (.ldc_w 369, 3) := by decide +kernel
theorem dX6_errorPosition_14 : decode cX6_errorPosition 14 = .ok (.invokespecial 159, 3) := by decide +kernel
theorem dX6_errorPosition_17 : decode cX6_errorPosition 17 = .ok (.athrow, 1) := by decide +kernel
theorem dX6_errorPosition_18 : decode cX6_errorPosition 18 = .ok (.aload_n 0, 1) := by decide +kernel
theorem dX6_errorPosition_19 : decode cX6_errorPosition 19 = .ok (.getfield 62, 3) := by decide +kernel
theorem dX6_errorPosition_22 : decode cX6_errorPosition 22 = .ok (.ireturn, 1) := by decide +kernel
theorem dX6_undo_0 : decode cX6_undo 0 = .ok (.aload_n 0, 1) := by decide +kernel
theorem dX6_undo_1 : decode cX6_undo 1 = .ok (.getfield 25, 3) := by decide +kernel
theorem dX6_undo_4 : decode cX6_undo 4 = .ok (.getfield 371, 3) := by decide +kernel
theorem dX6_undo_7 : decode cX6_undo 7 = .ok (.ifCond .ne 14, 3) := by decide +kernel
theorem dX6_undo_10 : decode cX6_undo 10 = .ok (.new 155, 3) := by decide +kernel
theorem dX6_undo_13 : decode cX6_undo 13 = .ok (.dup, 1) := by decide +kernel
theorem dX6_undo_14 : decode cX6_undo 14 = .ok (.ldc_w 374, 3) := by decide +kernel
theorem dX6_undo_17 : decode cX6_undo 17 = .ok (.invokespecial 159, 3) := by decide +kernel
theorem dX6_undo_20 : decode cX6_undo 20 = .ok (.athrow, 1) := by decide +kernel
theorem dX6_undo_21 : decode cX6_undo 21 = .ok (.aload_n 0, 1) := by decide +kernel
theorem dX6_undo_22 : decode cX6_undo 22 = .ok (.getfield 25, 3) := by decide +kernel
theorem dX6_undo_25 : decode cX6_undo 25 = .ok (.aload_n 0, 1) := by decide +kernel
theorem dX6_undo_26 : decode cX6_undo 26 = .ok (.getfield 12, 3) := by decide +kernel
theorem dX6_undo_29 : decode cX6_undo 29 = .ok (.invokevirtual 376, 3) := by decide +kernel
theorem dX6_undo_32 : decode cX6_undo 32 = .ok (.aload_n 0, 1) := by decide +kernel
theorem dX6_undo_33 : decode cX6_undo 33 = .ok (.getfield 25, 3) := by decide +kernel
theorem dX6_undo_36 : decode cX6_undo 36 = .ok (.getfield 371, 3) := by decide +kernel
theorem dX6_undo_39 : decode cX6_undo 39 = .ok (.ireturn, 1) := by decide +kernel
theorem dX6_save_0 : decode cX6_save 0 = .ok (.aload_n 0, 1) := by decide +kernel
theorem dX6_save_1 : decode cX6_save 1 = .ok (.getfield 19, 3) := by decide +kernel
theorem dX6_save_4 : decode cX6_save 4 = .ok (.aload_n 0, 1) := by decide +kernel
theorem dX6_save_5 : decode cX6_save 5 = .ok (.getfield 12, 3) := by decide +kernel
theorem dX6_save_8 : decode cX6_save 8 = .ok (.invokevirtual 276, 3) := by decide +kernel
theorem dX6_save_11 : decode cX6_save 11 = .ok (.aload_n 0, 1) := by decide +kernel
theorem dX6_save_12 : decode cX6_save 12 = .ok (.iconst 1, 1) := by decide +kernel
theorem dX6_save_13 : decode cX6_save 13 = .ok (.putfield 54, 3) := by decide +kernel
theorem dX6_save_16 : decode cX6_save 16 = .ok (.aload_n 0, 1) := by decide +kernel
theorem dX6_save_17 : decode cX6_save 17 = .ok (.getfield 19, 3) := by decide +kernel
theorem dX6_save_20 : decode cX6_save 20 = .ok (.getfield 65, 3) := by decide +kernel
theorem dX6_save_23 : decode cX6_save 23 = .ok (.ireturn, 1) := by decide +kernel
theorem dX6_restore_0 : decode cX6_restore 0 = .ok (.aload_n 0, 1) := by decide +kernel
theorem dX6_restore_1 : decode cX6_restore 1 = .ok (.getfield 54, 3) := by decide +kernel
theorem dX6_restore_4 : decode cX6_restore 4 = .ok (.ifCond .ne 14, 3) := by decide +kernel
theorem dX6_restore_7 : decode cX6_restore 7 = .ok (.new 84, 3) := by decide +kernel
theorem dX6_restore_10 : decode cX6_restore 10 = .ok (.dup, 1) := by decide +kernel
theorem dX6_restore_11 : decode cX6_restore 11 = .ok (.ldc_w 379, 3) := by decide +kernel
theorem dX6_restore_14 : decode cX6_restore 14 = .ok (.invokespecial 88, 3) := by decide +kernel
theorem dX6_restore_17 : decode cX6_restore 17 = .ok (.athrow, 1) := by decide +kernel
theorem dX6_restore_18 : decode cX6_restore 18 = .ok (.aload_n 0, 1) := by decide +kernel
theorem dX6_restore_19 : decode cX6_restore 19 = .ok (.getfield 12, 3) := by decide +kernel
theorem dX6_restore_22 : decode cX6_restore 22 = .ok (.aload_n 0, 1) := by decide +kernel
theorem dX6_restore_23 : decode cX6_restore 23 = .ok (.getfield 19, 3) := by decide +kernel
theorem dX6_restore_26 : decode cX6_restore 26 = .ok (.invokevirtual 276, 3) := by decide +kernel
theorem dX6_restore_29 : decode cX6_restore 29 = .ok (.aload_n 0, 1) := by decide +kernel
theorem dX6_restore_30 : decode cX6_restore 30 = .ok (.getfield 25, 3) := by decide +kernel
theorem dX6_restore_33 : decode cX6_restore 33 = .ok (.invokevirtual 71, 3) := by decide +kernel
theorem dX6_restore_36 : decode cX6_restore 36 = .ok (.aload_n 0, 1) := by decide +kernel
theorem dX6_restore_37 : decode cX6_restore 37 = .ok (.getfield 12, 3) := by decide +kernel
theorem dX6_restore_40 : decode cX6_restore 40 = .ok (.getfield 65, 3) := by decide +kernel
theorem dX6_restore_43 : decode cX6_restore 43 = .ok (.ireturn, 1) := by decide +kernel
theorem dX6_doEntry_0 : decode cX6_doEntry 0 = .ok (.aload_n 0, 1) := by decide +kernel
theorem dX6_doEntry_1 : decode cX6_doEntry 1 = .ok (.getfield 32, 3) := by decide +kernel
theorem dX6_doEntry_4 : decode cX6_doEntry 4 = .ok (.getfield 381, 3) := by decide +kernel
theorem dX6_doEntry_7 : decode cX6_doEntry 7 = .ok (.iconst 0, 1) := by decide +kernel
theorem dX6_doEntry_8 : decode cX6_doEntry 8 = .ok (.iaload, 1) := by decide +kernel
theorem dX6_doEntry_9 : decode cX6_doEntry 9 = .ok (.istore_n 1, 1) := by decide +kernel
theorem dX6_doEntry_10 : decode cX6_doEntry 10 = .ok (.aload_n 0, 1) := by decide +kernel
theorem dX6_doEntry_11 : decode cX6_doEntry 11 = .ok (.getfield 32, 3) := by decide +kernel
theorem dX6_doEntry_14 : decode cX6_doEntry 14 = .ok (.getfield 381, 3) := by decide +kernel
theorem dX6_doEntry_17 : decode cX6_doEntry 17 = .ok (.iconst 1, 1) := by decide +kernel
theorem dX6_doEntry_18 : decode cX6_doEntry 18 = .ok (.iaload, 1) := by decide +kernel
theorem dX6_doEntry_19 : decode cX6_doEntry 19 = .ok (.istore_n 2, 1) := by decide +kernel
theorem dX6_doEntry_20 : decode cX6_doEntry 20 = .ok (.aload_n 0, 1) := by decide +kernel
theorem dX6_doEntry_21 : decode cX6_doEntry 21 = .ok (.getfield 32, 3) := by decide +kernel
theorem dX6_doEntry_24 : decode cX6_doEntry 24 = .ok (.getfield 384, 3) := by decide +kernel
theorem dX6_doEntry_27 : decode cX6_doEntry 27 = .ok (.istore_n 3, 1) := by decide +kernel
theorem dX6_doEntry_28 : decode cX6_doEntry 28 = .ok (.iload_n 3, 1) := by decide +kernel
theorem dX6_doEntry_29 : decode cX6_doEntry 29 = .ok (.bipush 112, 2) := by decide +kernel
theorem dX6_doEntry_31 : decode cX6_doEntry 31 = .ok (.if_icmp .ne 19, 3) := by decide +kernel
theorem dX6_doEntry_34 : decode cX6_doEntry 34 = .ok (.aload_n 0, 1) := by decide +kernel
theorem dX6_doEntry_35 : decode cX6_doEntry 35 = .ok (.iload_n 1, 1) := by decide +kernel
theorem dX6_doEntry_36 : decode cX6_doEntry 36 = .ok (.iload_n 2, 1) := by decide +kernel
theorem dX6_doEntry_37 : decode cX6_doEntry 37 = .ok (.aload_n 0, 1) := by decide +kernel
theorem dX6_doEntry_38 : decode cX6_doEntry 38 = .ok (.getfield 32, 3) := by decide +kernel
theorem dX6_doEntry_41 : decode cX6_doEntry 41 = .ok (.getfield 381, 3) := by decide +kernel
theorem dX6_doEntry_44 : decode cX6_doEntry 44 = .ok (.iconst 2, 1) := by decide +kernel
theorem dX6_doEntry_45 : decode cX6_doEntry 45 = .ok (.iaload, 1) := by decide +kernel
theorem dX6_doEntry_46 : decode cX6_doEntry 46 = .ok (.invokevirtual 388, 3) := by decide +kernel
theorem dX6_doEntry_49 : decode cX6_doEntry 49 = .ok (.ireturn, 1) := by decide +kernel
theorem dX6_doEntry_50 : decode cX6_doEntry 50 = .ok (.iload_n 3, 1) := by decide +kernel
theorem dX6_doEntry_51 : decode cX6_doEntry 51 = .ok (.bipush 108, 2) := by decide +kernel
theorem dX6_doEntry_53 : decode cX6_doEntry 53 = .ok (.if_icmp .ne 10, 3) := by decide +kernel
theorem dX6_doEntry_56 : decode cX6_doEntry 56 = .ok (.aload_n 0, 1) := by decide +kernel
theorem dX6_doEntry_57 : decode cX6_doEntry 57 = .ok (.iload_n 1, 1) := by decide +kernel
theorem dX6_doEntry_58 : decode cX6_doEntry 58 = .ok (.iload_n 2, 1) := by decide +kernel
theorem dX6_doEntry_59 : decode cX6_doEntry 59 = .ok (.invokevirtual 392, 3) := by decide +kernel
theorem dX6_doEntry_62 : decode cX6_doEntry 62 = .ok (.ireturn, 1) := by decide +kernel
theorem dX6_doEntry_63 : decode cX6_doEntry 63 = .ok (.iload_n 3, 1) := by decide +kernel
theorem dX6_doEntry_64 : decode cX6_doEntry 64 = .ok (.bipush 100, 2) := by decide +kernel
theorem dX6_doEntry_66 : decode cX6_doEntry 66 = .ok (.if_icmp .ne 10, 3) := by decide +kernel
theorem dX6_doEntry_69 : decode cX6_doEntry 69 = .ok (.aload_n 0, 1) := by decide +kernel
theorem dX6_doEntry_70 : decode cX6_doEntry 70 = .ok (.iload_n 1, 1) := by decide +kernel
theorem dX6_doEntry_71 : decode cX6_doEntry 71 = .ok (.iload_n 2, 1) := by decide +kernel
theorem dX6_doEntry_72 : decode cX6_doEntry 72 = .ok (.invokevirtual 395, 3) := by decide +kernel
theorem dX6_doEntry_75 : decode cX6_doEntry 75 = .ok (.ireturn, 1) := by decide +kernel
theorem dX6_doEntry_76 : decode cX6_doEntry 76 = .ok (.iload_n 3, 1) := by decide +kernel
theorem dX6_doEntry_77 : decode cX6_doEntry 77 = .ok (.bipush 116, 2) := by decide +kernel
theorem dX6_doEntry_79 : decode cX6_doEntry 79 = .ok (.if_icmp .ne 10, 3) := by decide +kernel
theorem dX6_doEntry_82 : decode cX6_doEntry 82 = .ok (.aload_n 0, 1) := by decide +kernel
theorem dX6_doEntry_83 : decode cX6_doEntry 83 = .ok (.iload_n 1, 1) := by decide +kernel
theorem dX6_doEntry_84 : decode cX6_doEntry 84 = .ok (.iload_n 2, 1) := by decide +kernel
theorem dX6_doEntry_85 : decode cX6_doEntry 85 = .ok (.invokevirtual 398, 3) := by decide +kernel
theorem dX6_doEntry_88 : decode cX6_doEntry 88 = .ok (.ireturn, 1) := by decide +kernel
theorem dX6_doEntry_89 : decode cX6_doEntry 89 = .ok (.aload_n 0, 1) := by decide +kernel
theorem dX6_doEntry_90 : decode cX6_doEntry 90 = .ok (.getfield 16, 3) := by decide +kernel
theorem dX6_doEntry_93 : decode cX6_doEntry 93 = .ok (.invokevirtual 272, 3) := by decide +kernel
theorem dX6_doEntry_96 : decode cX6_doEntry 96 = .ok (.pop, 1) := by decide +kernel
theorem dX6_doEntry_97 : decode cX6_doEntry 97 = .ok (.iconst 1, 1) := by decide +kernel
theorem dX6_doEntry_98 : decode cX6_doEntry 98 = .ok (.ireturn, 1) := by decide +kernel
theorem dX6_placeInTrial_0 : decode cX6_placeInTrial 0 = .ok (.aload_n 0, 1) := by decide +kernel
theorem dX6_placeInTrial_1 : decode cX6_placeInTrial 1 = .ok (.getfield 16, 3) := by decide +kernel
theorem dX6_placeInTrial_4 : decode cX6_placeInTrial 4 = .ok (.iload_n 1, 1) := by decide +kernel
theorem dX6_placeInTrial_5 : decode cX6_placeInTrial 5 = .ok (.iload_n 2, 1) := by decide +kernel
theorem dX6_placeInTrial_6 : decode cX6_placeInTrial 6 = .ok (.invokevirtual 198, 3) := by decide +kernel
theorem dX6_placeInTrial_9 : decode cX6_placeInTrial 9 = .ok (.ifCond .eq 14, 3) := by decide +kernel
theorem dX6_placeInTrial_12 : decode cX6_placeInTrial 12 = .ok (.aload_n 0, 1) := by decide +kernel
theorem dX6_placeInTrial_13 : decode cX6_placeInTrial 13 = .ok (.getfield 16, 3) := by decide +kernel
theorem dX6_placeInTrial_16 : decode cX6_placeInTrial 16 = .ok (.iload_n 3, 1) := by decide +kernel
theorem dX6_placeInTrial_17 : decode cX6_placeInTrial 17 = .ok (.invokevirtual 97, 3) := by decide +kernel
theorem dX6_placeInTrial_20 : decode cX6_placeInTrial 20 = .ok (.ifCond .ne 5, 3) := by decide +kernel
theorem dX6_placeInTrial_23 : decode cX6_placeInTrial 23 = .ok (.iconst 0, 1) := by decide +kernel
theorem dX6_placeInTrial_24 : decode cX6_placeInTrial 24 = .ok (.ireturn, 1) := by decide +kernel
theorem dX6_placeInTrial_25 : decode cX6_placeInTrial 25 = .ok (.aload_n 0, 1) := by decide +kernel
theorem dX6_placeInTrial_26 : decode cX6_placeInTrial 26 = .ok (.getfield 16, 3) := by decide +kernel
theorem dX6_placeInTrial_29 : decode cX6_placeInTrial 29 = .ok (.iconst 2, 1) := by decide +kernel
theorem dX6_placeInTrial_30 : decode cX6_placeInTrial 30 = .ok (.iload_n 1, 1) := by decide +kernel
theorem dX6_placeInTrial_31 : decode cX6_placeInTrial 31 = .ok (.imul, 1) := by decide +kernel
theorem dX6_placeInTrial_32 : decode cX6_placeInTrial 32 = .ok (.iload_n 2, 1) := by decide +kernel
theorem dX6_placeInTrial_33 : decode cX6_placeInTrial 33 = .ok (.iadd, 1) := by decide +kernel
theorem dX6_placeInTrial_34 : decode cX6_placeInTrial 34 = .ok (.iload_n 3, 1) := by decide +kernel
theorem dX6_placeInTrial_35 : decode cX6_placeInTrial 35 = .ok (.invokevirtual 224, 3) := by decide +kernel
theorem dX6_placeInTrial_38 : decode cX6_placeInTrial 38 = .ok (.istore 4, 2) := by decide +kernel
theorem dX6_placeInTrial_40 : decode cX6_placeInTrial 40 = .ok (.iload 4, 2) := by decide +kernel
theorem dX6_placeInTrial_42 : decode cX6_placeInTrial 42 = .ok (.ifCond .eq 11, 3) := by decide +kernel
theorem dX6_placeInTrial_45 : decode cX6_placeInTrial 45 = .ok (.aload_n 0, 1) := by decide +kernel
theorem dX6_placeInTrial_46 : decode cX6_placeInTrial 46 = .ok (.iload 4, 2) := by decide +kernel
theorem dX6_placeInTrial_48 : decode cX6_placeInTrial 48 = .ok (.putfield 58, 3) := by decide +kernel
theorem dX6_placeInTrial_51 : decode cX6_placeInTrial 51 = .ok (.iconst 0, 1) := by decide +kernel
theorem dX6_placeInTrial_52 : decode cX6_placeInTrial 52 = .ok (.ireturn, 1) := by decide +kernel
theorem dX6_placeInTrial_53 : decode cX6_placeInTrial 53 = .ok (.aload_n 0, 1) := by decide +kernel
theorem dX6_placeInTrial_54 : decode cX6_placeInTrial 54 = .ok (.getfield 16, 3) := by decide +kernel
theorem dX6_placeInTrial_57 : decode cX6_placeInTrial 57 = .ok (.getfield 210, 3) := by decide +kernel
theorem dX6_placeInTrial_60 : decode cX6_placeInTrial 60 = .ok (.iconst 2, 1) := by decide +kernel
theorem dX6_placeInTrial_61 : decode cX6_placeInTrial 61 = .ok (.iload_n 1, 1) := by decide +kernel
theorem dX6_placeInTrial_62 : decode cX6_placeInTrial 62 = .ok (.imul, 1) := by decide +kernel
theorem dX6_placeInTrial_63 : decode cX6_placeInTrial 63 = .ok (.iload_n 2, 1) := by decide +kernel
theorem dX6_placeInTrial_64 : decode cX6_placeInTrial 64 = .ok (.iadd, 1) := by decide +kernel
theorem dX6_placeInTrial_65 : decode cX6_placeInTrial 65 = .ok (.iload_n 3, 1) := by decide +kernel
theorem dX6_placeInTrial_66 : decode cX6_placeInTrial 66 = .ok (.iastore, 1) := by decide +kernel
theorem dX6_placeInTrial_67 : decode cX6_placeInTrial 67 = .ok (.iconst 1, 1) := by decide +kernel
theorem dX6_placeInTrial_68 : decode cX6_placeInTrial 68 = .ok (.ireturn, 1) := by decide +kernel
theorem dX6_liftInTrial_0 : decode cX6_liftInTrial 0 = .ok (.aload_n 0, 1) := by decide +kernel
theorem dX6_liftInTrial_1 : decode cX6_liftInTrial 1 = .ok (.getfield 16, 3) := by decide +kernel
theorem dX6_liftInTrial_4 : decode cX6_liftInTrial 4 = .ok (.iload_n 1, 1) := by decide +kernel
theorem dX6_liftInTrial_5 : decode cX6_liftInTrial 5 = .ok (.iload_n 2, 1) := by decide +kernel
theorem dX6_liftInTrial_6 : decode cX6_liftInTrial 6 = .ok (.invokevirtual 198, 3) := by decide +kernel
theorem dX6_liftInTrial_9 : decode cX6_liftInTrial 9 = .ok (.ifCond .eq 19, 3) := by decide +kernel
theorem dX6_liftInTrial_12 : decode cX6_liftInTrial 12 = .ok (.aload_n 0, 1) := by decide +kernel
theorem dX6_liftInTrial_13 : decode cX6_liftInTrial 13 = .ok (.getfield 16, 3) := by decide +kernel
theorem dX6_liftInTrial_16 : decode cX6_liftInTrial 16 = .ok (.getfield 210, 3) := by decide +kernel
theorem dX6_liftInTrial_19 : decode cX6_liftInTrial 19 = .ok (.iconst 2, 1) := by decide +kernel
theorem dX6_liftInTrial_20 : decode cX6_liftInTrial 20 = .ok (.iload_n 1, 1) := by decide +kernel
theorem dX6_liftInTrial_21 : decode cX6_liftInTrial 21 = .ok (.imul, 1) := by decide +kernel
theorem dX6_liftInTrial_22 : decode cX6_liftInTrial 22 = .ok (.iload_n 2, 1) := by decide +kernel
theorem dX6_liftInTrial_23 : decode cX6_liftInTrial 23 = .ok (.iadd, 1) := by decide +kernel
theorem dX6_liftInTrial_24 : decode cX6_liftInTrial 24 = .ok (.iaload, 1) := by decide +kernel
theorem dX6_liftInTrial_25 : decode cX6_liftInTrial 25 = .ok (.ifCond .ge 5, 3) := by decide +kernel
theorem dX6_liftInTrial_28 : decode cX6_liftInTrial 28 = .ok (.iconst 0, 1) := by decide +kernel
theorem dX6_liftInTrial_29 : decode cX6_liftInTrial 29 = .ok (.ireturn, 1) := by decide +kernel
theorem dX6_liftInTrial_30 : decode cX6_liftInTrial 30 = .ok (.aload_n 0, 1) := by decide +kernel
theorem dX6_liftInTrial_31 : decode cX6_liftInTrial 31 = .ok (.getfield 16, 3) := by decide +kernel
theorem dX6_liftInTrial_34 : decode cX6_liftInTrial 34 = .ok (.getfield 210, 3) := by decide +kernel
theorem dX6_liftInTrial_37 : decode cX6_liftInTrial 37 = .ok (.iconst 2, 1) := by decide +kernel
theorem dX6_liftInTrial_38 : decode cX6_liftInTrial 38 = .ok (.iload_n 1, 1) := by decide +kernel
theorem dX6_liftInTrial_39 : decode cX6_liftInTrial 39 = .ok (.imul, 1) := by decide +kernel
theorem dX6_liftInTrial_40 : decode cX6_liftInTrial 40 = .ok (.iload_n 2, 1) := by decide +kernel
theorem dX6_liftInTrial_41 : decode cX6_liftInTrial 41 = .ok (.iadd, 1) := by decide +kernel
theorem dX6_liftInTrial_42 : decode cX6_liftInTrial 42 = .ok (.iconst (-1), 1) := by decide +kernel
theorem dX6_liftInTrial_43 : decode cX6_liftInTrial 43 = .ok (.iastore, 1) := by decide +kernel
theorem dX6_liftInTrial_44 : decode cX6_liftInTrial 44 = .ok (.iconst 1, 1) := by decide +kernel
theorem dX6_liftInTrial_45 : decode cX6_liftInTrial 45 = .ok (.ireturn, 1) := by decide +kernel
theorem dX6_delayInTrial_0 : decode cX6_delayInTrial 0 = .ok (.aload_n 0, 1) := by decide +kernel
theorem dX6_delayInTrial_1 : decode cX6_delayInTrial 1 = .ok (.getfield 16, 3) := by decide +kernel
theorem dX6_delayInTrial_4 : decode cX6_delayInTrial 4 = .ok (.iload_n 1, 1) := by decide +kernel
theorem dX6_delayInTrial_5 : decode cX6_delayInTrial 5 = .ok (.invokevirtual 173, 3) := by decide +kernel
theorem dX6_delayInTrial_8 : decode cX6_delayInTrial 8 = .ok (.ifCond .eq 30, 3) := by decide +kernel
theorem dX6_delayInTrial_11 : decode cX6_delayInTrial 11 = .ok (.iload_n 2, 1) := by decide +kernel
theorem dX6_delayInTrial_12 : decode cX6_delayInTrial 12 = .ok (.iconst 1, 1) := by decide +kernel
theorem dX6_delayInTrial_13 : decode cX6_delayInTrial 13 = .ok (.if_icmp .lt 25, 3) := by decide +kernel
theorem dX6_delayInTrial_16 : decode cX6_delayInTrial 16 = .ok (.iload_n 2, 1) := by decide +kernel
theorem dX6_delayInTrial_17 : decode cX6_delayInTrial 17 = .ok (.sipush 300, 3) := by decide +kernel
theorem dX6_delayInTrial_20 : decode cX6_delayInTrial 20 = .ok (.if_icmp .gt 18, 3) := by decide +kernel
theorem dX6_delayInTrial_23 : decode cX6_delayInTrial 23 = .ok (.aload_n 0, 1) := by decide +kernel
theorem dX6_delayInTrial_24 : decode cX6_delayInTrial 24 = .ok (.getfield 16, 3) := by decide +kernel
theorem dX6_delayInTrial_27 : decode cX6_delayInTrial 27 = .ok (.iload_n 1, 1) := by decide +kernel
theorem dX6_delayInTrial_28 : decode cX6_delayInTrial 28 = .ok (.iload_n 2, 1) := by decide +kernel
theorem dX6_delayInTrial_29 : decode cX6_delayInTrial 29 = .ok (.invokevirtual 264, 3) := by decide +kernel
theorem dX6_delayInTrial_32 : decode cX6_delayInTrial 32 = .ok (.sipush 1440, 3) := by decide +kernel
theorem dX6_delayInTrial_35 : decode cX6_delayInTrial 35 = .ok (.if_icmp .le 5, 3) := by decide +kernel
theorem dX6_delayInTrial_38 : decode cX6_delayInTrial 38 = .ok (.iconst 0, 1) := by decide +kernel
theorem dX6_delayInTrial_39 : decode cX6_delayInTrial 39 = .ok (.ireturn, 1) := by decide +kernel
theorem dX6_delayInTrial_40 : decode cX6_delayInTrial 40 = .ok (.aload_n 0, 1) := by decide +kernel
theorem dX6_delayInTrial_41 : decode cX6_delayInTrial 41 = .ok (.getfield 16, 3) := by decide +kernel
theorem dX6_delayInTrial_44 : decode cX6_delayInTrial 44 = .ok (.iload_n 1, 1) := by decide +kernel
theorem dX6_delayInTrial_45 : decode cX6_delayInTrial 45 = .ok (.iload_n 2, 1) := by decide +kernel
theorem dX6_delayInTrial_46 : decode cX6_delayInTrial 46 = .ok (.invokevirtual 269, 3) := by decide +kernel
theorem dX6_delayInTrial_49 : decode cX6_delayInTrial 49 = .ok (.pop, 1) := by decide +kernel
theorem dX6_delayInTrial_50 : decode cX6_delayInTrial 50 = .ok (.iconst 1, 1) := by decide +kernel
theorem dX6_delayInTrial_51 : decode cX6_delayInTrial 51 = .ok (.ireturn, 1) := by decide +kernel
theorem dX6_towInTrial_0 : decode cX6_towInTrial 0 = .ok (.aload_n 0, 1) := by decide +kernel
theorem dX6_towInTrial_1 : decode cX6_towInTrial 1 = .ok (.getfield 16, 3) := by decide +kernel
theorem dX6_towInTrial_4 : decode cX6_towInTrial 4 = .ok (.iload_n 1, 1) := by decide +kernel
theorem dX6_towInTrial_5 : decode cX6_towInTrial 5 = .ok (.invokevirtual 173, 3) := by decide +kernel
theorem dX6_towInTrial_8 : decode cX6_towInTrial 8 = .ok (.ifCond .eq 26, 3) := by decide +kernel
theorem dX6_towInTrial_11 : decode cX6_towInTrial 11 = .ok (.aload_n 0, 1) := by decide +kernel
theorem dX6_towInTrial_12 : decode cX6_towInTrial 12 = .ok (.getfield 16, 3) := by decide +kernel
theorem dX6_towInTrial_15 : decode cX6_towInTrial 15 = .ok (.iload_n 1, 1) := by decide +kernel
theorem dX6_towInTrial_16 : decode cX6_towInTrial 16 = .ok (.iload_n 2, 1) := by decide +kernel
theorem dX6_towInTrial_17 : decode cX6_towInTrial 17 = .ok (.invokevirtual 244, 3) := by decide +kernel
theorem dX6_towInTrial_20 : decode cX6_towInTrial 20 = .ok (.ifCond .eq 14, 3) := by decide +kernel
theorem dX6_towInTrial_23 : decode cX6_towInTrial 23 = .ok (.aload_n 0, 1) := by decide +kernel
theorem dX6_towInTrial_24 : decode cX6_towInTrial 24 = .ok (.getfield 16, 3) := by decide +kernel
theorem dX6_towInTrial_27 : decode cX6_towInTrial 27 = .ok (.iload_n 1, 1) := by decide +kernel
theorem dX6_towInTrial_28 : decode cX6_towInTrial 28 = .ok (.invokevirtual 249, 3) := by decide +kernel
theorem dX6_towInTrial_31 : decode cX6_towInTrial 31 = .ok (.ifCond .eq 5, 3) := by decide +kernel
theorem dX6_towInTrial_34 : decode cX6_towInTrial 34 = .ok (.iconst 0, 1) := by decide +kernel
theorem dX6_towInTrial_35 : decode cX6_towInTrial 35 = .ok (.ireturn, 1) := by decide +kernel
theorem dX6_towInTrial_36 : decode cX6_towInTrial 36 = .ok (.aload_n 0, 1) := by decide +kernel
theorem dX6_towInTrial_37 : decode cX6_towInTrial 37 = .ok (.getfield 16, 3) := by decide +kernel
theorem dX6_towInTrial_40 : decode cX6_towInTrial 40 = .ok (.iload_n 1, 1) := by decide +kernel
theorem dX6_towInTrial_41 : decode cX6_towInTrial 41 = .ok (.iload_n 2, 1) := by decide +kernel
theorem dX6_towInTrial_42 : decode cX6_towInTrial 42 = .ok (.invokevirtual 254, 3) := by decide +kernel
theorem dX6_towInTrial_45 : decode cX6_towInTrial 45 = .ok (.pop, 1) := by decide +kernel
theorem dX6_towInTrial_46 : decode cX6_towInTrial 46 = .ok (.iconst 1, 1) := by decide +kernel
theorem dX6_towInTrial_47 : decode cX6_towInTrial 47 = .ok (.ireturn, 1) := by decide +kernel
theorem dX7_init_0 : decode cX7_init 0 = .ok (.aload_n 0, 1) := by decide +kernel
theorem dX7_init_1 : decode cX7_init 1 = .ok (.invokespecial 3, 3) := by decide +kernel
theorem dX7_init_4 : decode cX7_init 4 = .ok (.aload_n 0, 1) := by decide +kernel
theorem dX7_init_5 : decode cX7_init 5 = .ok (.sipush 162, 3) := by decide +kernel
theorem dX7_init_8 : decode cX7_init 8 = .ok (.newarray .int, 2) := by decide +kernel
theorem dX7_init_10 : decode cX7_init 10 = .ok (.putfield 9, 3) := by decide +kernel
theorem dX7_init_13 : decode cX7_init 13 = .ok (.aload_n 0, 1) := by decide +kernel
theorem dX7_init_14 : decode cX7_init 14 = .ok (.sipush 162, 3) := by decide +kernel
theorem dX7_init_17 : decode cX7_init 17 = .ok (.newarray .int, 2) := by decide +kernel
theorem dX7_init_19 : decode cX7_init 19 = .ok (.putfield 13, 3) := by decide +kernel
theorem dX7_init_22 : decode cX7_init 22 = .ok (.aload_n 0, 1) := by decide +kernel
theorem dX7_init_23 : decode cX7_init 23 = .ok (.sipush 162, 3) := by decide +kernel
theorem dX7_init_26 : decode cX7_init 26 = .ok (.newarray .int, 2) := by decide +kernel
theorem dX7_init_28 : decode cX7_init 28 = .ok (.putfield 16, 3) := by decide +kernel
theorem dX7_init_31 : decode cX7_init 31 = .ok (.aload_n 0, 1) := by decide +kernel
theorem dX7_init_32 : decode cX7_init 32 = .ok (.sipush 162, 3) := by decide +kernel
theorem dX7_init_35 : decode cX7_init 35 = .ok (.newarray .int, 2) := by decide +kernel
theorem dX7_init_37 : decode cX7_init 37 = .ok (.putfield 19, 3) := by decide +kernel
theorem dX7_init_40 : decode cX7_init 40 = .ok (.aload_n 0, 1) := by decide +kernel
theorem dX7_init_41 : decode cX7_init 41 = .ok (.sipush 972, 3) := by decide +kernel
theorem dX7_init_44 : decode cX7_init 44 = .ok (.newarray .int, 2) := by decide +kernel
theorem dX7_init_46 : decode cX7_init 46 = .ok (.putfield 22, 3) := by decide +kernel
theorem dX7_init_49 : decode cX7_init 49 = .ok (.aload_n 0, 1) := by decide +kernel
theorem dX7_init_50 : decode cX7_init 50 = .ok (.iconst 3, 1) := by decide +kernel
theorem dX7_init_51 : decode cX7_init 51 = .ok (.newarray .int, 2) := by decide +kernel
theorem dX7_init_53 : decode cX7_init 53 = .ok (.putfield 25, 3) := by decide +kernel
theorem dX7_init_56 : decode cX7_init 56 = .ok (.aload_n 0, 1) := by decide +kernel
theorem dX7_init_57 : decode cX7_init 57 = .ok (.iconst 3, 1) := by decide +kernel
theorem dX7_init_58 : decode cX7_init 58 = .ok (.newarray .int, 2) := by decide +kernel
theorem dX7_init_60 : decode cX7_init 60 = .ok (.putfield 28, 3) := by decide +kernel
theorem dX7_init_63 : decode cX7_init 63 = .ok (.aload_n 0, 1) := by decide +kernel
theorem dX7_init_64 : decode cX7_init 64 = .ok (.bipush 60, 2) := by decide +kernel
theorem dX7_init_66 : decode cX7_init 66 = .ok (.newarray .char, 2) := by decide +kernel
theorem dX7_init_68 : decode cX7_init 68 = .ok (.putfield 31, 3) := by decide +kernel
theorem dX7_init_71 : decode cX7_init 71 = .ok (.aload_n 0, 1) := by decide +kernel
theorem dX7_init_72 : decode cX7_init 72 = .ok (.iconst (-1), 1) := by decide +kernel
theorem dX7_init_73 : decode cX7_init 73 = .ok (.putfield 35, 3) := by decide +kernel
theorem dX7_init_76 : decode cX7_init 76 = .ok (.aload_n 0, 1) := by decide +kernel
theorem dX7_init_77 : decode cX7_init 77 = .ok (.bipush 60, 2) := by decide +kernel
theorem dX7_init_79 : decode cX7_init 79 = .ok (.newarray .char, 2) := by decide +kernel
theorem dX7_init_81 : decode cX7_init 81 = .ok (.putfield 39, 3) := by decide +kernel
theorem dX7_init_84 : decode cX7_init 84 = .ok (.aload_n 0, 1) := by decide +kernel
theorem dX7_init_85 : decode cX7_init 85 = .ok (.sipush 180, 3) := by decide +kernel
theorem dX7_init_88 : decode cX7_init 88 = .ok (.newarray .int, 2) := by decide +kernel
theorem dX7_init_90 : decode cX7_init 90 = .ok (.putfield 42, 3) := by decide +kernel
theorem dX7_init_93 : decode cX7_init 93 = .ok (.aload_n 0, 1) := by decide +kernel
theorem dX7_init_94 : decode cX7_init 94 = .ok (.invokevirtual 45, 3) := by decide +kernel
theorem dX7_init_97 : decode cX7_init 97 = .ok (.return_, 1) := by decide +kernel
theorem dX7_thrown_0 : decode cX7_thrown 0 = .ok (.aload_n 0, 1) := by decide +kernel
theorem dX7_thrown_1 : decode cX7_thrown 1 = .ok (.getfield 48, 3) := by decide +kernel
theorem dX7_thrown_4 : decode cX7_thrown 4 = .ok (.ireturn, 1) := by decide +kernel
theorem dX7_in_0 : decode cX7_in 0 = .ok (.iload_n 0, 1) := by decide +kernel
theorem dX7_in_1 : decode cX7_in 1 = .ok (.iload_n 1, 1) := by decide +kernel
theorem dX7_in_2 : decode cX7_in 2 = .ok (.if_icmp .lt 12, 3) := by decide +kernel
theorem dX7_in_5 : decode cX7_in 5 = .ok (.iload_n 0, 1) := by decide +kernel
theorem dX7_in_6 : decode cX7_in 6 = .ok (.iload_n 2, 1) := by decide +kernel
theorem dX7_in_7 : decode cX7_in 7 = .ok (.if_icmp .gt 7, 3) := by decide +kernel
theorem dX7_in_10 : decode cX7_in 10 = .ok (.iconst 1, 1) := by decide +kernel
theorem dX7_in_11 : decode cX7_in 11 = .ok (.goto 4, 3) := by decide +kernel
theorem dX7_in_14 : decode cX7_in 14 = .ok (.iconst 0, 1) := by decide +kernel
theorem dX7_in_15 : decode cX7_in 15 = .ok (.ireturn, 1) := by decide +kernel
theorem dX7_begin_0 : decode cX7_begin 0 = .ok (.iconst 0, 1) := by decide +kernel
theorem dX7_begin_1 : decode cX7_begin 1 = .ok (.istore_n 1, 1) := by decide +kernel
theorem dX7_begin_2 : decode cX7_begin 2 = .ok (.iload_n 1, 1) := by decide +kernel
theorem dX7_begin_3 : decode cX7_begin 3 = .ok (.sipush 162, 3) := by decide +kernel
theorem dX7_begin_6 : decode cX7_begin 6 = .ok (.if_icmp .ge 31, 3) := by decide +kernel
theorem dX7_begin_9 : decode cX7_begin 9 = .ok (.aload_n 0, 1) := by decide +kernel
theorem dX7_begin_10 : decode cX7_begin 10 = .ok (.getfield 9, 3) := by decide +kernel
theorem dX7_begin_13 : decode cX7_begin 13 = .ok (.iload_n 1, 1) := by decide +kernel
theorem dX7_begin_14 : decode cX7_begin 14 = .ok (.iload_n 1, 1) := by decide +kernel
theorem dX7_begin_15 : decode cX7_begin 15 = .ok (.bipush 28, 2) := by decide +kernel
theorem dX7_begin_17 : decode cX7_begin 17 = .ok (.bipush 91, 2) := by decide +kernel
theorem dX7_begin_19 : decode cX7_begin 19 = .ok (.invokestatic 51, 3) := by decide +kernel
theorem dX7_begin_22 : decode cX7_begin 22 = .ok (.ifCond .eq 7, 3) := by decide +kernel
theorem dX7_begin_25 : decode cX7_begin 25 = .ok (.iconst (-1), 1) := by decide +kernel
theorem dX7_begin_26 : decode cX7_begin 26 = .ok (.goto 4, 3) := by decide +kernel
theorem dX7_begin_29 : decode cX7_begin 29 = .ok (.iconst 0, 1) := by decide +kernel
theorem dX7_begin_30 : decode cX7_begin 30 = .ok (.iastore, 1) := by decide +kernel
theorem dX7_begin_31 : decode cX7_begin 31 = .ok (.iinc 1 1, 3) := by decide +kernel
theorem dX7_begin_34 : decode cX7_begin 34 = .ok (.goto (-32), 3) := by decide +kernel
theorem dX7_begin_37 : decode cX7_begin 37 = .ok (.aload_n 0, 1) := by decide +kernel
theorem dX7_begin_38 : decode cX7_begin 38 = .ok (.getfield 9, 3) := by decide +kernel
theorem dX7_begin_41 : decode cX7_begin 41 = .ok (.iconst 2, 1) := by decide +kernel
theorem dX7_begin_42 : decode cX7_begin 42 = .ok (.bipush 15, 2) := by decide +kernel
theorem dX7_begin_44 : decode cX7_begin 44 = .ok (.iastore, 1) := by decide +kernel
theorem dX7_begin_45 : decode cX7_begin 45 = .ok (.aload_n 0, 1) := by decide +kernel
theorem dX7_begin_46 : decode cX7_begin 46 = .ok (.iconst 0, 1) := by decide +kernel
theorem dX7_begin_47 : decode cX7_begin 47 = .ok (.putfield 55, 3) := by decide +kernel
theorem dX7_begin_50 : decode cX7_begin 50 = .ok (.return_, 1) := by decide +kernel
theorem dX7_keepState_0 : decode cX7_keepState 0 = .ok (.aload_n 0, 1) := by decide +kernel
theorem dX7_keepState_1 : decode cX7_keepState 1 = .ok (.getfield 9, 3) := by decide +kernel
theorem dX7_keepState_4 : decode cX7_keepState 4 = .ok (.iconst 0, 1) := by decide +kernel
theorem dX7_keepState_5 : decode cX7_keepState 5 = .ok (.aload_n 0, 1) := by decide +kernel
theorem dX7_keepState_6 : decode cX7_keepState 6 = .ok (.getfield 16, 3) := by decide +kernel
theorem dX7_keepState_9 : decode cX7_keepState 9 = .ok (.iconst 0, 1) := by decide +kernel
theorem dX7_keepState_10 : decode cX7_keepState 10 = .ok (.sipush 162, 3) := by decide +kernel
theorem dX7_keepState_13 : decode cX7_keepState 13 = .ok (.invokestatic 58, 3) := by decide +kernel
theorem dX7_keepState_16 : decode cX7_keepState 16 = .ok (.return_, 1) := by decide +kernel
theorem dX7_change_0 : decode cX7_change 0 = .ok (.aload_n 0, 1) := by decide +kernel
theorem dX7_change_1 : decode cX7_change 1 = .ok (.getfield 55, 3) := by decide +kernel
theorem dX7_change_4 : decode cX7_change 4 = .ok (.bipush 6, 2) := by decide +kernel
theorem dX7_change_6 : decode cX7_change 6 = .ok (.if_icmp .ne 31, 3) := by decide +kernel
theorem dX7_change_9 : decode cX7_change 9 = .ok (.aload_n 0, 1) := by decide +kernel
theorem dX7_change_10 : decode cX7_change 10 = .ok (.getfield 22, 3) := by decide +kernel
theorem dX7_change_13 : decode cX7_change 13 = .ok (.sipush 162, 3) := by decide +kernel
theorem dX7_change_16 : decode cX7_change 16 = .ok (.aload_n 0, 1) := by decide +kernel
theorem dX7_change_17 : decode cX7_change 17 = .ok (.getfield 22, 3) := by decide +kernel
theorem dX7_change_20 : decode cX7_change 20 = .ok (.iconst 0, 1) := by decide +kernel
theorem dX7_change_21 : decode cX7_change 21 = .ok (.sipush 810, 3) := by decide +kernel
theorem dX7_change_24 : decode cX7_change 24 = .ok (.invokestatic 58, 3) := by decide +kernel
theorem dX7_change_27 : decode cX7_change 27 = .ok (.aload_n 0, 1) := by decide +kernel
theorem dX7_change_28 : decode cX7_change 28 = .ok (.dup, 1) := by decide +kernel
theorem dX7_change_29 : decode cX7_change 29 = .ok (.getfield 55, 3) := by decide +kernel
theorem dX7_change_32 : decode cX7_change 32 = .ok (.iconst 1, 1) := by decide +kernel
theorem dX7_change_33 : decode cX7_change 33 = .ok (.isub, 1) := by decide +kernel
theorem dX7_change_34 : decode cX7_change 34 = .ok (.putfield 55, 3) := by decide +kernel
theorem dX7_change_37 : decode cX7_change 37 = .ok (.aload_n 0, 1) := by decide +kernel
theorem dX7_change_38 : decode cX7_change 38 = .ok (.getfield 16, 3) := by decide +kernel
theorem dX7_change_41 : decode cX7_change 41 = .ok (.iconst 0, 1) := by decide +kernel
theorem dX7_change_42 : decode cX7_change 42 = .ok (.aload_n 0, 1) := by decide +kernel
theorem dX7_change_43 : decode cX7_change 43 = .ok (.getfield 22, 3) := by decide +kernel
theorem dX7_change_46 : decode cX7_change 46 = .ok (.sipush 162, 3) := by decide +kernel
theorem dX7_change_49 : decode cX7_change 49 = .ok (.aload_n 0, 1) := by decide +kernel
theorem dX7_change_50 : decode cX7_change 50 = .ok (.getfield 55, 3) := by decide +kernel
theorem dX7_change_53 : decode cX7_change 53 = .ok (.imul, 1) := by decide +kernel
theorem dX7_change_54 : decode cX7_change 54 = .ok (.sipush 162, 3) := by decide +kernel
theorem dX7_change_57 : decode cX7_change 57 = .ok (.invokestatic 58, 3) := by decide +kernel
theorem dX7_change_60 : decode cX7_change 60 = .ok (.aload_n 0, 1) := by decide +kernel
theorem dX7_change_61 : decode cX7_change 61 = .ok (.dup, 1) := by decide +kernel
theorem dX7_change_62 : decode cX7_change 62 = .ok (.getfield 55, 3) := by decide +kernel
theorem dX7_change_65 : decode cX7_change 65 = .ok (.iconst 1, 1) := by decide +kernel
theorem dX7_change_66 : decode cX7_change 66 = .ok (.iadd, 1) := by decide +kernel
theorem dX7_change_67 : decode cX7_change 67 = .ok (.putfield 55, 3) := by decide +kernel
theorem dX7_change_70 : decode cX7_change 70 = .ok (.return_, 1) := by decide +kernel
theorem dX7_changes_0 : decode cX7_changes 0 = .ok (.aload_n 0, 1) := by decide +kernel
theorem dX7_changes_1 : decode cX7_changes 1 = .ok (.invokevirtual 64, 3) := by decide +kernel
theorem dX7_changes_4 : decode cX7_changes 4 = .ok (.aload_n 0, 1) := by decide +kernel
theorem dX7_changes_5 : decode cX7_changes 5 = .ok (.invokevirtual 67, 3) := by decide +kernel
theorem dX7_changes_8 : decode cX7_changes 8 = .ok (.return_, 1) := by decide +kernel
theorem dX7_clear_0 : decode cX7_clear 0 = .ok (.aload_n 0, 1) := by decide +kernel
theorem dX7_clear_1 : decode cX7_clear 1 = .ok (.iconst 0, 1) := by decide +kernel
theorem dX7_clear_2 : decode cX7_clear 2 = .ok (.putfield 48, 3) := by decide +kernel
theorem dX7_clear_5 : decode cX7_clear 5 = .ok (.aload_n 0, 1) := by decide +kernel
theorem dX7_clear_6 : decode cX7_clear 6 = .ok (.getfield 9, 3) := by decide +kernel
theorem dX7_clear_9 : decode cX7_clear 9 = .ok (.iconst 1, 1) := by decide +kernel
theorem dX7_clear_10 : decode cX7_clear 10 = .ok (.iaload, 1) := by decide +kernel
theorem dX7_clear_11 : decode cX7_clear 11 = .ok (.istore_n 1, 1) := by decide +kernel
theorem dX7_clear_12 : decode cX7_clear 12 = .ok (.aload_n 0, 1) := by decide +kernel
theorem dX7_clear_13 : decode cX7_clear 13 = .ok (.invokevirtual 45, 3) := by decide +kernel
theorem dX7_clear_16 : decode cX7_clear 16 = .ok (.iload_n 1, 1) := by decide +kernel
theorem dX7_clear_17 : decode cX7_clear 17 = .ok (.ireturn, 1) := by decide +kernel
theorem dX7_isStand_0 : decode cX7_isStand 0 = .ok (.iload_n 1, 1) := by decide +kernel
theorem dX7_isStand_1 : decode cX7_isStand 1 = .ok (.iconst 0, 1) := by decide +kernel
theorem dX7_isStand_2 : decode cX7_isStand 2 = .ok (.aload_n 0, 1) := by decide +kernel
theorem dX7_isStand_3 : decode cX7_isStand 3 = .ok (.getfield 9, 3) := by decide +kernel
theorem dX7_isStand_6 : decode cX7_isStand 6 = .ok (.iconst 0, 1) := by decide +kernel
theorem dX7_isStand_7 : decode cX7_isStand 7 = .ok (.iaload, 1) := by decide +kernel
theorem dX7_isStand_8 : decode cX7_isStand 8 = .ok (.iconst 1, 1) := by decide +kernel
theorem dX7_isStand_9 : decode cX7_isStand 9 = .ok (.isub, 1) := by decide +kernel
theorem dX7_isStand_10 : decode cX7_isStand 10 = .ok (.invokestatic 51, 3) := by decide +kernel
theorem dX7_isStand_13 : decode cX7_isStand 13 = .ok (.ireturn, 1) := by decide +kernel
theorem dX7_limit_0 : decode cX7_limit 0 = .ok (.aload_n 0, 1) := by decide +kernel
theorem dX7_limit_1 : decode cX7_limit 1 = .ok (.getfield 9, 3) := by decide +kernel
theorem dX7_limit_4 : decode cX7_limit 4 = .ok (.bipush 28, 2) := by decide +kernel
theorem dX7_limit_6 : decode cX7_limit 6 = .ok (.bipush 8, 2) := by decide +kernel
theorem dX7_limit_8 : decode cX7_limit 8 = .ok (.iload_n 1, 1) := by decide +kernel
theorem dX7_limit_9 : decode cX7_limit 9 = .ok (.imul, 1) := by decide +kernel
theorem dX7_limit_10 : decode cX7_limit 10 = .ok (.iadd, 1) := by decide +kernel
theorem dX7_limit_11 : decode cX7_limit 11 = .ok (.iload_n 2, 1) := by decide +kernel
theorem dX7_limit_12 : decode cX7_limit 12 = .ok (.iadd, 1) := by decide +kernel
theorem dX7_limit_13 : decode cX7_limit 13 = .ok (.iaload, 1) := by decide +kernel
theorem dX7_limit_14 : decode cX7_limit 14 = .ok (.ireturn, 1) := by decide +kernel
theorem dX7_addStand_0 : decode cX7_addStand 0 = .ok (.aload_n 0, 1) := by decide +kernel
theorem dX7_addStand_1 : decode cX7_addStand 1 = .ok (.iload_n 1, 1) := by decide +kernel
theorem dX7_addStand_2 : decode cX7_addStand 2 = .ok (.iconst 0, 1) := by decide +kernel
theorem dX7_addStand_3 : decode cX7_addStand 3 = .ok (.iconst 2, 1) := by decide +kernel
theorem dX7_addStand_4 : decode cX7_addStand 4 = .ok (.invokestatic 51, 3) := by decide +kernel
theorem dX7_addStand_7 : decode cX7_addStand 7 = .ok (.ifCond .eq 12, 3) := by decide +kernel
theorem dX7_addStand_10 : decode cX7_addStand 10 = .ok (.iload_n 2, 1) := by decide +kernel
theorem dX7_addStand_11 : decode cX7_addStand 11 = .ok (.iconst 0, 1) := by decide +kernel
theorem dX7_addStand_12 : decode cX7_addStand 12 = .ok (.iconst 3, 1) := by decide +kernel
theorem dX7_addStand_13 : decode cX7_addStand 13 = .ok (.invokestatic 51, 3) := by decide +kernel
theorem dX7_addStand_16 : decode cX7_addStand 16 = .ok (.ifCond .ne 7, 3) := by decide +kernel
theorem dX7_addStand_19 : decode cX7_addStand 19 = .ok (.iconst 1, 1) := by decide +kernel
theorem dX7_addStand_20 : decode cX7_addStand 20 = .ok (.goto 19, 3) := by decide +kernel
theorem dX7_addStand_23 : decode cX7_addStand 23 = .ok (.aload_n 0, 1) := by decide +kernel
theorem dX7_addStand_24 : decode cX7_addStand 24 = .ok (.getfield 9, 3) := by decide +kernel
theorem dX7_addStand_27 : decode cX7_addStand 27 = .ok (.iconst 0, 1) := by decide +kernel
theorem dX7_addStand_28 : decode cX7_addStand 28 = .ok (.iaload, 1) := by decide +kernel
theorem dX7_addStand_29 : decode cX7_addStand 29 = .ok (.bipush 8, 2) := by decide +kernel
theorem dX7_addStand_31 : decode cX7_addStand 31 = .ok (.if_icmp .ne 7, 3) := by decide +kernel
theorem dX7_addStand_34 : decode cX7_addStand 34 = .ok (.iconst 2, 1) := by decide +kernel
theorem dX7_addStand_35 : decode cX7_addStand 35 = .ok (.goto 4, 3) := by decide +kernel
theorem dX7_addStand_38 : decode cX7_addStand 38 = .ok (.iconst 0, 1) := by decide +kernel
theorem dX7_addStand_39 : decode cX7_addStand 39 = .ok (.putfield 48, 3) := by decide +kernel
theorem dX7_addStand_42 : decode cX7_addStand 42 = .ok (.aload_n 0, 1) := by decide +kernel
theorem dX7_addStand_43 : decode cX7_addStand 43 = .ok (.getfield 48, 3) := by decide +kernel
theorem dX7_addStand_46 : decode cX7_addStand 46 = .ok (.ifCond .le 5, 3) := by decide +kernel
theorem dX7_addStand_49 : decode cX7_addStand 49 = .ok (.iconst 0, 1) := by decide +kernel
theorem dX7_addStand_50 : decode cX7_addStand 50 = .ok (.ireturn, 1) := by decide +kernel
theorem dX7_addStand_51 : decode cX7_addStand 51 = .ok (.aload_n 0, 1) := by decide +kernel
theorem dX7_addStand_52 : decode cX7_addStand 52 = .ok (.invokevirtual 70, 3) := by decide +kernel
theorem dX7_addStand_55 : decode cX7_addStand 55 = .ok (.aload_n 0, 1) := by decide +kernel
theorem dX7_addStand_56 : decode cX7_addStand 56 = .ok (.getfield 9, 3) := by decide +kernel
theorem dX7_addStand_59 : decode cX7_addStand 59 = .ok (.iconst 0, 1) := by decide +kernel
theorem dX7_addStand_60 : decode cX7_addStand 60 = .ok (.iaload, 1) := by decide +kernel
theorem dX7_addStand_61 : decode cX7_addStand 61 = .ok (.istore_n 3, 1) := by decide +kernel
theorem dX7_addStand_62 : decode cX7_addStand 62 = .ok (.aload_n 0, 1) := by decide +kernel
theorem dX7_addStand_63 : decode cX7_addStand 63 = .ok (.getfield 9, 3) := by decide +kernel
theorem dX7_addStand_66 : decode cX7_addStand 66 = .ok (.iconst 4, 1) := by decide +kernel
theorem dX7_addStand_67 : decode cX7_addStand 67 = .ok (.iload_n 3, 1) := by decide +kernel
theorem dX7_addStand_68 : decode cX7_addStand 68 = .ok (.iadd, 1) := by decide +kernel
theorem dX7_addStand_69 : decode cX7_addStand 69 = .ok (.iload_n 1, 1) := by decide +kernel
theorem dX7_addStand_70 : decode cX7_addStand 70 = .ok (.iastore, 1) := by decide +kernel
theorem dX7_addStand_71 : decode cX7_addStand 71 = .ok (.aload_n 0, 1) := by decide +kernel
theorem dX7_addStand_72 : decode cX7_addStand 72 = .ok (.getfield 9, 3) := by decide +kernel
theorem dX7_addStand_75 : decode cX7_addStand 75 = .ok (.bipush 12, 2) := by decide +kernel
theorem dX7_addStand_77 : decode cX7_addStand 77 = .ok (.iload_n 3, 1) := by decide +kernel
theorem dX7_addStand_78 : decode cX7_addStand 78 = .ok (.iadd, 1) := by decide +kernel
theorem dX7_addStand_79 : decode cX7_addStand 79 = .ok (.iload_n 2, 1) := by decide +kernel
theorem dX7_addStand_80 : decode cX7_addStand 80 = .ok (.iastore, 1) := by decide +kernel
theorem dX7_addStand_81 : decode cX7_addStand 81 = .ok (.aload_n 0, 1) := by decide +kernel
theorem dX7_addStand_82 : decode cX7_addStand 82 = .ok (.getfield 9, 3) := by decide +kernel
theorem dX7_addStand_85 : decode cX7_addStand 85 = .ok (.bipush 20, 2) := by decide +kernel
theorem dX7_addStand_87 : decode cX7_addStand 87 = .ok (.iload_n 3, 1) := by decide +kernel
theorem dX7_addStand_88 : decode cX7_addStand 88 = .ok (.iadd, 1) := by decide +kernel
theorem dX7_addStand_89 : decode cX7_addStand 89 = .ok (.iconst 1, 1) := by decide +kernel
theorem dX7_addStand_90 : decode cX7_addStand 90 = .ok (.iastore, 1) := by decide +kernel
theorem dX7_addStand_91 : decode cX7_addStand 91 = .ok (.aload_n 0, 1) := by decide +kernel
theorem dX7_addStand_92 : decode cX7_addStand 92 = .ok (.getfield 9, 3) := by decide +kernel
theorem dX7_addStand_95 : decode cX7_addStand 95 = .ok (.iconst 0, 1) := by decide +kernel
theorem dX7_addStand_96 : decode cX7_addStand 96 = .ok (.dup2, 1) := by decide +kernel
theorem dX7_addStand_97 : decode cX7_addStand 97 = .ok (.iaload, 1) := by decide +kernel
theorem dX7_addStand_98 : decode cX7_addStand 98 = .ok (.iconst 1, 1) := by decide +kernel
theorem dX7_addStand_99 : decode cX7_addStand 99 = .ok (.iadd, 1) := by decide +kernel
theorem dX7_addStand_100 : decode cX7_addStand 100 = .ok (.iastore, 1) := by decide +kernel
theorem dX7_addStand_101 : decode cX7_addStand 101 = .ok (.iload_n 3, 1) := by decide +kernel
theorem dX7_addStand_102 : decode cX7_addStand 102 = .ok (.ireturn, 1) := by decide +kernel
theorem dX7_pair_0 : decode cX7_pair 0 = .ok (.aload_n 0, 1) := by decide +kernel
theorem dX7_pair_1 : decode cX7_pair 1 = .ok (.aload_n 0, 1) := by decide +kernel
theorem dX7_pair_2 : decode cX7_pair 2 = .ok (.iload_n 1, 1) := by decide +kernel
theorem dX7_pair_3 : decode cX7_pair 3 = .ok (.invokevirtual 73, 3) := by decide +kernel
theorem dX7_pair_6 : decode cX7_pair 6 = .ok (.ifCond .eq 11, 3) := by decide +kernel
theorem dX7_pair_9 : decode cX7_pair 9 = .ok (.aload_n 0, 1) := by decide +kernel
theorem dX7_pair_10 : decode cX7_pair 10 = .ok (.iload_n 2, 1) := by decide +kernel
theorem dX7_pair_11 : decode cX7_pair 11 = .ok (.invokevirtual 73, 3) := by decide +kernel
theorem dX7_pair_14 : decode cX7_pair 14 = .ok (.ifCond .ne 7, 3) := by decide +kernel
theorem dX7_pair_17 : decode cX7_pair 17 = .ok (.iconst 1, 1) := by decide +kernel
theorem dX7_pair_18 : decode cX7_pair 18 = .ok (.goto 23, 3) := by decide +kernel
theorem dX7_pair_21 : decode cX7_pair 21 = .ok (.iload_n 1, 1) := by decide +kernel
theorem dX7_pair_22 : decode cX7_pair 22 = .ok (.iload_n 2, 1) := by decide +kernel
theorem dX7_pair_23 : decode cX7_pair 23 = .ok (.if_icmp .eq 13, 3) := by decide +kernel
theorem dX7_pair_26 : decode cX7_pair 26 = .ok (.iload_n 3, 1) := by decide +kernel
theorem dX7_pair_27 : decode cX7_pair 27 = .ok (.iconst (-1), 1) := by decide +kernel
theorem dX7_pair_28 : decode cX7_pair 28 = .ok (.bipush 6, 2) := by decide +kernel
theorem dX7_pair_30 : decode cX7_pair 30 = .ok (.invokestatic 51, 3) := by decide +kernel
theorem dX7_pair_33 : decode cX7_pair 33 = .ok (.ifCond .ne 7, 3) := by decide +kernel
theorem dX7_pair_36 : decode cX7_pair 36 = .ok (.iconst 2, 1) := by decide +kernel
theorem dX7_pair_37 : decode cX7_pair 37 = .ok (.goto 4, 3) := by decide +kernel
theorem dX7_pair_40 : decode cX7_pair 40 = .ok (.iconst 0, 1) := by decide +kernel
theorem dX7_pair_41 : decode cX7_pair 41 = .ok (.putfield 48, 3) := by decide +kernel
theorem dX7_pair_44 : decode cX7_pair 44 = .ok (.aload_n 0, 1) := by decide +kernel
theorem dX7_pair_45 : decode cX7_pair 45 = .ok (.getfield 48, 3) := by decide +kernel
theorem dX7_pair_48 : decode cX7_pair 48 = .ok (.ifCond .le 5, 3) := by decide +kernel
theorem dX7_pair_51 : decode cX7_pair 51 = .ok (.iconst 0, 1) := by decide +kernel
theorem dX7_pair_52 : decode cX7_pair 52 = .ok (.ireturn, 1) := by decide +kernel
theorem dX7_pair_53 : decode cX7_pair 53 = .ok (.aload_n 0, 1) := by decide +kernel
theorem dX7_pair_54 : decode cX7_pair 54 = .ok (.invokevirtual 70, 3) := by decide +kernel
theorem dX7_pair_57 : decode cX7_pair 57 = .ok (.aload_n 0, 1) := by decide +kernel
theorem dX7_pair_58 : decode cX7_pair 58 = .ok (.iload_n 1, 1) := by decide +kernel
theorem dX7_pair_59 : decode cX7_pair 59 = .ok (.iload_n 2, 1) := by decide +kernel
theorem dX7_pair_60 : decode cX7_pair 60 = .ok (.invokevirtual 77, 3) := by decide +kernel
theorem dX7_pair_63 : decode cX7_pair 63 = .ok (.istore 4, 2) := by decide +kernel
theorem dX7_pair_65 : decode cX7_pair 65 = .ok (.aload_n 0, 1) := by decide +kernel
theorem dX7_pair_66 : decode cX7_pair 66 = .ok (.getfield 9, 3) := by decide +kernel
theorem dX7_pair_69 : decode cX7_pair 69 = .ok (.bipush 28, 2) := by decide +kernel
theorem dX7_pair_71 : decode cX7_pair 71 = .ok (.bipush 8, 2) := by decide +kernel
theorem dX7_pair_73 : decode cX7_pair 73 = .ok (.iload_n 1, 1) := by decide +kernel
theorem dX7_pair_74 : decode cX7_pair 74 = .ok (.imul, 1) := by decide +kernel
theorem dX7_pair_75 : decode cX7_pair 75 = .ok (.iadd, 1) := by decide +kernel
theorem dX7_pair_76 : decode cX7_pair 76 = .ok (.iload_n 2, 1) := by decide +kernel
theorem dX7_pair_77 : decode cX7_pair 77 = .ok (.iadd, 1) := by decide +kernel
theorem dX7_pair_78 : decode cX7_pair 78 = .ok (.iload_n 3, 1) := by decide +kernel
theorem dX7_pair_79 : decode cX7_pair 79 = .ok (.iastore, 1) := by decide +kernel
theorem dX7_pair_80 : decode cX7_pair 80 = .ok (.aload_n 0, 1) := by decide +kernel
theorem dX7_pair_81 : decode cX7_pair 81 = .ok (.getfield 9, 3) := by decide +kernel
theorem dX7_pair_84 : decode cX7_pair 84 = .ok (.bipush 28, 2) := by decide +kernel
theorem dX7_pair_86 : decode cX7_pair 86 = .ok (.bipush 8, 2) := by decide +kernel
theorem dX7_pair_88 : decode cX7_pair 88 = .ok (.iload_n 2, 1) := by decide +kernel
theorem dX7_pair_89 : decode cX7_pair 89 = .ok (.imul, 1) := by decide +kernel
theorem dX7_pair_90 : decode cX7_pair 90 = .ok (.iadd, 1) := by decide +kernel
theorem dX7_pair_91 : decode cX7_pair 91 = .ok (.iload_n 1, 1) := by decide +kernel
theorem dX7_pair_92 : decode cX7_pair 92 = .ok (.iadd, 1) := by decide +kernel
theorem dX7_pair_93 : decode cX7_pair 93 = .ok (.iload_n 3, 1) := by decide +kernel
theorem dX7_pair_94 : decode cX7_pair 94 = .ok (.iastore, 1) := by decide +kernel
theorem dX7_pair_95 : decode cX7_pair 95 = .ok (.iload 4, 2) := by decide +kernel
theorem dX7_pair_97 : decode cX7_pair 97 = .ok (.ireturn, 1) := by decide +kernel
theorem dX7_setOpen_0 : decode cX7_setOpen 0 = .ok (.aload_n 0, 1) := by decide +kernel
theorem dX7_setOpen_1 : decode cX7_setOpen 1 = .ok (.aload_n 0, 1) := by decide +kernel
theorem dX7_setOpen_2 : decode cX7_setOpen 2 = .ok (.iload_n 1, 1) := by decide +kernel
theorem dX7_setOpen_3 : decode cX7_setOpen 3 = .ok (.invokevirtual 73, 3) := by decide +kernel
theorem dX7_setOpen_6 : decode cX7_setOpen 6 = .ok (.ifCond .eq 7, 3) := by decide +kernel
theorem dX7_setOpen_9 : decode cX7_setOpen 9 = .ok (.iconst 0, 1) := by decide +kernel
theorem dX7_setOpen_10 : decode cX7_setOpen 10 = .ok (.goto 4, 3) := by decide +kernel
theorem dX7_setOpen_13 : decode cX7_setOpen 13 = .ok (.iconst 1, 1) := by decide +kernel
theorem dX7_setOpen_14 : decode cX7_setOpen 14 = .ok (.putfield 48, 3) := by decide +kernel
theorem dX7_setOpen_17 : decode cX7_setOpen 17 = .ok (.aload_n 0, 1) := by decide +kernel
theorem dX7_setOpen_18 : decode cX7_setOpen 18 = .ok (.getfield 48, 3) := by decide +kernel
theorem dX7_setOpen_21 : decode cX7_setOpen 21 = .ok (.ifCond .le 5, 3) := by decide +kernel
theorem dX7_setOpen_24 : decode cX7_setOpen 24 = .ok (.iconst 0, 1) := by decide +kernel
theorem dX7_setOpen_25 : decode cX7_setOpen 25 = .ok (.ireturn, 1) := by decide +kernel
theorem dX7_setOpen_26 : decode cX7_setOpen 26 = .ok (.aload_n 0, 1) := by decide +kernel
theorem dX7_setOpen_27 : decode cX7_setOpen 27 = .ok (.invokevirtual 70, 3) := by decide +kernel
theorem dX7_setOpen_30 : decode cX7_setOpen 30 = .ok (.aload_n 0, 1) := by decide +kernel
theorem dX7_setOpen_31 : decode cX7_setOpen 31 = .ok (.getfield 9, 3) := by decide +kernel
theorem dX7_setOpen_34 : decode cX7_setOpen 34 = .ok (.bipush 20, 2) := by decide +kernel
theorem dX7_setOpen_36 : decode cX7_setOpen 36 = .ok (.iload_n 1, 1) := by decide +kernel
theorem dX7_setOpen_37 : decode cX7_setOpen 37 = .ok (.iadd, 1) := by decide +kernel
theorem dX7_setOpen_38 : decode cX7_setOpen 38 = .ok (.iaload, 1) := by decide +kernel
theorem dX7_setOpen_39 : decode cX7_setOpen 39 = .ok (.iconst 1, 1) := by decide +kernel
theorem dX7_setOpen_40 : decode cX7_setOpen 40 = .ok (.if_icmp .ne 7, 3) := by decide +kernel
theorem dX7_setOpen_43 : decode cX7_setOpen 43 = .ok (.iconst 1, 1) := by decide +kernel
theorem dX7_setOpen_44 : decode cX7_setOpen 44 = .ok (.goto 4, 3) := by decide +kernel
theorem dX7_setOpen_47 : decode cX7_setOpen 47 = .ok (.iconst 0, 1) := by decide +kernel
theorem dX7_setOpen_48 : decode cX7_setOpen 48 = .ok (.istore_n 3, 1) := by decide +kernel
theorem dX7_setOpen_49 : decode cX7_setOpen 49 = .ok (.aload_n 0, 1) := by decide +kernel
theorem dX7_setOpen_50 : decode cX7_setOpen 50 = .ok (.getfield 9, 3) := by decide +kernel
theorem dX7_setOpen_53 : decode cX7_setOpen 53 = .ok (.bipush 20, 2) := by decide +kernel
theorem dX7_setOpen_55 : decode cX7_setOpen 55 = .ok (.iload_n 1, 1) := by decide +kernel
theorem dX7_setOpen_56 : decode cX7_setOpen 56 = .ok (.iadd, 1) := by decide +kernel
theorem dX7_setOpen_57 : decode cX7_setOpen 57 = .ok (.iload_n 2, 1) := by decide +kernel
theorem dX7_setOpen_58 : decode cX7_setOpen 58 = .ok (.ifCond .eq 7, 3) := by decide +kernel
theorem dX7_setOpen_61 : decode cX7_setOpen 61 = .ok (.iconst 1, 1) := by decide +kernel
theorem dX7_setOpen_62 : decode cX7_setOpen 62 = .ok (.goto 4, 3) := by decide +kernel
theorem dX7_setOpen_65 : decode cX7_setOpen 65 = .ok (.iconst 0, 1) := by decide +kernel
theorem dX7_setOpen_66 : decode cX7_setOpen 66 = .ok (.iastore, 1) := by decide +kernel
theorem dX7_setOpen_67 : decode cX7_setOpen 67 = .ok (.iload_n 3, 1) := by decide +kernel
theorem dX7_setOpen_68 : decode cX7_setOpen 68 = .ok (.ireturn, 1) := by decide +kernel
theorem dX7_setBuffer_0 : decode cX7_setBuffer 0 = .ok (.aload_n 0, 1) := by decide +kernel
theorem dX7_setBuffer_1 : decode cX7_setBuffer 1 = .ok (.iload_n 1, 1) := by decide +kernel
theorem dX7_setBuffer_2 : decode cX7_setBuffer 2 = .ok (.iconst 0, 1) := by decide +kernel
theorem dX7_setBuffer_3 : decode cX7_setBuffer 3 = .ok (.bipush 60, 2) := by decide +kernel
theorem dX7_setBuffer_5 : decode cX7_setBuffer 5 = .ok (.invokestatic 51, 3) := by decide +kernel
theorem dX7_setBuffer_8 : decode cX7_setBuffer 8 = .ok (.ifCond .eq 7, 3) := by decide +kernel
theorem dX7_setBuffer_11 : decode cX7_setBuffer 11 = .ok (.iconst 0, 1) := by decide +kernel
theorem dX7_setBuffer_12 : decode cX7_setBuffer 12 = .ok (.goto 4, 3) := by decide +kernel
theorem dX7_setBuffer_15 : decode cX7_setBuffer 15 = .ok (.iconst 1, 1) := by decide +kernel
theorem dX7_setBuffer_16 : decode cX7_setBuffer 16 = .ok (.putfield 48, 3) := by decide +kernel
theorem dX7_setBuffer_19 : decode cX7_setBuffer 19 = .ok (.aload_n 0, 1) := by decide +kernel
theorem dX7_setBuffer_20 : decode cX7_setBuffer 20 = .ok (.getfield 48, 3) := by decide +kernel
theorem dX7_setBuffer_23 : decode cX7_setBuffer 23 = .ok (.ifCond .le 5, 3) := by decide +kernel
theorem dX7_setBuffer_26 : decode cX7_setBuffer 26 = .ok (.iconst 0, 1) := by decide +kernel
theorem dX7_setBuffer_27 : decode cX7_setBuffer 27 = .ok (.ireturn, 1) := by decide +kernel
theorem dX7_setBuffer_28 : decode cX7_setBuffer 28 = .ok (.aload_n 0, 1) := by decide +kernel
theorem dX7_setBuffer_29 : decode cX7_setBuffer 29 = .ok (.invokevirtual 70, 3) := by decide +kernel
theorem dX7_setBuffer_32 : decode cX7_setBuffer 32 = .ok (.aload_n 0, 1) := by decide +kernel
theorem dX7_setBuffer_33 : decode cX7_setBuffer 33 = .ok (.getfield 9, 3) := by decide +kernel
theorem dX7_setBuffer_36 : decode cX7_setBuffer 36 = .ok (.iconst 2, 1) := by decide +kernel
theorem dX7_setBuffer_37 : decode cX7_setBuffer 37 = .ok (.iaload, 1) := by decide +kernel
theorem dX7_setBuffer_38 : decode cX7_setBuffer 38 = .ok (.istore_n 2, 1) := by decide +kernel
theorem dX7_setBuffer_39 : decode cX7_setBuffer 39 = .ok (.aload_n 0, 1) := by decide +kernel
theorem dX7_setBuffer_40 : decode cX7_setBuffer 40 = .ok (.getfield 9, 3) := by decide +kernel
theorem dX7_setBuffer_43 : decode cX7_setBuffer 43 = .ok (.iconst 2, 1) := by decide +kernel
theorem dX7_setBuffer_44 : decode cX7_setBuffer 44 = .ok (.iload_n 1, 1) := by decide +kernel
theorem dX7_setBuffer_45 : decode cX7_setBuffer 45 = .ok (.iastore, 1) := by decide +kernel
theorem dX7_setBuffer_46 : decode cX7_setBuffer 46 = .ok (.iload_n 2, 1) := by decide +kernel
theorem dX7_setBuffer_47 : decode cX7_setBuffer 47 = .ok (.ireturn, 1) := by decide +kernel
theorem dX7_at_0 : decode cX7_at 0 = .ok (.bipush 92, 2) := by decide +kernel
theorem dX7_at_2 : decode cX7_at 2 = .ok (.bipush 7, 2) := by decide +kernel
theorem dX7_at_4 : decode cX7_at 4 = .ok (.iload_n 0, 1) := by decide +kernel
theorem dX7_at_5 : decode cX7_at 5 = .ok (.imul, 1) := by decide +kernel
theorem dX7_at_6 : decode cX7_at 6 = .ok (.iadd, 1) := by decide +kernel
theorem dX7_at_7 : decode cX7_at 7 = .ok (.ireturn, 1) := by decide +kernel
theorem dX7_isTurn_0 : decode cX7_isTurn 0 = .ok (.iload_n 1, 1) := by decide +kernel
theorem dX7_isTurn_1 : decode cX7_isTurn 1 = .ok (.iconst 0, 1) := by decide +kernel
theorem dX7_isTurn_2 : decode cX7_isTurn 2 = .ok (.aload_n 0, 1) := by decide +kernel
theorem dX7_isTurn_3 : decode cX7_isTurn 3 = .ok (.getfield 9, 3) := by decide +kernel
theorem dX7_isTurn_6 : decode cX7_isTurn 6 = .ok (.iconst 1, 1) := by decide +kernel
theorem dX7_isTurn_7 : decode cX7_isTurn 7 = .ok (.iaload, 1) := by decide +kernel
theorem dX7_isTurn_8 : decode cX7_isTurn 8 = .ok (.iconst 1, 1) := by decide +kernel
theorem dX7_isTurn_9 : decode cX7_isTurn 9 = .ok (.isub, 1) := by decide +kernel
theorem dX7_isTurn_10 : decode cX7_isTurn 10 = .ok (.invokestatic 51, 3) := by decide +kernel
theorem dX7_isTurn_13 : decode cX7_isTurn 13 = .ok (.ireturn, 1) := by decide +kernel
theorem dX7_tow_0 : decode cX7_tow 0 = .ok (.aload_n 0, 1) := by decide +kernel
theorem dX7_tow_1 : decode cX7_tow 1 = .ok (.getfield 9, 3) := by decide +kernel
theorem dX7_tow_4 : decode cX7_tow 4 = .ok (.iload_n 1, 1) := by decide +kernel
theorem dX7_tow_5 : decode cX7_tow 5 = .ok (.invokestatic 81, 3) := by decide +kernel
theorem dX7_tow_8 : decode cX7_tow 8 = .ok (.iconst 4, 1) := by decide +kernel
theorem dX7_tow_9 : decode cX7_tow 9 = .ok (.iadd, 1) := by decide +kernel
theorem dX7_tow_10 : decode cX7_tow 10 = .ok (.iaload, 1) := by decide +kernel
theorem dX7_tow_11 : decode cX7_tow 11 = .ok (.ireturn, 1) := by decide +kernel
theorem dX7_isStay_0 : decode cX7_isStay 0 = .ok (.iload_n 1, 1) := by decide +kernel
theorem dX7_isStay_1 : decode cX7_isStay 1 = .ok (.ifCond .lt 33, 3) := by decide +kernel
theorem dX7_isStay_4 : decode cX7_isStay 4 = .ok (.aload_n 0, 1) := by decide +kernel
theorem dX7_isStay_5 : decode cX7_isStay 5 = .ok (.iload_n 1, 1) := by decide +kernel
theorem dX7_isStay_6 : decode cX7_isStay 6 = .ok (.iconst 2, 1) := by decide +kernel
theorem dX7_isStay_7 : decode cX7_isStay 7 = .ok (.idiv, 1) := by decide +kernel
theorem dX7_isStay_8 : decode cX7_isStay 8 = .ok (.invokevirtual 85, 3) := by decide +kernel
theorem dX7_isStay_11 : decode cX7_isStay 11 = .ok (.ifCond .eq 23, 3) := by decide +kernel
theorem dX7_isStay_14 : decode cX7_isStay 14 = .ok (.iload_n 1, 1) := by decide +kernel
theorem dX7_isStay_15 : decode cX7_isStay 15 = .ok (.iconst 2, 1) := by decide +kernel
theorem dX7_isStay_16 : decode cX7_isStay 16 = .ok (.irem, 1) := by decide +kernel
theorem dX7_isStay_17 : decode cX7_isStay 17 = .ok (.ifCond .eq 13, 3) := by decide +kernel
theorem dX7_isStay_20 : decode cX7_isStay 20 = .ok (.aload_n 0, 1) := by decide +kernel
theorem dX7_isStay_21 : decode cX7_isStay 21 = .ok (.iload_n 1, 1) := by decide +kernel
theorem dX7_isStay_22 : decode cX7_isStay 22 = .ok (.iconst 2, 1) := by decide +kernel
theorem dX7_isStay_23 : decode cX7_isStay 23 = .ok (.idiv, 1) := by decide +kernel
theorem dX7_isStay_24 : decode cX7_isStay 24 = .ok (.invokevirtual 88, 3) := by decide +kernel
theorem dX7_isStay_27 : decode cX7_isStay 27 = .ok (.ifCond .lt 7, 3) := by decide +kernel
theorem dX7_isStay_30 : decode cX7_isStay 30 = .ok (.iconst 1, 1) := by decide +kernel
theorem dX7_isStay_31 : decode cX7_isStay 31 = .ok (.goto 4, 3) := by decide +kernel
theorem dX7_isStay_34 : decode cX7_isStay 34 = .ok (.iconst 0, 1) := by decide +kernel
theorem dX7_isStay_35 : decode cX7_isStay 35 = .ok (.ireturn, 1) := by decide +kernel
theorem dX7_isStay__0 : decode cX7_isStay_ 0 = .ok (.aload_n 0, 1) := by decide +kernel
theorem dX7_isStay__1 : decode cX7_isStay_ 1 = .ok (.iload_n 1, 1) := by decide +kernel
theorem dX7_isStay__2 : decode cX7_isStay_ 2 = .ok (.invokevirtual 85, 3) := by decide +kernel
theorem dX7_isStay__5 : decode cX7_isStay_ 5 = .ok (.ifCond .eq 28, 3) := by decide +kernel
theorem dX7_isStay__8 : decode cX7_isStay_ 8 = .ok (.iload_n 2, 1) := by decide +kernel
theorem dX7_isStay__9 : decode cX7_isStay_ 9 = .ok (.iconst 0, 1) := by decide +kernel
theorem dX7_isStay__10 : decode cX7_isStay_ 10 = .ok (.iconst 1, 1) := by decide +kernel
theorem dX7_isStay__11 : decode cX7_isStay_ 11 = .ok (.invokestatic 51, 3) := by decide +kernel
theorem dX7_isStay__14 : decode cX7_isStay_ 14 = .ok (.ifCond .eq 19, 3) := by decide +kernel
theorem dX7_isStay__17 : decode cX7_isStay_ 17 = .ok (.aload_n 0, 1) := by decide +kernel
theorem dX7_isStay__18 : decode cX7_isStay_ 18 = .ok (.iconst 2, 1) := by decide +kernel
theorem dX7_isStay__19 : decode cX7_isStay_ 19 = .ok (.iload_n 1, 1) := by decide +kernel
theorem dX7_isStay__20 : decode cX7_isStay_ 20 = .ok (.imul, 1) := by decide +kernel
theorem dX7_isStay__21 : decode cX7_isStay_ 21 = .ok (.iload_n 2, 1) := by decide +kernel
theorem dX7_isStay__22 : decode cX7_isStay_ 22 = .ok (.iadd, 1) := by decide +kernel
theorem dX7_isStay__23 : decode cX7_isStay_ 23 = .ok (.invokevirtual 91, 3) := by decide +kernel
theorem dX7_isStay__26 : decode cX7_isStay_ 26 = .ok (.ifCond .eq 7, 3) := by decide +kernel
theorem dX7_isStay__29 : decode cX7_isStay_ 29 = .ok (.iconst 1, 1) := by decide +kernel
theorem dX7_isStay__30 : decode cX7_isStay_ 30 = .ok (.goto 4, 3) := by decide +kernel
theorem dX7_isStay__33 : decode cX7_isStay_ 33 = .ok (.iconst 0, 1) := by decide +kernel
theorem dX7_isStay__34 : decode cX7_isStay_ 34 = .ok (.ireturn, 1) := by decide +kernel
theorem dX7_from_0 : decode cX7_from 0 = .ok (.iload_n 1, 1) := by decide +kernel
theorem dX7_from_1 : decode cX7_from 1 = .ok (.iconst 2, 1) := by decide +kernel
theorem dX7_from_2 : decode cX7_from 2 = .ok (.idiv, 1) := by decide +kernel
theorem dX7_from_3 : decode cX7_from 3 = .ok (.invokestatic 81, 3) := by decide +kernel
theorem dX7_from_6 : decode cX7_from 6 = .ok (.istore_n 2, 1) := by decide +kernel
theorem dX7_from_7 : decode cX7_from 7 = .ok (.iload_n 1, 1) := by decide +kernel
theorem dX7_from_8 : decode cX7_from 8 = .ok (.iconst 2, 1) := by decide +kernel
theorem dX7_from_9 : decode cX7_from 9 = .ok (.irem, 1) := by decide +kernel
theorem dX7_from_10 : decode cX7_from 10 = .ok (.ifCond .ne 14, 3) := by decide +kernel
theorem dX7_from_13 : decode cX7_from 13 = .ok (.aload_n 0, 1) := by decide +kernel
theorem dX7_from_14 : decode cX7_from 14 = .ok (.getfield 9, 3) := by decide +kernel
theorem dX7_from_17 : decode cX7_from 17 = .ok (.iload_n 2, 1) := by decide +kernel
theorem dX7_from_18 : decode cX7_from 18 = .ok (.iconst 1, 1) := by decide +kernel
theorem dX7_from_19 : decode cX7_from 19 = .ok (.iadd, 1) := by decide +kernel
theorem dX7_from_20 : decode cX7_from 20 = .ok (.iaload, 1) := by decide +kernel
theorem dX7_from_21 : decode cX7_from 21 = .ok (.goto 14, 3) := by decide +kernel
theorem dX7_from_24 : decode cX7_from 24 = .ok (.aload_n 0, 1) := by decide +kernel
theorem dX7_from_25 : decode cX7_from 25 = .ok (.getfield 9, 3) := by decide +kernel
theorem dX7_from_28 : decode cX7_from 28 = .ok (.iload_n 2, 1) := by decide +kernel
theorem dX7_from_29 : decode cX7_from 29 = .ok (.iconst 4, 1) := by decide +kernel
theorem dX7_from_30 : decode cX7_from 30 = .ok (.iadd, 1) := by decide +kernel
theorem dX7_from_31 : decode cX7_from 31 = .ok (.iaload, 1) := by decide +kernel
theorem dX7_from_32 : decode cX7_from 32 = .ok (.bipush 10, 2) := by decide +kernel
theorem dX7_from_34 : decode cX7_from 34 = .ok (.iadd, 1) := by decide +kernel
theorem dX7_from_35 : decode cX7_from 35 = .ok (.ireturn, 1) := by decide +kernel
theorem dX7_to_0 : decode cX7_to 0 = .ok (.iload_n 1, 1) := by decide +kernel
theorem dX7_to_1 : decode cX7_to 1 = .ok (.iconst 2, 1) := by decide +kernel
theorem dX7_to_2 : decode cX7_to 2 = .ok (.idiv, 1) := by decide +kernel
theorem dX7_to_3 : decode cX7_to 3 = .ok (.invokestatic 81, 3) := by decide +kernel
theorem dX7_to_6 : decode cX7_to 6 = .ok (.istore_n 2, 1) := by decide +kernel
theorem dX7_to_7 : decode cX7_to 7 = .ok (.iload_n 1, 1) := by decide +kernel
theorem dX7_to_8 : decode cX7_to 8 = .ok (.iconst 2, 1) := by decide +kernel
theorem dX7_to_9 : decode cX7_to 9 = .ok (.irem, 1) := by decide +kernel
theorem dX7_to_10 : decode cX7_to 10 = .ok (.ifCond .ne 25, 3) := by decide +kernel
theorem dX7_to_13 : decode cX7_to 13 = .ok (.aload_n 0, 1) := by decide +kernel
theorem dX7_to_14 : decode cX7_to 14 = .ok (.getfield 9, 3) := by decide +kernel
theorem dX7_to_17 : decode cX7_to 17 = .ok (.iload_n 2, 1) := by decide +kernel
theorem dX7_to_18 : decode cX7_to 18 = .ok (.iconst 4, 1) := by decide +kernel
theorem dX7_to_19 : decode cX7_to 19 = .ok (.iadd, 1) := by decide +kernel
theorem dX7_to_20 : decode cX7_to 20 = .ok (.iaload, 1) := by decide +kernel
theorem dX7_to_21 : decode cX7_to 21 = .ok (.ifCond .lt 14, 3) := by decide +kernel
theorem dX7_to_24 : decode cX7_to 24 = .ok (.aload_n 0, 1) := by decide +kernel
theorem dX7_to_25 : decode cX7_to 25 = .ok (.getfield 9, 3) := by decide +kernel
theorem dX7_to_28 : decode cX7_to 28 = .ok (.iload_n 2, 1) := by decide +kernel
theorem dX7_to_29 : decode cX7_to 29 = .ok (.iconst 4, 1) := by decide +kernel
theorem dX7_to_30 : decode cX7_to 30 = .ok (.iadd, 1) := by decide +kernel
theorem dX7_to_31 : decode cX7_to 31 = .ok (.iaload, 1) := by decide +kernel
theorem dX7_to_32 : decode cX7_to 32 = .ok (.goto 11, 3) := by decide +kernel
theorem dX7_to_35 : decode cX7_to 35 = .ok (.aload_n 0, 1) := by decide +kernel
theorem dX7_to_36 : decode cX7_to 36 = .ok (.getfield 9, 3) := by decide +kernel
theorem dX7_to_39 : decode cX7_to 39 = .ok (.iload_n 2, 1) := by decide +kernel
theorem dX7_to_40 : decode cX7_to 40 = .ok (.iconst 2, 1) := by decide +kernel
theorem dX7_to_41 : decode cX7_to 41 = .ok (.iadd, 1) := by decide +kernel
theorem dX7_to_42 : decode cX7_to 42 = .ok (.iaload, 1) := by decide +kernel
theorem dX7_to_43 : decode cX7_to 43 = .ok (.ireturn, 1) := by decide +kernel
theorem dX7_size_0 : decode cX7_size 0 = .ok (.aload_n 0, 1) := by decide +kernel
theorem dX7_size_1 : decode cX7_size 1 = .ok (.getfield 9, 3) := by decide +kernel
theorem dX7_size_4 : decode cX7_size 4 = .ok (.iload_n 1, 1) := by decide +kernel
theorem dX7_size_5 : decode cX7_size 5 = .ok (.iconst 2, 1) := by decide +kernel
theorem dX7_size_6 : decode cX7_size 6 = .ok (.idiv, 1) := by decide +kernel
theorem dX7_size_7 : decode cX7_size 7 = .ok (.invokestatic 81, 3) := by decide +kernel
theorem dX7_size_10 : decode cX7_size 10 = .ok (.iaload, 1) := by decide +kernel
theorem dX7_size_11 : decode cX7_size 11 = .ok (.ireturn, 1) := by decide +kernel
theorem dX7_weight_0 : decode cX7_weight 0 = .ok (.aload_n 0, 1) := by decide +kernel
theorem dX7_weight_1 : decode cX7_weight 1 = .ok (.getfield 9, 3) := by decide +kernel
theorem dX7_weight_4 : decode cX7_weight 4 = .ok (.iload_n 1, 1) := by decide +kernel
theorem dX7_weight_5 : decode cX7_weight 5 = .ok (.iconst 2, 1) := by decide +kernel
theorem dX7_weight_6 : decode cX7_weight 6 = .ok (.idiv, 1) := by decide +kernel
theorem dX7_weight_7 : decode cX7_weight 7 = .ok (.invokestatic 81, 3) := by decide +kernel
theorem dX7_weight_10 : decode cX7_weight 10 = .ok (.iconst 3, 1) := by decide +kernel
theorem dX7_weight_11 : decode cX7_weight 11 = .ok (.iadd, 1) := by decide +kernel
theorem dX7_weight_12 : decode cX7_weight 12 = .ok (.iaload, 1) := by decide +kernel
theorem dX7_weight_13 : decode cX7_weight 13 = .ok (.ireturn, 1) := by decide +kernel
theorem dX7_on_0 : decode cX7_on 0 = .ok (.aload_n 0, 1) := by decide +kernel
theorem dX7_on_1 : decode cX7_on 1 = .ok (.getfield 9, 3) := by decide +kernel
theorem dX7_on_4 : decode cX7_on 4 = .ok (.iload_n 1, 1) := by decide +kernel
theorem dX7_on_5 : decode cX7_on 5 = .ok (.iconst 2, 1) := by decide +kernel
theorem dX7_on_6 : decode cX7_on 6 = .ok (.idiv, 1) := by decide +kernel
theorem dX7_on_7 : decode cX7_on 7 = .ok (.invokestatic 81, 3) := by decide +kernel
theorem dX7_on_10 : decode cX7_on 10 = .ok (.iconst 5, 1) := by decide +kernel
theorem dX7_on_11 : decode cX7_on 11 = .ok (.iadd, 1) := by decide +kernel
theorem dX7_on_12 : decode cX7_on 12 = .ok (.iload_n 1, 1) := by decide +kernel
theorem dX7_on_13 : decode cX7_on 13 = .ok (.iconst 2, 1) := by decide +kernel
theorem dX7_on_14 : decode cX7_on 14 = .ok (.irem, 1) := by decide +kernel
theorem dX7_on_15 : decode cX7_on 15 = .ok (.iadd, 1) := by decide +kernel
theorem dX7_on_16 : decode cX7_on 16 = .ok (.iaload, 1) := by decide +kernel
theorem dX7_on_17 : decode cX7_on 17 = .ok (.ireturn, 1) := by decide +kernel
theorem dX7_put_0 : decode cX7_put 0 = .ok (.aload_n 0, 1) := by decide +kernel
theorem dX7_put_1 : decode cX7_put 1 = .ok (.getfield 9, 3) := by decide +kernel
theorem dX7_put_4 : decode cX7_put 4 = .ok (.iload_n 1, 1) := by decide +kernel
theorem dX7_put_5 : decode cX7_put 5 = .ok (.iconst 2, 1) := by decide +kernel
theorem dX7_put_6 : decode cX7_put 6 = .ok (.idiv, 1) := by decide +kernel
theorem dX7_put_7 : decode cX7_put 7 = .ok (.invokestatic 81, 3) := by decide +kernel
theorem dX7_put_10 : decode cX7_put 10 = .ok (.iconst 5, 1) := by decide +kernel
theorem dX7_put_11 : decode cX7_put 11 = .ok (.iadd, 1) := by decide +kernel
theorem dX7_put_12 : decode cX7_put 12 = .ok (.iload_n 1, 1) := by decide +kernel
theorem dX7_put_13 : decode cX7_put 13 = .ok (.iconst 2, 1) := by decide +kernel
theorem dX7_put_14 : decode cX7_put 14 = .ok (.irem, 1) := by decide +kernel
theorem dX7_put_15 : decode cX7_put 15 = .ok (.iadd, 1) := by decide +kernel
theorem dX7_put_16 : decode cX7_put 16 = .ok (.iload_n 2, 1) := by decide +kernel
theorem dX7_put_17 : decode cX7_put 17 = .ok (.iastore, 1) := by decide +kernel
theorem dX7_put_18 : decode cX7_put 18 = .ok (.return_, 1) := by decide +kernel
theorem dX7_isOn_0 : decode cX7_isOn 0 = .ok (.aload_n 0, 1) := by decide +kernel
theorem dX7_isOn_1 : decode cX7_isOn 1 = .ok (.iload_n 1, 1) := by decide +kernel
theorem dX7_isOn_2 : decode cX7_isOn 2 = .ok (.invokevirtual 91, 3) := by decide +kernel
theorem dX7_isOn_5 : decode cX7_isOn 5 = .ok (.ifCond .eq 15, 3) := by decide +kernel
theorem dX7_isOn_8 : decode cX7_isOn 8 = .ok (.aload_n 0, 1) := by decide +kernel
theorem dX7_isOn_9 : decode cX7_isOn 9 = .ok (.iload_n 1, 1) := by decide +kernel
theorem dX7_isOn_10 : decode cX7_isOn 10 = .ok (.invokevirtual 94, 3) := by decide +kernel
theorem dX7_isOn_13 : decode cX7_isOn 13 = .ok (.ifCond .lt 7, 3) := by decide +kernel
theorem dX7_isOn_16 : decode cX7_isOn 16 = .ok (.iconst 1, 1) := by decide +kernel
theorem dX7_isOn_17 : decode cX7_isOn 17 = .ok (.goto 4, 3) := by decide +kernel
theorem dX7_isOn_20 : decode cX7_isOn 20 = .ok (.iconst 0, 1) := by decide +kernel
theorem dX7_isOn_21 : decode cX7_isOn 21 = .ok (.ireturn, 1) := by decide +kernel
theorem dX7_isHindered_0 : decode cX7_isHindered 0 = .ok (.aload_n 0, 1) := by decide +kernel
theorem dX7_isHindered_1 : decode cX7_isHindered 1 = .ok (.iload_n 1, 1) := by decide +kernel
theorem dX7_isHindered_2 : decode cX7_isHindered 2 = .ok (.invokevirtual 97, 3) := by decide +kernel
theorem dX7_isHindered_5 : decode cX7_isHindered 5 = .ok (.ifCond .eq 44, 3) := by decide +kernel
theorem dX7_isHindered_8 : decode cX7_isHindered 8 = .ok (.aload_n 0, 1) := by decide +kernel
theorem dX7_isHindered_9 : decode cX7_isHindered 9 = .ok (.getfield 9, 3) := by decide +kernel
theorem dX7_isHindered_12 : decode cX7_isHindered 12 = .ok (.bipush 20, 2) := by decide +kernel
theorem dX7_isHindered_14 : decode cX7_isHindered 14 = .ok (.aload_n 0, 1) := by decide +kernel
theorem dX7_isHindered_15 : decode cX7_isHindered 15 = .ok (.iload_n 1, 1) := by decide +kernel
theorem dX7_isHindered_16 : decode cX7_isHindered 16 = .ok (.invokevirtual 94, 3) := by decide +kernel
theorem dX7_isHindered_19 : decode cX7_isHindered 19 = .ok (.iadd, 1) := by decide +kernel
theorem dX7_isHindered_20 : decode cX7_isHindered 20 = .ok (.iaload, 1) := by decide +kernel
theorem dX7_isHindered_21 : decode cX7_isHindered 21 = .ok (.ifCond .eq 24, 3) := by decide +kernel
theorem dX7_isHindered_24 : decode cX7_isHindered 24 = .ok (.aload_n 0, 1) := by decide +kernel
theorem dX7_isHindered_25 : decode cX7_isHindered 25 = .ok (.getfield 9, 3) := by decide +kernel
theorem dX7_isHindered_28 : decode cX7_isHindered 28 = .ok (.bipush 12, 2) := by decide +kernel
theorem dX7_isHindered_30 : decode cX7_isHindered 30 = .ok (.aload_n 0, 1) := by decide +kernel
theorem dX7_isHindered_31 : decode cX7_isHindered 31 = .ok (.iload_n 1, 1) := by decide +kernel
theorem dX7_isHindered_32 : decode cX7_isHindered 32 = .ok (.invokevirtual 94, 3) := by decide +kernel
theorem dX7_isHindered_35 : decode cX7_isHindered 35 = .ok (.iadd, 1) := by decide +kernel
theorem dX7_isHindered_36 : decode cX7_isHindered 36 = .ok (.iaload, 1) := by decide +kernel
theorem dX7_isHindered_37 : decode cX7_isHindered 37 = .ok (.aload_n 0, 1) := by decide +kernel
theorem dX7_isHindered_38 : decode cX7_isHindered 38 = .ok (.iload_n 1, 1) := by decide +kernel
theorem dX7_isHindered_39 : decode cX7_isHindered 39 = .ok (.invokevirtual 100, 3) := by decide +kernel
theorem dX7_isHindered_42 : decode cX7_isHindered 42 = .ok (.if_icmp .ge 7, 3) := by decide +kernel
theorem dX7_isHindered_45 : decode cX7_isHindered 45 = .ok (.iconst 1, 1) := by decide +kernel
theorem dX7_isHindered_46 : decode cX7_isHindered 46 = .ok (.goto 4, 3) := by decide +kernel
theorem dX7_isHindered_49 : decode cX7_isHindered 49 = .ok (.iconst 0, 1) := by decide +kernel
theorem dX7_isHindered_50 : decode cX7_isHindered 50 = .ok (.ireturn, 1) := by decide +kernel
theorem dX7_areInConflict_0 : decode cX7_areInConflict 0 = .ok (.iload_n 1, 1) := by decide +kernel
theorem dX7_areInConflict_1 : decode cX7_areInConflict 1 = .ok (.iload_n 2, 1) := by decide +kernel
theorem dX7_areInConflict_2 : decode cX7_areInConflict 2 = .ok (.if_icmp .eq 19, 3) := by decide +kernel
theorem dX7_areInConflict_5 : decode cX7_areInConflict 5 = .ok (.aload_n 0, 1) := by decide +kernel
theorem dX7_areInConflict_6 : decode cX7_areInConflict 6 = .ok (.iload_n 1, 1) := by decide +kernel
theorem dX7_areInConflict_7 : decode cX7_areInConflict 7 = .ok (.invokevirtual 97, 3) := by decide +kernel
theorem dX7_areInConflict_10 : decode cX7_areInConflict 10 = .ok (.ifCond .eq 11, 3) := by decide +kernel
theorem dX7_areInConflict_13 : decode cX7_areInConflict 13 = .ok (.aload_n 0, 1) := by decide +kernel
theorem dX7_areInConflict_14 : decode cX7_areInConflict 14 = .ok (.iload_n 2, 1) := by decide +kernel
theorem dX7_areInConflict_15 : decode cX7_areInConflict 15 = .ok (.invokevirtual 97, 3) := by decide +kernel
theorem dX7_areInConflict_18 : decode cX7_areInConflict 18 = .ok (.ifCond .ne 5, 3) := by decide +kernel
theorem dX7_areInConflict_21 : decode cX7_areInConflict 21 = .ok (.iconst 0, 1) := by decide +kernel
theorem dX7_areInConflict_22 : decode cX7_areInConflict 22 = .ok (.ireturn, 1) := by decide +kernel
theorem dX7_areInConflict_23 : decode cX7_areInConflict 23 = .ok (.aload_n 0, 1) := by decide +kernel
theorem dX7_areInConflict_24 : decode cX7_areInConflict 24 = .ok (.iload_n 1, 1) := by decide +kernel
theorem dX7_areInConflict_25 : decode cX7_areInConflict 25 = .ok (.invokevirtual 94, 3) := by decide +kernel
theorem dX7_areInConflict_28 : decode cX7_areInConflict 28 = .ok (.aload_n 0, 1) := by decide +kernel
theorem dX7_areInConflict_29 : decode cX7_areInConflict 29 = .ok (.iload_n 2, 1) := by decide +kernel
theorem dX7_areInConflict_30 : decode cX7_areInConflict 30 = .ok (.invokevirtual 94, 3) := by decide +kernel
theorem dX7_areInConflict_33 : decode cX7_areInConflict 33 = .ok (.if_icmp .ne 49, 3) := by decide +kernel
theorem dX7_areInConflict_36 : decode cX7_areInConflict 36 = .ok (.aload_n 0, 1) := by decide +kernel
theorem dX7_areInConflict_37 : decode cX7_areInConflict 37 = .ok (.iload_n 2, 1) := by decide +kernel
theorem dX7_areInConflict_38 : decode cX7_areInConflict 38 = .ok (.invokevirtual 103, 3) := by decide +kernel
theorem dX7_areInConflict_41 : decode cX7_areInConflict 41 = .ok (.aload_n 0, 1) := by decide +kernel
theorem dX7_areInConflict_42 : decode cX7_areInConflict 42 = .ok (.iload_n 1, 1) := by decide +kernel
theorem dX7_areInConflict_43 : decode cX7_areInConflict 43 = .ok (.invokevirtual 106, 3) := by decide +kernel
theorem dX7_areInConflict_46 : decode cX7_areInConflict 46 = .ok (.aload_n 0, 1) := by decide +kernel
theorem dX7_areInConflict_47 : decode cX7_areInConflict 47 = .ok (.getfield 9, 3) := by decide +kernel
theorem dX7_areInConflict_50 : decode cX7_areInConflict 50 = .ok (.iconst 2, 1) := by decide +kernel
theorem dX7_areInConflict_51 : decode cX7_areInConflict 51 = .ok (.iaload, 1) := by decide +kernel
theorem dX7_areInConflict_52 : decode cX7_areInConflict 52 = .ok (.iadd, 1) := by decide +kernel
theorem dX7_areInConflict_53 : decode cX7_areInConflict 53 = .ok (.if_icmp .ge 27, 3) := by decide +kernel
theorem dX7_areInConflict_56 : decode cX7_areInConflict 56 = .ok (.aload_n 0, 1) := by decide +kernel
theorem dX7_areInConflict_57 : decode cX7_areInConflict 57 = .ok (.iload_n 1, 1) := by decide +kernel
theorem dX7_areInConflict_58 : decode cX7_areInConflict 58 = .ok (.invokevirtual 103, 3) := by decide +kernel
theorem dX7_areInConflict_61 : decode cX7_areInConflict 61 = .ok (.aload_n 0, 1) := by decide +kernel
theorem dX7_areInConflict_62 : decode cX7_areInConflict 62 = .ok (.iload_n 2, 1) := by decide +kernel
theorem dX7_areInConflict_63 : decode cX7_areInConflict 63 = .ok (.invokevirtual 106, 3) := by decide +kernel
theorem dX7_areInConflict_66 : decode cX7_areInConflict 66 = .ok (.aload_n 0, 1) := by decide +kernel
theorem dX7_areInConflict_67 : decode cX7_areInConflict 67 = .ok (.getfield 9, 3) := by decide +kernel
theorem dX7_areInConflict_70 : decode cX7_areInConflict 70 = .ok (.iconst 2, 1) := by decide +kernel
theorem dX7_areInConflict_71 : decode cX7_areInConflict 71 = .ok (.iaload, 1) := by decide +kernel
theorem dX7_areInConflict_72 : decode cX7_areInConflict 72 = .ok (.iadd, 1) := by decide +kernel
theorem dX7_areInConflict_73 : decode cX7_areInConflict 73 = .ok (.if_icmp .ge 7, 3) := by decide +kernel
theorem dX7_areInConflict_76 : decode cX7_areInConflict 76 = .ok (.iconst 1, 1) := by decide +kernel
theorem dX7_areInConflict_77 : decode cX7_areInConflict 77 = .ok (.goto 4, 3) := by decide +kernel
theorem dX7_areInConflict_80 : decode cX7_areInConflict 80 = .ok (.iconst 0, 1) := by decide +kernel
theorem dX7_areInConflict_81 : decode cX7_areInConflict 81 = .ok (.ireturn, 1) := by decide +kernel
theorem dX7_areInConflict_82 : decode cX7_areInConflict 82 = .ok (.aload_n 0, 1) := by decide +kernel
theorem dX7_areInConflict_83 : decode cX7_areInConflict 83 = .ok (.aload_n 0, 1) := by decide +kernel
theorem dX7_areInConflict_84 : decode cX7_areInConflict 84 = .ok (.iload_n 1, 1) := by decide +kernel
theorem dX7_areInConflict_85 : decode cX7_areInConflict 85 = .ok (.invokevirtual 94, 3) := by decide +kernel
theorem dX7_areInConflict_88 : decode cX7_areInConflict 88 = .ok (.aload_n 0, 1) := by decide +kernel
theorem dX7_areInConflict_89 : decode cX7_areInConflict 89 = .ok (.iload_n 2, 1) := by decide +kernel
theorem dX7_areInConflict_90 : decode cX7_areInConflict 90 = .ok (.invokevirtual 94, 3) := by decide +kernel
theorem dX7_areInConflict_93 : decode cX7_areInConflict 93 = .ok (.invokevirtual 77, 3) := by decide +kernel
theorem dX7_areInConflict_96 : decode cX7_areInConflict 96 = .ok (.istore_n 3, 1) := by decide +kernel
theorem dX7_areInConflict_97 : decode cX7_areInConflict 97 = .ok (.iload_n 3, 1) := by decide +kernel
theorem dX7_areInConflict_98 : decode cX7_areInConflict 98 = .ok (.ifCond .lt 48, 3) := by decide +kernel
theorem dX7_areInConflict_101 : decode cX7_areInConflict 101 = .ok (.aload_n 0, 1) := by decide +kernel
theorem dX7_areInConflict_102 : decode cX7_areInConflict 102 = .ok (.iload_n 1, 1) := by decide +kernel
theorem dX7_areInConflict_103 : decode cX7_areInConflict 103 = .ok (.invokevirtual 103, 3) := by decide +kernel
theorem dX7_areInConflict_106 : decode cX7_areInConflict 106 = .ok (.aload_n 0, 1) := by decide +kernel
theorem dX7_areInConflict_107 : decode cX7_areInConflict 107 = .ok (.iload_n 2, 1) := by decide +kernel
theorem dX7_areInConflict_108 : decode cX7_areInConflict 108 = .ok (.invokevirtual 106, 3) := by decide +kernel
theorem dX7_areInConflict_111 : decode cX7_areInConflict 111 = .ok (.if_icmp .ge 35, 3) := by decide +kernel
theorem dX7_areInConflict_114 : decode cX7_areInConflict 114 = .ok (.aload_n 0, 1) := by decide +kernel
theorem dX7_areInConflict_115 : decode cX7_areInConflict 115 = .ok (.iload_n 2, 1) := by decide +kernel
theorem dX7_areInConflict_116 : decode cX7_areInConflict 116 = .ok (.invokevirtual 103, 3) := by decide +kernel
theorem dX7_areInConflict_119 : decode cX7_areInConflict 119 = .ok (.aload_n 0, 1) := by decide +kernel
theorem dX7_areInConflict_120 : decode cX7_areInConflict 120 = .ok (.iload_n 1, 1) := by decide +kernel
theorem dX7_areInConflict_121 : decode cX7_areInConflict 121 = .ok (.invokevirtual 106, 3) := by decide +kernel
theorem dX7_areInConflict_124 : decode cX7_areInConflict 124 = .ok (.if_icmp .ge 22, 3) := by decide +kernel
theorem dX7_areInConflict_127 : decode cX7_areInConflict 127 = .ok (.aload_n 0, 1) := by decide +kernel
theorem dX7_areInConflict_128 : decode cX7_areInConflict 128 = .ok (.iload_n 1, 1) := by decide +kernel
theorem dX7_areInConflict_129 : decode cX7_areInConflict 129 = .ok (.invokevirtual 100, 3) := by decide +kernel
theorem dX7_areInConflict_132 : decode cX7_areInConflict 132 = .ok (.aload_n 0, 1) := by decide +kernel
theorem dX7_areInConflict_133 : decode cX7_areInConflict 133 = .ok (.iload_n 2, 1) := by decide +kernel
theorem dX7_areInConflict_134 : decode cX7_areInConflict 134 = .ok (.invokevirtual 100, 3) := by decide +kernel
theorem dX7_areInConflict_137 : decode cX7_areInConflict 137 = .ok (.iadd, 1) := by decide +kernel
theorem dX7_areInConflict_138 : decode cX7_areInConflict 138 = .ok (.iload_n 3, 1) := by decide +kernel
theorem dX7_areInConflict_139 : decode cX7_areInConflict 139 = .ok (.if_icmp .le 7, 3) := by decide +kernel
theorem dX7_areInConflict_142 : decode cX7_areInConflict 142 = .ok (.iconst 1, 1) := by decide +kernel
theorem dX7_areInConflict_143 : decode cX7_areInConflict 143 = .ok (.goto 4, 3) := by decide +kernel
theorem dX7_areInConflict_146 : decode cX7_areInConflict 146 = .ok (.iconst 0, 1) := by decide +kernel
theorem dX7_areInConflict_147 : decode cX7_areInConflict 147 = .ok (.ireturn, 1) := by decide +kernel
theorem dX7_conflictsOf_0 : decode cX7_conflictsOf 0 = .ok (.iconst 0, 1) := by decide +kernel
theorem dX7_conflictsOf_1 : decode cX7_conflictsOf 1 = .ok (.istore_n 2, 1) := by decide +kernel
theorem dX7_conflictsOf_2 : decode cX7_conflictsOf 2 = .ok (.iconst 0, 1) := by decide +kernel
theorem dX7_conflictsOf_3 : decode cX7_conflictsOf 3 = .ok (.istore_n 3, 1) := by decide +kernel
theorem dX7_conflictsOf_4 : decode cX7_conflictsOf 4 = .ok (.iload_n 3, 1) := by decide +kernel
theorem dX7_conflictsOf_5 : decode cX7_conflictsOf 5 = .ok (.bipush 20, 2) := by decide +kernel
theorem dX7_conflictsOf_7 : decode cX7_conflictsOf 7 = .ok (.if_icmp .ge 28, 3) := by decide +kernel
theorem dX7_conflictsOf_10 : decode cX7_conflictsOf 10 = .ok (.iload_n 2, 1) := by decide +kernel
theorem dX7_conflictsOf_11 : decode cX7_conflictsOf 11 = .ok (.aload_n 0, 1) := by decide +kernel
theorem dX7_conflictsOf_12 : decode cX7_conflictsOf 12 = .ok (.iload_n 1, 1) := by decide +kernel
theorem dX7_conflictsOf_13 : decode cX7_conflictsOf 13 = .ok (.iload_n 3, 1) := by decide +kernel
theorem dX7_conflictsOf_14 : decode cX7_conflictsOf 14 = .ok (.invokevirtual 109, 3) := by decide +kernel
theorem dX7_conflictsOf_17 : decode cX7_conflictsOf 17 = .ok (.ifCond .eq 9, 3) := by decide +kernel
theorem dX7_conflictsOf_20 : decode cX7_conflictsOf 20 = .ok (.iconst 1, 1) := by decide +kernel
theorem dX7_conflictsOf_21 : decode cX7_conflictsOf 21 = .ok (.iload_n 3, 1) := by decide +kernel
theorem dX7_conflictsOf_22 : decode cX7_conflictsOf 22 = .ok (.ishl, 1) := by decide +kernel
theorem dX7_conflictsOf_23 : decode cX7_conflictsOf 23 = .ok (.goto 4, 3) := by decide +kernel
theorem dX7_conflictsOf_26 : decode cX7_conflictsOf 26 = .ok (.iconst 0, 1) := by decide +kernel
theorem dX7_conflictsOf_27 : decode cX7_conflictsOf 27 = .ok (.ior, 1) := by decide +kernel
theorem dX7_conflictsOf_28 : decode cX7_conflictsOf 28 = .ok (.istore_n 2, 1) := by decide +kernel
theorem dX7_conflictsOf_29 : decode cX7_conflictsOf 29 = .ok (.iinc 3 1, 3) := by decide +kernel
theorem dX7_conflictsOf_32 : decode cX7_conflictsOf 32 = .ok (.goto (-28), 3) := by decide +kernel
theorem dX7_conflictsOf_35 : decode cX7_conflictsOf 35 = .ok (.iload_n 2, 1) := by decide +kernel
theorem dX7_conflictsOf_36 : decode cX7_conflictsOf 36 = .ok (.ireturn, 1) := by decide +kernel
theorem dX7_costOf_0 : decode cX7_costOf 0 = .ok (.aload_n 0, 1) := by decide +kernel
theorem dX7_costOf_1 : decode cX7_costOf 1 = .ok (.iload_n 1, 1) := by decide +kernel
theorem dX7_costOf_2 : decode cX7_costOf 2 = .ok (.invokevirtual 94, 3) := by decide +kernel
theorem dX7_costOf_5 : decode cX7_costOf 5 = .ok (.istore_n 2, 1) := by decide +kernel
theorem dX7_costOf_6 : decode cX7_costOf 6 = .ok (.iload_n 2, 1) := by decide +kernel
theorem dX7_costOf_7 : decode cX7_costOf 7 = .ok (.ifCond .ge 8, 3) := by decide +kernel
theorem dX7_costOf_10 : decode cX7_costOf 10 = .ok (.bipush 20, 2) := by decide +kernel
theorem dX7_costOf_12 : decode cX7_costOf 12 = .ok (.goto 35, 3) := by decide +kernel
theorem dX7_costOf_15 : decode cX7_costOf 15 = .ok (.aload_n 0, 1) := by decide +kernel
theorem dX7_costOf_16 : decode cX7_costOf 16 = .ok (.getfield 9, 3) := by decide +kernel
theorem dX7_costOf_19 : decode cX7_costOf 19 = .ok (.iconst 4, 1) := by decide +kernel
theorem dX7_costOf_20 : decode cX7_costOf 20 = .ok (.iload_n 2, 1) := by decide +kernel
theorem dX7_costOf_21 : decode cX7_costOf 21 = .ok (.iadd, 1) := by decide +kernel
theorem dX7_costOf_22 : decode cX7_costOf 22 = .ok (.iaload, 1) := by decide +kernel
theorem dX7_costOf_23 : decode cX7_costOf 23 = .ok (.ifCond .ne 7, 3) := by decide +kernel
theorem dX7_costOf_26 : decode cX7_costOf 26 = .ok (.iconst 0, 1) := by decide +kernel
theorem dX7_costOf_27 : decode cX7_costOf 27 = .ok (.goto 20, 3) := by decide +kernel
theorem dX7_costOf_30 : decode cX7_costOf 30 = .ok (.aload_n 0, 1) := by decide +kernel
theorem dX7_costOf_31 : decode cX7_costOf 31 = .ok (.getfield 9, 3) := by decide +kernel
theorem dX7_costOf_34 : decode cX7_costOf 34 = .ok (.iconst 4, 1) := by decide +kernel
theorem dX7_costOf_35 : decode cX7_costOf 35 = .ok (.iload_n 2, 1) := by decide +kernel
theorem dX7_costOf_36 : decode cX7_costOf 36 = .ok (.iadd, 1) := by decide +kernel
theorem dX7_costOf_37 : decode cX7_costOf 37 = .ok (.iaload, 1) := by decide +kernel
theorem dX7_costOf_38 : decode cX7_costOf 38 = .ok (.iconst 1, 1) := by decide +kernel
theorem dX7_costOf_39 : decode cX7_costOf 39 = .ok (.if_icmp .ne 7, 3) := by decide +kernel
theorem dX7_costOf_42 : decode cX7_costOf 42 = .ok (.iconst 2, 1) := by decide +kernel
theorem dX7_costOf_43 : decode cX7_costOf 43 = .ok (.goto 4, 3) := by decide +kernel
theorem dX7_costOf_46 : decode cX7_costOf 46 = .ok (.iconst 5, 1) := by decide +kernel
theorem dX7_costOf_47 : decode cX7_costOf 47 = .ok (.istore_n 3, 1) := by decide +kernel
theorem dX7_costOf_48 : decode cX7_costOf 48 = .ok (.iload_n 3, 1) := by decide +kernel
theorem dX7_costOf_49 : decode cX7_costOf 49 = .ok (.aload_n 0, 1) := by decide +kernel
theorem dX7_costOf_50 : decode cX7_costOf 50 = .ok (.iload_n 1, 1) := by decide +kernel
theorem dX7_costOf_51 : decode cX7_costOf 51 = .ok (.invokevirtual 113, 3) := by decide +kernel
theorem dX7_costOf_54 : decode cX7_costOf 54 = .ok (.imul, 1) := by decide +kernel
theorem dX7_costOf_55 : decode cX7_costOf 55 = .ok (.ireturn, 1) := by decide +kernel
theorem dX7_cost_0 : decode cX7_cost 0 = .ok (.iconst 0, 1) := by decide +kernel
theorem dX7_cost_1 : decode cX7_cost 1 = .ok (.istore_n 1, 1) := by decide +kernel
theorem dX7_cost_2 : decode cX7_cost 2 = .ok (.iconst 0, 1) := by decide +kernel
theorem dX7_cost_3 : decode cX7_cost 3 = .ok (.istore_n 2, 1) := by decide +kernel
theorem dX7_cost_4 : decode cX7_cost 4 = .ok (.iload_n 2, 1) := by decide +kernel
theorem dX7_cost_5 : decode cX7_cost 5 = .ok (.aload_n 0, 1) := by decide +kernel
theorem dX7_cost_6 : decode cX7_cost 6 = .ok (.getfield 9, 3) := by decide +kernel
theorem dX7_cost_9 : decode cX7_cost 9 = .ok (.iconst 1, 1) := by decide +kernel
theorem dX7_cost_10 : decode cX7_cost 10 = .ok (.iaload, 1) := by decide +kernel
theorem dX7_cost_11 : decode cX7_cost 11 = .ok (.if_icmp .ge 17, 3) := by decide +kernel
theorem dX7_cost_14 : decode cX7_cost 14 = .ok (.iload_n 1, 1) := by decide +kernel
theorem dX7_cost_15 : decode cX7_cost 15 = .ok (.aload_n 0, 1) := by decide +kernel
theorem dX7_cost_16 : decode cX7_cost 16 = .ok (.iload_n 2, 1) := by decide +kernel
theorem dX7_cost_17 : decode cX7_cost 17 = .ok (.invokevirtual 116, 3) := by decide +kernel
theorem dX7_cost_20 : decode cX7_cost 20 = .ok (.iadd, 1) := by decide +kernel
theorem dX7_cost_21 : decode cX7_cost 21 = .ok (.istore_n 1, 1) := by decide +kernel
theorem dX7_cost_22 : decode cX7_cost 22 = .ok (.iinc 2 1, 3) := by decide +kernel
theorem dX7_cost_25 : decode cX7_cost 25 = .ok (.goto (-21), 3) := by decide +kernel
theorem dX7_cost_28 : decode cX7_cost 28 = .ok (.iload_n 1, 1) := by decide +kernel
theorem dX7_cost_29 : decode cX7_cost 29 = .ok (.ireturn, 1) := by decide +kernel
theorem dX7_costOfTurn_0 : decode cX7_costOfTurn 0 = .ok (.aload_n 0, 1) := by decide +kernel
theorem dX7_costOfTurn_1 : decode cX7_costOfTurn 1 = .ok (.iload_n 1, 1) := by decide +kernel
theorem dX7_costOfTurn_2 : decode cX7_costOfTurn 2 = .ok (.invokevirtual 88, 3) := by decide +kernel
theorem dX7_costOfTurn_5 : decode cX7_costOfTurn 5 = .ok (.ifCond .ge 13, 3) := by decide +kernel
theorem dX7_costOfTurn_8 : decode cX7_costOfTurn 8 = .ok (.aload_n 0, 1) := by decide +kernel
theorem dX7_costOfTurn_9 : decode cX7_costOfTurn 9 = .ok (.iconst 2, 1) := by decide +kernel
theorem dX7_costOfTurn_10 : decode cX7_costOfTurn 10 = .ok (.iload_n 1, 1) := by decide +kernel
theorem dX7_costOfTurn_11 : decode cX7_costOfTurn 11 = .ok (.imul, 1) := by decide +kernel
theorem dX7_costOfTurn_12 : decode cX7_costOfTurn 12 = .ok (.invokevirtual 119, 3) := by decide +kernel
theorem dX7_costOfTurn_15 : decode cX7_costOfTurn 15 = .ok (.goto 23, 3) := by decide +kernel
theorem dX7_costOfTurn_18 : decode cX7_costOfTurn 18 = .ok (.aload_n 0, 1) := by decide +kernel
theorem dX7_costOfTurn_19 : decode cX7_costOfTurn 19 = .ok (.iconst 2, 1) := by decide +kernel
theorem dX7_costOfTurn_20 : decode cX7_costOfTurn 20 = .ok (.iload_n 1, 1) := by decide +kernel
theorem dX7_costOfTurn_21 : decode cX7_costOfTurn 21 = .ok (.imul, 1) := by decide +kernel
theorem dX7_costOfTurn_22 : decode cX7_costOfTurn 22 = .ok (.invokevirtual 119, 3) := by decide +kernel
theorem dX7_costOfTurn_25 : decode cX7_costOfTurn 25 = .ok (.aload_n 0, 1) := by decide +kernel
theorem dX7_costOfTurn_26 : decode cX7_costOfTurn 26 = .ok (.iconst 2, 1) := by decide +kernel
theorem dX7_costOfTurn_27 : decode cX7_costOfTurn 27 = .ok (.iload_n 1, 1) := by decide +kernel
theorem dX7_costOfTurn_28 : decode cX7_costOfTurn 28 = .ok (.imul, 1) := by decide +kernel
theorem dX7_costOfTurn_29 : decode cX7_costOfTurn 29 = .ok (.iconst 1, 1) := by decide +kernel
theorem dX7_costOfTurn_30 : decode cX7_costOfTurn 30 = .ok (.iadd, 1) := by decide +kernel
theorem dX7_costOfTurn_31 : decode cX7_costOfTurn 31 = .ok (.invokevirtual 119, 3) := by decide +kernel
theorem dX7_costOfTurn_34 : decode cX7_costOfTurn 34 = .ok (.iadd, 1) := by decide +kernel
theorem dX7_costOfTurn_35 : decode cX7_costOfTurn 35 = .ok (.bipush 10, 2) := by decide +kernel
theorem dX7_costOfTurn_37 : decode cX7_costOfTurn 37 = .ok (.iadd, 1) := by decide +kernel
theorem dX7_costOfTurn_38 : decode cX7_costOfTurn 38 = .ok (.ireturn, 1) := by decide +kernel
theorem dX7_stand_0 : decode cX7_stand 0 = .ok (.aload_n 0, 1) := by decide +kernel
theorem dX7_stand_1 : decode cX7_stand 1 = .ok (.aload_n 0, 1) := by decide +kernel
theorem dX7_stand_2 : decode cX7_stand 2 = .ok (.iload_n 1, 1) := by decide +kernel
theorem dX7_stand_3 : decode cX7_stand 3 = .ok (.invokevirtual 73, 3) := by decide +kernel
theorem dX7_stand_6 : decode cX7_stand 6 = .ok (.ifCond .ne 7, 3) := by decide +kernel
theorem dX7_stand_9 : decode cX7_stand 9 = .ok (.iconst 1, 1) := by decide +kernel
theorem dX7_stand_10 : decode cX7_stand 10 = .ok (.goto 18, 3) := by decide +kernel
theorem dX7_stand_13 : decode cX7_stand 13 = .ok (.iload_n 2, 1) := by decide +kernel
theorem dX7_stand_14 : decode cX7_stand 14 = .ok (.iconst 0, 1) := by decide +kernel
theorem dX7_stand_15 : decode cX7_stand 15 = .ok (.bipush 6, 2) := by decide +kernel
theorem dX7_stand_17 : decode cX7_stand 17 = .ok (.invokestatic 51, 3) := by decide +kernel
theorem dX7_stand_20 : decode cX7_stand 20 = .ok (.ifCond .ne 7, 3) := by decide +kernel
theorem dX7_stand_23 : decode cX7_stand 23 = .ok (.iconst 2, 1) := by decide +kernel
theorem dX7_stand_24 : decode cX7_stand 24 = .ok (.goto 4, 3) := by decide +kernel
theorem dX7_stand_27 : decode cX7_stand 27 = .ok (.iconst 0, 1) := by decide +kernel
theorem dX7_stand_28 : decode cX7_stand 28 = .ok (.putfield 48, 3) := by decide +kernel
theorem dX7_stand_31 : decode cX7_stand 31 = .ok (.aload_n 0, 1) := by decide +kernel
theorem dX7_stand_32 : decode cX7_stand 32 = .ok (.getfield 48, 3) := by decide +kernel
theorem dX7_stand_35 : decode cX7_stand 35 = .ok (.ifCond .le 5, 3) := by decide +kernel
theorem dX7_stand_38 : decode cX7_stand 38 = .ok (.iconst 0, 1) := by decide +kernel
theorem dX7_stand_39 : decode cX7_stand 39 = .ok (.ireturn, 1) := by decide +kernel
theorem dX7_stand_40 : decode cX7_stand 40 = .ok (.iload_n 2, 1) := by decide +kernel
theorem dX7_stand_41 : decode cX7_stand 41 = .ok (.tableswitch 105 0 3 #[31, 40, 50, 60], 31) := by decide +kernel
theorem dX7_stand_72 : decode cX7_stand 72 = .ok (.aload_n 0, 1) := by decide +kernel
theorem dX7_stand_73 : decode cX7_stand 73 = .ok (.getfield 9, 3) := by decide +kernel
theorem dX7_stand_76 : decode cX7_stand 76 = .ok (.iconst 4, 1) := by decide +kernel
theorem dX7_stand_77 : decode cX7_stand 77 = .ok (.iload_n 1, 1) := by decide +kernel
theorem dX7_stand_78 : decode cX7_stand 78 = .ok (.iadd, 1) := by decide +kernel
theorem dX7_stand_79 : decode cX7_stand 79 = .ok (.iaload, 1) := by decide +kernel
theorem dX7_stand_80 : decode cX7_stand 80 = .ok (.ireturn, 1) := by decide +kernel
theorem dX7_stand_81 : decode cX7_stand 81 = .ok (.aload_n 0, 1) := by decide +kernel
theorem dX7_stand_82 : decode cX7_stand 82 = .ok (.getfield 9, 3) := by decide +kernel
theorem dX7_stand_85 : decode cX7_stand 85 = .ok (.bipush 12, 2) := by decide +kernel
theorem dX7_stand_87 : decode cX7_stand 87 = .ok (.iload_n 1, 1) := by decide +kernel
theorem dX7_stand_88 : decode cX7_stand 88 = .ok (.iadd, 1) := by decide +kernel
theorem dX7_stand_89 : decode cX7_stand 89 = .ok (.iaload, 1) := by decide +kernel
theorem dX7_stand_90 : decode cX7_stand 90 = .ok (.ireturn, 1) := by decide +kernel
theorem dX7_stand_91 : decode cX7_stand 91 = .ok (.aload_n 0, 1) := by decide +kernel
theorem dX7_stand_92 : decode cX7_stand 92 = .ok (.getfield 9, 3) := by decide +kernel
theorem dX7_stand_95 : decode cX7_stand 95 = .ok (.bipush 20, 2) := by decide +kernel
theorem dX7_stand_97 : decode cX7_stand 97 = .ok (.iload_n 1, 1) := by decide +kernel
theorem dX7_stand_98 : decode cX7_stand 98 = .ok (.iadd, 1) := by decide +kernel
theorem dX7_stand_99 : decode cX7_stand 99 = .ok (.iaload, 1) := by decide +kernel
theorem dX7_stand_100 : decode cX7_stand 100 = .ok (.ireturn, 1) := by decide +kernel
theorem dX7_stand_101 : decode cX7_stand 101 = .ok (.iconst 0, 1) := by decide +kernel
theorem dX7_stand_102 : decode cX7_stand 102 = .ok (.istore_n 3, 1) := by decide +kernel
theorem dX7_stand_103 : decode cX7_stand 103 = .ok (.iconst 0, 1) := by decide +kernel
theorem dX7_stand_104 : decode cX7_stand 104 = .ok (.istore 4, 2) := by decide +kernel
theorem dX7_stand_106 : decode cX7_stand 106 = .ok (.iload 4, 2) := by decide +kernel
theorem dX7_stand_108 : decode cX7_stand 108 = .ok (.aload_n 0, 1) := by decide +kernel
theorem dX7_stand_109 : decode cX7_stand 109 = .ok (.getfield 9, 3) := by decide +kernel
theorem dX7_stand_112 : decode cX7_stand 112 = .ok (.iconst 0, 1) := by decide +kernel
theorem dX7_stand_113 : decode cX7_stand 113 = .ok (.iaload, 1) := by decide +kernel
theorem dX7_stand_114 : decode cX7_stand 114 = .ok (.if_icmp .ge 30, 3) := by decide +kernel
theorem dX7_stand_117 : decode cX7_stand 117 = .ok (.iload_n 3, 1) := by decide +kernel
theorem dX7_stand_118 : decode cX7_stand 118 = .ok (.aload_n 0, 1) := by decide +kernel
theorem dX7_stand_119 : decode cX7_stand 119 = .ok (.iload_n 1, 1) := by decide +kernel
theorem dX7_stand_120 : decode cX7_stand 120 = .ok (.iload 4, 2) := by decide +kernel
theorem dX7_stand_122 : decode cX7_stand 122 = .ok (.invokevirtual 77, 3) := by decide +kernel
theorem dX7_stand_125 : decode cX7_stand 125 = .ok (.ifCond .lt 10, 3) := by decide +kernel
theorem dX7_stand_128 : decode cX7_stand 128 = .ok (.iconst 1, 1) := by decide +kernel
theorem dX7_stand_129 : decode cX7_stand 129 = .ok (.iload 4, 2) := by decide +kernel
theorem dX7_stand_131 : decode cX7_stand 131 = .ok (.ishl, 1) := by decide +kernel
theorem dX7_stand_132 : decode cX7_stand 132 = .ok (.goto 4, 3) := by decide +kernel
theorem dX7_stand_135 : decode cX7_stand 135 = .ok (.iconst 0, 1) := by decide +kernel
theorem dX7_stand_136 : decode cX7_stand 136 = .ok (.ior, 1) := by decide +kernel
theorem dX7_stand_137 : decode cX7_stand 137 = .ok (.istore_n 3, 1) := by decide +kernel
theorem dX7_stand_138 : decode cX7_stand 138 = .ok (.iinc 4 1, 3) := by decide +kernel
theorem dX7_stand_141 : decode cX7_stand 141 = .ok (.goto (-35), 3) := by decide +kernel
theorem dX7_stand_144 : decode cX7_stand 144 = .ok (.iload_n 3, 1) := by decide +kernel
theorem dX7_stand_145 : decode cX7_stand 145 = .ok (.ireturn, 1) := by decide +kernel
theorem dX7_stand_146 : decode cX7_stand 146 = .ok (.aload_n 0, 1) := by decide +kernel
theorem dX7_stand_147 : decode cX7_stand 147 = .ok (.iload_n 1, 1) := by decide +kernel
theorem dX7_stand_148 : decode cX7_stand 148 = .ok (.iload_n 2, 1) := by decide +kernel
theorem dX7_stand_149 : decode cX7_stand 149 = .ok (.invokevirtual 122, 3) := by decide +kernel
theorem dX7_stand_152 : decode cX7_stand 152 = .ok (.ireturn, 1) := by decide +kernel
theorem dX7_ofStays_0 : decode cX7_ofStays 0 = .ok (.iconst 0, 1) := by decide +kernel
theorem dX7_ofStays_1 : decode cX7_ofStays 1 = .ok (.istore_n 3, 1) := by decide +kernel
theorem dX7_ofStays_2 : decode cX7_ofStays 2 = .ok (.iconst 0, 1) := by decide +kernel
theorem dX7_ofStays_3 : decode cX7_ofStays 3 = .ok (.istore 4, 2) := by decide +kernel
theorem dX7_ofStays_5 : decode cX7_ofStays 5 = .ok (.iconst 0, 1) := by decide +kernel
theorem dX7_ofStays_6 : decode cX7_ofStays 6 = .ok (.istore 5, 2) := by decide +kernel
theorem dX7_ofStays_8 : decode cX7_ofStays 8 = .ok (.iconst 0, 1) := by decide +kernel
theorem dX7_ofStays_9 : decode cX7_ofStays 9 = .ok (.istore 6, 2) := by decide +kernel
theorem dX7_ofStays_11 : decode cX7_ofStays 11 = .ok (.iload 6, 2) := by decide +kernel
theorem dX7_ofStays_13 : decode cX7_ofStays 13 = .ok (.bipush 20, 2) := by decide +kernel
theorem dX7_ofStays_15 : decode cX7_ofStays 15 = .ok (.if_icmp .ge 80, 3) := by decide +kernel
theorem dX7_ofStays_18 : decode cX7_ofStays 18 = .ok (.aload_n 0, 1) := by decide +kernel
theorem dX7_ofStays_19 : decode cX7_ofStays 19 = .ok (.iload 6, 2) := by decide +kernel
theorem dX7_ofStays_21 : decode cX7_ofStays 21 = .ok (.invokevirtual 97, 3) := by decide +kernel
theorem dX7_ofStays_24 : decode cX7_ofStays 24 = .ok (.ifCond .eq 65, 3) := by decide +kernel
theorem dX7_ofStays_27 : decode cX7_ofStays 27 = .ok (.aload_n 0, 1) := by decide +kernel
theorem dX7_ofStays_28 : decode cX7_ofStays 28 = .ok (.iload 6, 2) := by decide +kernel
theorem dX7_ofStays_30 : decode cX7_ofStays 30 = .ok (.invokevirtual 94, 3) := by decide +kernel
theorem dX7_ofStays_33 : decode cX7_ofStays 33 = .ok (.iload_n 1, 1) := by decide +kernel
theorem dX7_ofStays_34 : decode cX7_ofStays 34 = .ok (.if_icmp .ne 55, 3) := by decide +kernel
theorem dX7_ofStays_37 : decode cX7_ofStays 37 = .ok (.iinc 3 1, 3) := by decide +kernel
theorem dX7_ofStays_40 : decode cX7_ofStays 40 = .ok (.iload 4, 2) := by decide +kernel
theorem dX7_ofStays_42 : decode cX7_ofStays 42 = .ok (.aload_n 0, 1) := by decide +kernel
theorem dX7_ofStays_43 : decode cX7_ofStays 43 = .ok (.iload 6, 2) := by decide +kernel
theorem dX7_ofStays_45 : decode cX7_ofStays 45 = .ok (.invokevirtual 106, 3) := by decide +kernel
theorem dX7_ofStays_48 : decode cX7_ofStays 48 = .ok (.aload_n 0, 1) := by decide +kernel
theorem dX7_ofStays_49 : decode cX7_ofStays 49 = .ok (.iload 6, 2) := by decide +kernel
theorem dX7_ofStays_51 : decode cX7_ofStays 51 = .ok (.invokevirtual 103, 3) := by decide +kernel
theorem dX7_ofStays_54 : decode cX7_ofStays 54 = .ok (.isub, 1) := by decide +kernel
theorem dX7_ofStays_55 : decode cX7_ofStays 55 = .ok (.iadd, 1) := by decide +kernel
theorem dX7_ofStays_56 : decode cX7_ofStays 56 = .ok (.istore 4, 2) := by decide +kernel
theorem dX7_ofStays_58 : decode cX7_ofStays 58 = .ok (.iload 5, 2) := by decide +kernel
theorem dX7_ofStays_60 : decode cX7_ofStays 60 = .ok (.aload_n 0, 1) := by decide +kernel
theorem dX7_ofStays_61 : decode cX7_ofStays 61 = .ok (.iload 6, 2) := by decide +kernel
theorem dX7_ofStays_63 : decode cX7_ofStays 63 = .ok (.invokevirtual 125, 3) := by decide +kernel
theorem dX7_ofStays_66 : decode cX7_ofStays 66 = .ok (.ifCond .ne 12, 3) := by decide +kernel
theorem dX7_ofStays_69 : decode cX7_ofStays 69 = .ok (.aload_n 0, 1) := by decide +kernel
theorem dX7_ofStays_70 : decode cX7_ofStays 70 = .ok (.iload 6, 2) := by decide +kernel
theorem dX7_ofStays_72 : decode cX7_ofStays 72 = .ok (.invokevirtual 128, 3) := by decide +kernel
theorem dX7_ofStays_75 : decode cX7_ofStays 75 = .ok (.ifCond .eq 10, 3) := by decide +kernel
theorem dX7_ofStays_78 : decode cX7_ofStays 78 = .ok (.iconst 1, 1) := by decide +kernel
theorem dX7_ofStays_79 : decode cX7_ofStays 79 = .ok (.iload 6, 2) := by decide +kernel
theorem dX7_ofStays_81 : decode cX7_ofStays 81 = .ok (.ishl, 1) := by decide +kernel
theorem dX7_ofStays_82 : decode cX7_ofStays 82 = .ok (.goto 4, 3) := by decide +kernel
theorem dX7_ofStays_85 : decode cX7_ofStays 85 = .ok (.iconst 0, 1) := by decide +kernel
theorem dX7_ofStays_86 : decode cX7_ofStays 86 = .ok (.ior, 1) := by decide +kernel
theorem dX7_ofStays_87 : decode cX7_ofStays 87 = .ok (.istore 5, 2) := by decide +kernel
theorem dX7_ofStays_89 : decode cX7_ofStays 89 = .ok (.iinc 6 1, 3) := by decide +kernel
theorem dX7_ofStays_92 : decode cX7_ofStays 92 = .ok (.goto (-81), 3) := by decide +kernel
theorem dX7_ofStays_95 : decode cX7_ofStays 95 = .ok (.iload_n 2, 1) := by decide +kernel
theorem dX7_ofStays_96 : decode cX7_ofStays 96 = .ok (.iconst 4, 1) := by decide +kernel
theorem dX7_ofStays_97 : decode cX7_ofStays 97 = .ok (.if_icmp .ne 7, 3) := by decide +kernel
theorem dX7_ofStays_100 : decode cX7_ofStays 100 = .ok (.iload_n 3, 1) := by decide +kernel
theorem dX7_ofStays_101 : decode cX7_ofStays 101 = .ok (.goto 15, 3) := by decide +kernel
theorem dX7_ofStays_104 : decode cX7_ofStays 104 = .ok (.iload_n 2, 1) := by decide +kernel
theorem dX7_ofStays_105 : decode cX7_ofStays 105 = .ok (.iconst 5, 1) := by decide +kernel
theorem dX7_ofStays_106 : decode cX7_ofStays 106 = .ok (.if_icmp .ne 8, 3) := by decide +kernel
theorem dX7_ofStays_109 : decode cX7_ofStays 109 = .ok (.iload 4, 2) := by decide +kernel
theorem dX7_ofStays_111 : decode cX7_ofStays 111 = .ok (.goto 5, 3) := by decide +kernel
theorem dX7_ofStays_114 : decode cX7_ofStays 114 = .ok (.iload 5, 2) := by decide +kernel
theorem dX7_ofStays_116 : decode cX7_ofStays 116 = .ok (.ireturn, 1) := by decide +kernel
theorem dX7_stayAt_0 : decode cX7_stayAt 0 = .ok (.iconst 0, 1) := by decide +kernel
theorem dX7_stayAt_1 : decode cX7_stayAt 1 = .ok (.istore_n 3, 1) := by decide +kernel
theorem dX7_stayAt_2 : decode cX7_stayAt 2 = .ok (.iload_n 3, 1) := by decide +kernel
theorem dX7_stayAt_3 : decode cX7_stayAt 3 = .ok (.bipush 20, 2) := by decide +kernel
theorem dX7_stayAt_5 : decode cX7_stayAt 5 = .ok (.if_icmp .ge 47, 3) := by decide +kernel
theorem dX7_stayAt_8 : decode cX7_stayAt 8 = .ok (.aload_n 0, 1) := by decide +kernel
theorem dX7_stayAt_9 : decode cX7_stayAt 9 = .ok (.iload_n 3, 1) := by decide +kernel
theorem dX7_stayAt_10 : decode cX7_stayAt 10 = .ok (.invokevirtual 97, 3) := by decide +kernel
theorem dX7_stayAt_13 : decode cX7_stayAt 13 = .ok (.ifCond .eq 33, 3) := by decide +kernel
theorem dX7_stayAt_16 : decode cX7_stayAt 16 = .ok (.aload_n 0, 1) := by decide +kernel
theorem dX7_stayAt_17 : decode cX7_stayAt 17 = .ok (.iload_n 3, 1) := by decide +kernel
theorem dX7_stayAt_18 : decode cX7_stayAt 18 = .ok (.invokevirtual 94, 3) := by decide +kernel
theorem dX7_stayAt_21 : decode cX7_stayAt 21 = .ok (.iload_n 1, 1) := by decide +kernel
theorem dX7_stayAt_22 : decode cX7_stayAt 22 = .ok (.if_icmp .ne 24, 3) := by decide +kernel
theorem dX7_stayAt_25 : decode cX7_stayAt 25 = .ok (.iload_n 2, 1) := by decide +kernel
theorem dX7_stayAt_26 : decode cX7_stayAt 26 = .ok (.aload_n 0, 1) := by decide +kernel
theorem dX7_stayAt_27 : decode cX7_stayAt 27 = .ok (.iload_n 3, 1) := by decide +kernel
theorem dX7_stayAt_28 : decode cX7_stayAt 28 = .ok (.invokevirtual 103, 3) := by decide +kernel
theorem dX7_stayAt_31 : decode cX7_stayAt 31 = .ok (.aload_n 0, 1) := by decide +kernel
theorem dX7_stayAt_32 : decode cX7_stayAt 32 = .ok (.iload_n 3, 1) := by decide +kernel
theorem dX7_stayAt_33 : decode cX7_stayAt 33 = .ok (.invokevirtual 106, 3) := by decide +kernel
theorem dX7_stayAt_36 : decode cX7_stayAt 36 = .ok (.iconst 1, 1) := by decide +kernel
theorem dX7_stayAt_37 : decode cX7_stayAt 37 = .ok (.isub, 1) := by decide +kernel
theorem dX7_stayAt_38 : decode cX7_stayAt 38 = .ok (.invokestatic 51, 3) := by decide +kernel
theorem dX7_stayAt_41 : decode cX7_stayAt 41 = .ok (.ifCond .eq 5, 3) := by decide +kernel
theorem dX7_stayAt_44 : decode cX7_stayAt 44 = .ok (.iload_n 3, 1) := by decide +kernel
theorem dX7_stayAt_45 : decode cX7_stayAt 45 = .ok (.ireturn, 1) := by decide +kernel
theorem dX7_stayAt_46 : decode cX7_stayAt 46 = .ok (.iinc 3 1, 3) := by decide +kernel
theorem dX7_stayAt_49 : decode cX7_stayAt 49 = .ok (.goto (-47), 3) := by decide +kernel
theorem dX7_stayAt_52 : decode cX7_stayAt 52 = .ok (.iconst (-1), 1) := by decide +kernel
theorem dX7_stayAt_53 : decode cX7_stayAt 53 = .ok (.ireturn, 1) := by decide +kernel
theorem dX7_at__0 : decode cX7_at_ 0 = .ok (.aload_n 0, 1) := by decide +kernel
theorem dX7_at__1 : decode cX7_at_ 1 = .ok (.aload_n 0, 1) := by decide +kernel
theorem dX7_at__2 : decode cX7_at_ 2 = .ok (.iload_n 1, 1) := by decide +kernel
theorem dX7_at__3 : decode cX7_at_ 3 = .ok (.invokevirtual 73, 3) := by decide +kernel
theorem dX7_at__6 : decode cX7_at_ 6 = .ok (.ifCond .ne 7, 3) := by decide +kernel
theorem dX7_at__9 : decode cX7_at_ 9 = .ok (.iconst 1, 1) := by decide +kernel
theorem dX7_at__10 : decode cX7_at_ 10 = .ok (.goto 32, 3) := by decide +kernel
theorem dX7_at__13 : decode cX7_at_ 13 = .ok (.iload_n 2, 1) := by decide +kernel
theorem dX7_at__14 : decode cX7_at_ 14 = .ok (.iconst 0, 1) := by decide +kernel
theorem dX7_at__15 : decode cX7_at_ 15 = .ok (.sipush 1440, 3) := by decide +kernel
theorem dX7_at__18 : decode cX7_at_ 18 = .ok (.invokestatic 51, 3) := by decide +kernel
theorem dX7_at__21 : decode cX7_at_ 21 = .ok (.ifCond .ne 7, 3) := by decide +kernel
theorem dX7_at__24 : decode cX7_at_ 24 = .ok (.iconst 2, 1) := by decide +kernel
theorem dX7_at__25 : decode cX7_at_ 25 = .ok (.goto 17, 3) := by decide +kernel
theorem dX7_at__28 : decode cX7_at_ 28 = .ok (.aload_n 0, 1) := by decide +kernel
theorem dX7_at__29 : decode cX7_at_ 29 = .ok (.iload_n 1, 1) := by decide +kernel
theorem dX7_at__30 : decode cX7_at_ 30 = .ok (.iload_n 2, 1) := by decide +kernel
theorem dX7_at__31 : decode cX7_at_ 31 = .ok (.invokevirtual 131, 3) := by decide +kernel
theorem dX7_at__34 : decode cX7_at_ 34 = .ok (.ifCond .ge 7, 3) := by decide +kernel
theorem dX7_at__37 : decode cX7_at_ 37 = .ok (.iconst 3, 1) := by decide +kernel
theorem dX7_at__38 : decode cX7_at_ 38 = .ok (.goto 4, 3) := by decide +kernel
theorem dX7_at__41 : decode cX7_at_ 41 = .ok (.iconst 0, 1) := by decide +kernel
theorem dX7_at__42 : decode cX7_at_ 42 = .ok (.putfield 48, 3) := by decide +kernel
theorem dX7_at__45 : decode cX7_at_ 45 = .ok (.aload_n 0, 1) := by decide +kernel
theorem dX7_at__46 : decode cX7_at_ 46 = .ok (.getfield 48, 3) := by decide +kernel
theorem dX7_at__49 : decode cX7_at_ 49 = .ok (.ifCond .le 7, 3) := by decide +kernel
theorem dX7_at__52 : decode cX7_at_ 52 = .ok (.iconst 0, 1) := by decide +kernel
theorem dX7_at__53 : decode cX7_at_ 53 = .ok (.goto 9, 3) := by decide +kernel
theorem dX7_at__56 : decode cX7_at_ 56 = .ok (.aload_n 0, 1) := by decide +kernel
theorem dX7_at__57 : decode cX7_at_ 57 = .ok (.iload_n 1, 1) := by decide +kernel
theorem dX7_at__58 : decode cX7_at_ 58 = .ok (.iload_n 2, 1) := by decide +kernel
theorem dX7_at__59 : decode cX7_at_ 59 = .ok (.invokevirtual 131, 3) := by decide +kernel
theorem dX7_at__62 : decode cX7_at_ 62 = .ok (.ireturn, 1) := by decide +kernel
theorem dX7_gap_0 : decode cX7_gap 0 = .ok (.aload_n 0, 1) := by decide +kernel
theorem dX7_gap_1 : decode cX7_gap 1 = .ok (.aload_n 0, 1) := by decide +kernel
theorem dX7_gap_2 : decode cX7_gap 2 = .ok (.iload_n 1, 1) := by decide +kernel
theorem dX7_gap_3 : decode cX7_gap 3 = .ok (.invokevirtual 73, 3) := by decide +kernel
theorem dX7_gap_6 : decode cX7_gap 6 = .ok (.ifCond .ne 7, 3) := by decide +kernel
theorem dX7_gap_9 : decode cX7_gap 9 = .ok (.iconst 1, 1) := by decide +kernel
theorem dX7_gap_10 : decode cX7_gap 10 = .ok (.goto 19, 3) := by decide +kernel
theorem dX7_gap_13 : decode cX7_gap 13 = .ok (.iload_n 2, 1) := by decide +kernel
theorem dX7_gap_14 : decode cX7_gap 14 = .ok (.iconst 0, 1) := by decide +kernel
theorem dX7_gap_15 : decode cX7_gap 15 = .ok (.sipush 1440, 3) := by decide +kernel
theorem dX7_gap_18 : decode cX7_gap 18 = .ok (.invokestatic 51, 3) := by decide +kernel
theorem dX7_gap_21 : decode cX7_gap 21 = .ok (.ifCond .ne 7, 3) := by decide +kernel
theorem dX7_gap_24 : decode cX7_gap 24 = .ok (.iconst 2, 1) := by decide +kernel
theorem dX7_gap_25 : decode cX7_gap 25 = .ok (.goto 4, 3) := by decide +kernel
theorem dX7_gap_28 : decode cX7_gap 28 = .ok (.iconst 0, 1) := by decide +kernel
theorem dX7_gap_29 : decode cX7_gap 29 = .ok (.putfield 48, 3) := by decide +kernel
theorem dX7_gap_32 : decode cX7_gap 32 = .ok (.aload_n 0, 1) := by decide +kernel
theorem dX7_gap_33 : decode cX7_gap 33 = .ok (.getfield 48, 3) := by decide +kernel
theorem dX7_gap_36 : decode cX7_gap 36 = .ok (.ifCond .gt 12, 3) := by decide +kernel
theorem dX7_gap_39 : decode cX7_gap 39 = .ok (.aload_n 0, 1) := by decide +kernel
theorem dX7_gap_40 : decode cX7_gap 40 = .ok (.iload_n 1, 1) := by decide +kernel
theorem dX7_gap_41 : decode cX7_gap 41 = .ok (.iload_n 2, 1) := by decide +kernel
theorem dX7_gap_42 : decode cX7_gap 42 = .ok (.invokevirtual 131, 3) := by decide +kernel
theorem dX7_gap_45 : decode cX7_gap 45 = .ok (.ifCond .lt 5, 3) := by decide +kernel
theorem dX7_gap_48 : decode cX7_gap 48 = .ok (.iconst 0, 1) := by decide +kernel
theorem dX7_gap_49 : decode cX7_gap 49 = .ok (.ireturn, 1) := by decide +kernel
theorem dX7_gap_50 : decode cX7_gap 50 = .ok (.sipush 1440, 3) := by decide +kernel
theorem dX7_gap_53 : decode cX7_gap 53 = .ok (.istore_n 3, 1) := by decide +kernel
theorem dX7_gap_54 : decode cX7_gap 54 = .ok (.iconst 0, 1) := by decide +kernel
theorem dX7_gap_55 : decode cX7_gap 55 = .ok (.istore 4, 2) := by decide +kernel
theorem dX7_gap_57 : decode cX7_gap 57 = .ok (.iload 4, 2) := by decide +kernel
theorem dX7_gap_59 : decode cX7_gap 59 = .ok (.bipush 20, 2) := by decide +kernel
theorem dX7_gap_61 : decode cX7_gap 61 = .ok (.if_icmp .ge 53, 3) := by decide +kernel
theorem dX7_gap_64 : decode cX7_gap 64 = .ok (.aload_n 0, 1) := by decide +kernel
theorem dX7_gap_65 : decode cX7_gap 65 = .ok (.iload 4, 2) := by decide +kernel
theorem dX7_gap_67 : decode cX7_gap 67 = .ok (.invokevirtual 97, 3) := by decide +kernel
theorem dX7_gap_70 : decode cX7_gap 70 = .ok (.ifCond .eq 36, 3) := by decide +kernel
theorem dX7_gap_73 : decode cX7_gap 73 = .ok (.aload_n 0, 1) := by decide +kernel
theorem dX7_gap_74 : decode cX7_gap 74 = .ok (.iload 4, 2) := by decide +kernel
theorem dX7_gap_76 : decode cX7_gap 76 = .ok (.invokevirtual 94, 3) := by decide +kernel
theorem dX7_gap_79 : decode cX7_gap 79 = .ok (.iload_n 1, 1) := by decide +kernel
theorem dX7_gap_80 : decode cX7_gap 80 = .ok (.if_icmp .ne 26, 3) := by decide +kernel
theorem dX7_gap_83 : decode cX7_gap 83 = .ok (.aload_n 0, 1) := by decide +kernel
theorem dX7_gap_84 : decode cX7_gap 84 = .ok (.iload 4, 2) := by decide +kernel
theorem dX7_gap_86 : decode cX7_gap 86 = .ok (.invokevirtual 103, 3) := by decide +kernel
theorem dX7_gap_89 : decode cX7_gap 89 = .ok (.iload_n 2, 1) := by decide +kernel
theorem dX7_gap_90 : decode cX7_gap 90 = .ok (.if_icmp .le 16, 3) := by decide +kernel
theorem dX7_gap_93 : decode cX7_gap 93 = .ok (.iload_n 3, 1) := by decide +kernel
theorem dX7_gap_94 : decode cX7_gap 94 = .ok (.aload_n 0, 1) := by decide +kernel
theorem dX7_gap_95 : decode cX7_gap 95 = .ok (.iload 4, 2) := by decide +kernel
theorem dX7_gap_97 : decode cX7_gap 97 = .ok (.invokevirtual 103, 3) := by decide +kernel
theorem dX7_gap_100 : decode cX7_gap 100 = .ok (.invokestatic 134, 3) := by decide +kernel
theorem dX7_gap_103 : decode cX7_gap 103 = .ok (.goto 4, 3) := by decide +kernel
theorem dX7_gap_106 : decode cX7_gap 106 = .ok (.iload_n 3, 1) := by decide +kernel
theorem dX7_gap_107 : decode cX7_gap 107 = .ok (.istore_n 3, 1) := by decide +kernel
theorem dX7_gap_108 : decode cX7_gap 108 = .ok (.iinc 4 1, 3) := by decide +kernel
theorem dX7_gap_111 : decode cX7_gap 111 = .ok (.goto (-54), 3) := by decide +kernel
theorem dX7_gap_114 : decode cX7_gap 114 = .ok (.iload_n 3, 1) := by decide +kernel
theorem dX7_gap_115 : decode cX7_gap 115 = .ok (.iload_n 2, 1) := by decide +kernel
theorem dX7_gap_116 : decode cX7_gap 116 = .ok (.isub, 1) := by decide +kernel
theorem dX7_gap_117 : decode cX7_gap 117 = .ok (.ireturn, 1) := by decide +kernel
theorem dX7_addTurn_0 : decode cX7_addTurn 0 = .ok (.iload_n 1, 1) := by decide +kernel
theorem dX7_addTurn_1 : decode cX7_addTurn 1 = .ok (.iconst 0, 1) := by decide +kernel
theorem dX7_addTurn_2 : decode cX7_addTurn 2 = .ok (.iconst 3, 1) := by decide +kernel
theorem dX7_addTurn_3 : decode cX7_addTurn 3 = .ok (.invokestatic 51, 3) := by decide +kernel
theorem dX7_addTurn_6 : decode cX7_addTurn 6 = .ok (.ifCond .eq 40, 3) := by decide +kernel
theorem dX7_addTurn_9 : decode cX7_addTurn 9 = .ok (.iload_n 2, 1) := by decide +kernel
theorem dX7_addTurn_10 : decode cX7_addTurn 10 = .ok (.iconst 0, 1) := by decide +kernel
theorem dX7_addTurn_11 : decode cX7_addTurn 11 = .ok (.sipush 1440, 3) := by decide +kernel
theorem dX7_addTurn_14 : decode cX7_addTurn 14 = .ok (.invokestatic 51, 3) := by decide +kernel
theorem dX7_addTurn_17 : decode cX7_addTurn 17 = .ok (.ifCond .eq 29, 3) := by decide +kernel
theorem dX7_addTurn_20 : decode cX7_addTurn 20 = .ok (.iload_n 3, 1) := by decide +kernel
theorem dX7_addTurn_21 : decode cX7_addTurn 21 = .ok (.iconst 0, 1) := by decide +kernel
theorem dX7_addTurn_22 : decode cX7_addTurn 22 = .ok (.sipush 1440, 3) := by decide +kernel
theorem dX7_addTurn_25 : decode cX7_addTurn 25 = .ok (.invokestatic 51, 3) := by decide +kernel
theorem dX7_addTurn_28 : decode cX7_addTurn 28 = .ok (.ifCond .eq 18, 3) := by decide +kernel
theorem dX7_addTurn_31 : decode cX7_addTurn 31 = .ok (.iload 4, 2) := by decide +kernel
theorem dX7_addTurn_33 : decode cX7_addTurn 33 = .ok (.iconst 1, 1) := by decide +kernel
theorem dX7_addTurn_34 : decode cX7_addTurn 34 = .ok (.bipush 9, 2) := by decide +kernel
theorem dX7_addTurn_36 : decode cX7_addTurn 36 = .ok (.invokestatic 51, 3) := by decide +kernel
theorem dX7_addTurn_39 : decode cX7_addTurn 39 = .ok (.ifCond .eq 7, 3) := by decide +kernel
theorem dX7_addTurn_42 : decode cX7_addTurn 42 = .ok (.iconst 1, 1) := by decide +kernel
theorem dX7_addTurn_43 : decode cX7_addTurn 43 = .ok (.goto 4, 3) := by decide +kernel
theorem dX7_addTurn_46 : decode cX7_addTurn 46 = .ok (.iconst 0, 1) := by decide +kernel
theorem dX7_addTurn_47 : decode cX7_addTurn 47 = .ok (.istore 5, 2) := by decide +kernel
theorem dX7_addTurn_49 : decode cX7_addTurn 49 = .ok (.aload_n 0, 1) := by decide +kernel
theorem dX7_addTurn_50 : decode cX7_addTurn 50 = .ok (.iload 5, 2) := by decide +kernel
theorem dX7_addTurn_52 : decode cX7_addTurn 52 = .ok (.ifCond .eq 11, 3) := by decide +kernel
theorem dX7_addTurn_55 : decode cX7_addTurn 55 = .ok (.iload_n 3, 1) := by decide +kernel
theorem dX7_addTurn_56 : decode cX7_addTurn 56 = .ok (.iload_n 2, 1) := by decide +kernel
theorem dX7_addTurn_57 : decode cX7_addTurn 57 = .ok (.bipush 30, 2) := by decide +kernel
theorem dX7_addTurn_59 : decode cX7_addTurn 59 = .ok (.iadd, 1) := by decide +kernel
theorem dX7_addTurn_60 : decode cX7_addTurn 60 = .ok (.if_icmp .ge 7, 3) := by decide +kernel
theorem dX7_addTurn_63 : decode cX7_addTurn 63 = .ok (.iconst 1, 1) := by decide +kernel
theorem dX7_addTurn_64 : decode cX7_addTurn 64 = .ok (.goto 19, 3) := by decide +kernel
theorem dX7_addTurn_67 : decode cX7_addTurn 67 = .ok (.aload_n 0, 1) := by decide +kernel
theorem dX7_addTurn_68 : decode cX7_addTurn 68 = .ok (.getfield 9, 3) := by decide +kernel
theorem dX7_addTurn_71 : decode cX7_addTurn 71 = .ok (.iconst 1, 1) := by decide +kernel
theorem dX7_addTurn_72 : decode cX7_addTurn 72 = .ok (.iaload, 1) := by decide +kernel
theorem dX7_addTurn_73 : decode cX7_addTurn 73 = .ok (.bipush 10, 2) := by decide +kernel
theorem dX7_addTurn_75 : decode cX7_addTurn 75 = .ok (.if_icmp .ne 7, 3) := by decide +kernel
theorem dX7_addTurn_78 : decode cX7_addTurn 78 = .ok (.iconst 2, 1) := by decide +kernel
theorem dX7_addTurn_79 : decode cX7_addTurn 79 = .ok (.goto 4, 3) := by decide +kernel
theorem dX7_addTurn_82 : decode cX7_addTurn 82 = .ok (.iconst 0, 1) := by decide +kernel
theorem dX7_addTurn_83 : decode cX7_addTurn 83 = .ok (.putfield 48, 3) := by decide +kernel
theorem dX7_addTurn_86 : decode cX7_addTurn 86 = .ok (.aload_n 0, 1) := by decide +kernel
theorem dX7_addTurn_87 : decode cX7_addTurn 87 = .ok (.getfield 48, 3) := by decide +kernel
theorem dX7_addTurn_90 : decode cX7_addTurn 90 = .ok (.ifCond .le 5, 3) := by decide +kernel
theorem dX7_addTurn_93 : decode cX7_addTurn 93 = .ok (.iconst 0, 1) := by decide +kernel
theorem dX7_addTurn_94 : decode cX7_addTurn 94 = .ok (.ireturn, 1) := by decide +kernel
theorem dX7_addTurn_95 : decode cX7_addTurn 95 = .ok (.aload_n 0, 1) := by decide +kernel
theorem dX7_addTurn_96 : decode cX7_addTurn 96 = .ok (.invokevirtual 70, 3) := by decide +kernel
theorem dX7_addTurn_99 : decode cX7_addTurn 99 = .ok (.aload_n 0, 1) := by decide +kernel
theorem dX7_addTurn_100 : decode cX7_addTurn 100 = .ok (.getfield 9, 3) := by decide +kernel
theorem dX7_addTurn_103 : decode cX7_addTurn 103 = .ok (.iconst 1, 1) := by decide +kernel
theorem dX7_addTurn_104 : decode cX7_addTurn 104 = .ok (.iaload, 1) := by decide +kernel
theorem dX7_addTurn_105 : decode cX7_addTurn 105 = .ok (.invokestatic 81, 3) := by decide +kernel
theorem dX7_addTurn_108 : decode cX7_addTurn 108 = .ok (.istore 6, 2) := by decide +kernel
theorem dX7_addTurn_110 : decode cX7_addTurn 110 = .ok (.aload_n 0, 1) := by decide +kernel
theorem dX7_addTurn_111 : decode cX7_addTurn 111 = .ok (.getfield 9, 3) := by decide +kernel
theorem dX7_addTurn_114 : decode cX7_addTurn 114 = .ok (.iload 6, 2) := by decide +kernel
theorem dX7_addTurn_116 : decode cX7_addTurn 116 = .ok (.iload_n 1, 1) := by decide +kernel
theorem dX7_addTurn_117 : decode cX7_addTurn 117 = .ok (.iastore, 1) := by decide +kernel
theorem dX7_addTurn_118 : decode cX7_addTurn 118 = .ok (.aload_n 0, 1) := by decide +kernel
theorem dX7_addTurn_119 : decode cX7_addTurn 119 = .ok (.getfield 9, 3) := by decide +kernel
theorem dX7_addTurn_122 : decode cX7_addTurn 122 = .ok (.iload 6, 2) := by decide +kernel
theorem dX7_addTurn_124 : decode cX7_addTurn 124 = .ok (.iconst 1, 1) := by decide +kernel
theorem dX7_addTurn_125 : decode cX7_addTurn 125 = .ok (.iadd, 1) := by decide +kernel
theorem dX7_addTurn_126 : decode cX7_addTurn 126 = .ok (.iload_n 2, 1) := by decide +kernel
theorem dX7_addTurn_127 : decode cX7_addTurn 127 = .ok (.iastore, 1) := by decide +kernel
theorem dX7_addTurn_128 : decode cX7_addTurn 128 = .ok (.aload_n 0, 1) := by decide +kernel
theorem dX7_addTurn_129 : decode cX7_addTurn 129 = .ok (.getfield 9, 3) := by decide +kernel
theorem dX7_addTurn_132 : decode cX7_addTurn 132 = .ok (.iload 6, 2) := by decide +kernel
theorem dX7_addTurn_134 : decode cX7_addTurn 134 = .ok (.iconst 2, 1) := by decide +kernel
theorem dX7_addTurn_135 : decode cX7_addTurn 135 = .ok (.iadd, 1) := by decide +kernel
theorem dX7_addTurn_136 : decode cX7_addTurn 136 = .ok (.iload_n 3, 1) := by decide +kernel
theorem dX7_addTurn_137 : decode cX7_addTurn 137 = .ok (.iastore, 1) := by decide +kernel
theorem dX7_addTurn_138 : decode cX7_addTurn 138 = .ok (.aload_n 0, 1) := by decide +kernel
theorem dX7_addTurn_139 : decode cX7_addTurn 139 = .ok (.getfield 9, 3) := by decide +kernel
theorem dX7_addTurn_142 : decode cX7_addTurn 142 = .ok (.iload 6, 2) := by decide +kernel
theorem dX7_addTurn_144 : decode cX7_addTurn 144 = .ok (.iconst 3, 1) := by decide +kernel
theorem dX7_addTurn_145 : decode cX7_addTurn 145 = .ok (.iadd, 1) := by decide +kernel
theorem dX7_addTurn_146 : decode cX7_addTurn 146 = .ok (.iload 4, 2) := by decide +kernel
theorem dX7_addTurn_148 : decode cX7_addTurn 148 = .ok (.iastore, 1) := by decide +kernel
theorem dX7_addTurn_149 : decode cX7_addTurn 149 = .ok (.aload_n 0, 1) := by decide +kernel
theorem dX7_addTurn_150 : decode cX7_addTurn 150 = .ok (.getfield 9, 3) := by decide +kernel
theorem dX7_addTurn_153 : decode cX7_addTurn 153 = .ok (.iload 6, 2) := by decide +kernel
theorem dX7_addTurn_155 : decode cX7_addTurn 155 = .ok (.iconst 4, 1) := by decide +kernel
theorem dX7_addTurn_156 : decode cX7_addTurn 156 = .ok (.iadd, 1) := by decide +kernel
theorem dX7_addTurn_157 : decode cX7_addTurn 157 = .ok (.iconst (-1), 1) := by decide +kernel
theorem dX7_addTurn_158 : decode cX7_addTurn 158 = .ok (.iastore, 1) := by decide +kernel
theorem dX7_addTurn_159 : decode cX7_addTurn 159 = .ok (.aload_n 0, 1) := by decide +kernel
theorem dX7_addTurn_160 : decode cX7_addTurn 160 = .ok (.getfield 9, 3) := by decide +kernel
theorem dX7_addTurn_163 : decode cX7_addTurn 163 = .ok (.iload 6, 2) := by decide +kernel
theorem dX7_addTurn_165 : decode cX7_addTurn 165 = .ok (.iconst 5, 1) := by decide +kernel
theorem dX7_addTurn_166 : decode cX7_addTurn 166 = .ok (.iadd, 1) := by decide +kernel
theorem dX7_addTurn_167 : decode cX7_addTurn 167 = .ok (.iconst (-1), 1) := by decide +kernel
theorem dX7_addTurn_168 : decode cX7_addTurn 168 = .ok (.iastore, 1) := by decide +kernel
theorem dX7_addTurn_169 : decode cX7_addTurn 169 = .ok (.aload_n 0, 1) := by decide +kernel
theorem dX7_addTurn_170 : decode cX7_addTurn 170 = .ok (.getfield 9, 3) := by decide +kernel
theorem dX7_addTurn_173 : decode cX7_addTurn 173 = .ok (.iload 6, 2) := by decide +kernel
theorem dX7_addTurn_175 : decode cX7_addTurn 175 = .ok (.bipush 6, 2) := by decide +kernel
theorem dX7_addTurn_177 : decode cX7_addTurn 177 = .ok (.iadd, 1) := by decide +kernel
theorem dX7_addTurn_178 : decode cX7_addTurn 178 = .ok (.iconst (-1), 1) := by decide +kernel
theorem dX7_addTurn_179 : decode cX7_addTurn 179 = .ok (.iastore, 1) := by decide +kernel
theorem dX7_addTurn_180 : decode cX7_addTurn 180 = .ok (.aload_n 0, 1) := by decide +kernel
theorem dX7_addTurn_181 : decode cX7_addTurn 181 = .ok (.getfield 9, 3) := by decide +kernel
theorem dX7_addTurn_184 : decode cX7_addTurn 184 = .ok (.iconst 1, 1) := by decide +kernel
theorem dX7_addTurn_185 : decode cX7_addTurn 185 = .ok (.dup2, 1) := by decide +kernel
theorem dX7_addTurn_186 : decode cX7_addTurn 186 = .ok (.iaload, 1) := by decide +kernel
theorem dX7_addTurn_187 : decode cX7_addTurn 187 = .ok (.iconst 1, 1) := by decide +kernel
theorem dX7_addTurn_188 : decode cX7_addTurn 188 = .ok (.iadd, 1) := by decide +kernel
theorem dX7_addTurn_189 : decode cX7_addTurn 189 = .ok (.iastore, 1) := by decide +kernel
theorem dX7_addTurn_190 : decode cX7_addTurn 190 = .ok (.aload_n 0, 1) := by decide +kernel
theorem dX7_addTurn_191 : decode cX7_addTurn 191 = .ok (.getfield 9, 3) := by decide +kernel
theorem dX7_addTurn_194 : decode cX7_addTurn 194 = .ok (.iconst 1, 1) := by decide +kernel
theorem dX7_addTurn_195 : decode cX7_addTurn 195 = .ok (.iaload, 1) := by decide +kernel
theorem dX7_addTurn_196 : decode cX7_addTurn 196 = .ok (.iconst 1, 1) := by decide +kernel
theorem dX7_addTurn_197 : decode cX7_addTurn 197 = .ok (.isub, 1) := by decide +kernel
theorem dX7_addTurn_198 : decode cX7_addTurn 198 = .ok (.ireturn, 1) := by decide +kernel
theorem dX7_turn_0 : decode cX7_turn 0 = .ok (.aload_n 0, 1) := by decide +kernel
theorem dX7_turn_1 : decode cX7_turn 1 = .ok (.aload_n 0, 1) := by decide +kernel
theorem dX7_turn_2 : decode cX7_turn 2 = .ok (.iload_n 1, 1) := by decide +kernel
theorem dX7_turn_3 : decode cX7_turn 3 = .ok (.invokevirtual 85, 3) := by decide +kernel
theorem dX7_turn_6 : decode cX7_turn 6 = .ok (.ifCond .ne 7, 3) := by decide +kernel
theorem dX7_turn_9 : decode cX7_turn 9 = .ok (.iconst 1, 1) := by decide +kernel
theorem dX7_turn_10 : decode cX7_turn 10 = .ok (.goto 17, 3) := by decide +kernel
theorem dX7_turn_13 : decode cX7_turn 13 = .ok (.iload_n 2, 1) := by decide +kernel
theorem dX7_turn_14 : decode cX7_turn 14 = .ok (.iconst 0, 1) := by decide +kernel
theorem dX7_turn_15 : decode cX7_turn 15 = .ok (.iconst 5, 1) := by decide +kernel
theorem dX7_turn_16 : decode cX7_turn 16 = .ok (.invokestatic 51, 3) := by decide +kernel
theorem dX7_turn_19 : decode cX7_turn 19 = .ok (.ifCond .ne 7, 3) := by decide +kernel
theorem dX7_turn_22 : decode cX7_turn 22 = .ok (.iconst 2, 1) := by decide +kernel
theorem dX7_turn_23 : decode cX7_turn 23 = .ok (.goto 4, 3) := by decide +kernel
theorem dX7_turn_26 : decode cX7_turn 26 = .ok (.iconst 0, 1) := by decide +kernel
theorem dX7_turn_27 : decode cX7_turn 27 = .ok (.putfield 48, 3) := by decide +kernel
theorem dX7_turn_30 : decode cX7_turn 30 = .ok (.aload_n 0, 1) := by decide +kernel
theorem dX7_turn_31 : decode cX7_turn 31 = .ok (.getfield 48, 3) := by decide +kernel
theorem dX7_turn_34 : decode cX7_turn 34 = .ok (.ifCond .le 7, 3) := by decide +kernel
theorem dX7_turn_37 : decode cX7_turn 37 = .ok (.iconst 0, 1) := by decide +kernel
theorem dX7_turn_38 : decode cX7_turn 38 = .ok (.goto 27, 3) := by decide +kernel
theorem dX7_turn_41 : decode cX7_turn 41 = .ok (.iload_n 2, 1) := by decide +kernel
theorem dX7_turn_42 : decode cX7_turn 42 = .ok (.iconst 5, 1) := by decide +kernel
theorem dX7_turn_43 : decode cX7_turn 43 = .ok (.if_icmp .ne 11, 3) := by decide +kernel
theorem dX7_turn_46 : decode cX7_turn 46 = .ok (.aload_n 0, 1) := by decide +kernel
theorem dX7_turn_47 : decode cX7_turn 47 = .ok (.iload_n 1, 1) := by decide +kernel
theorem dX7_turn_48 : decode cX7_turn 48 = .ok (.invokevirtual 116, 3) := by decide +kernel
theorem dX7_turn_51 : decode cX7_turn 51 = .ok (.goto 14, 3) := by decide +kernel
theorem dX7_turn_54 : decode cX7_turn 54 = .ok (.aload_n 0, 1) := by decide +kernel
theorem dX7_turn_55 : decode cX7_turn 55 = .ok (.getfield 9, 3) := by decide +kernel
theorem dX7_turn_58 : decode cX7_turn 58 = .ok (.iload_n 1, 1) := by decide +kernel
theorem dX7_turn_59 : decode cX7_turn 59 = .ok (.invokestatic 81, 3) := by decide +kernel
theorem dX7_turn_62 : decode cX7_turn 62 = .ok (.iload_n 2, 1) := by decide +kernel
theorem dX7_turn_63 : decode cX7_turn 63 = .ok (.iadd, 1) := by decide +kernel
theorem dX7_turn_64 : decode cX7_turn 64 = .ok (.iaload, 1) := by decide +kernel
theorem dX7_turn_65 : decode cX7_turn 65 = .ok (.ireturn, 1) := by decide +kernel
theorem dX7_ofStay_0 : decode cX7_ofStay 0 = .ok (.aload_n 0, 1) := by decide +kernel
theorem dX7_ofStay_1 : decode cX7_ofStay 1 = .ok (.aload_n 0, 1) := by decide +kernel
theorem dX7_ofStay_2 : decode cX7_ofStay 2 = .ok (.iload_n 1, 1) := by decide +kernel
theorem dX7_ofStay_3 : decode cX7_ofStay 3 = .ok (.iload_n 2, 1) := by decide +kernel
theorem dX7_ofStay_4 : decode cX7_ofStay 4 = .ok (.invokevirtual 139, 3) := by decide +kernel
theorem dX7_ofStay_7 : decode cX7_ofStay 7 = .ok (.ifCond .ne 7, 3) := by decide +kernel
theorem dX7_ofStay_10 : decode cX7_ofStay 10 = .ok (.iconst 1, 1) := by decide +kernel
theorem dX7_ofStay_11 : decode cX7_ofStay 11 = .ok (.goto 17, 3) := by decide +kernel
theorem dX7_ofStay_14 : decode cX7_ofStay 14 = .ok (.iload_n 3, 1) := by decide +kernel
theorem dX7_ofStay_15 : decode cX7_ofStay 15 = .ok (.iconst 0, 1) := by decide +kernel
theorem dX7_ofStay_16 : decode cX7_ofStay 16 = .ok (.iconst 5, 1) := by decide +kernel
theorem dX7_ofStay_17 : decode cX7_ofStay 17 = .ok (.invokestatic 51, 3) := by decide +kernel
theorem dX7_ofStay_20 : decode cX7_ofStay 20 = .ok (.ifCond .ne 7, 3) := by decide +kernel
theorem dX7_ofStay_23 : decode cX7_ofStay 23 = .ok (.iconst 2, 1) := by decide +kernel
theorem dX7_ofStay_24 : decode cX7_ofStay 24 = .ok (.goto 4, 3) := by decide +kernel
theorem dX7_ofStay_27 : decode cX7_ofStay 27 = .ok (.iconst 0, 1) := by decide +kernel
theorem dX7_ofStay_28 : decode cX7_ofStay 28 = .ok (.putfield 48, 3) := by decide +kernel
theorem dX7_ofStay_31 : decode cX7_ofStay 31 = .ok (.aload_n 0, 1) := by decide +kernel
theorem dX7_ofStay_32 : decode cX7_ofStay 32 = .ok (.getfield 48, 3) := by decide +kernel
theorem dX7_ofStay_35 : decode cX7_ofStay 35 = .ok (.ifCond .le 5, 3) := by decide +kernel
theorem dX7_ofStay_38 : decode cX7_ofStay 38 = .ok (.iconst 0, 1) := by decide +kernel
theorem dX7_ofStay_39 : decode cX7_ofStay 39 = .ok (.ireturn, 1) := by decide +kernel
theorem dX7_ofStay_40 : decode cX7_ofStay 40 = .ok (.iconst 2, 1) := by decide +kernel
theorem dX7_ofStay_41 : decode cX7_ofStay 41 = .ok (.iload_n 1, 1) := by decide +kernel
theorem dX7_ofStay_42 : decode cX7_ofStay 42 = .ok (.imul, 1) := by decide +kernel
theorem dX7_ofStay_43 : decode cX7_ofStay 43 = .ok (.iload_n 2, 1) := by decide +kernel
theorem dX7_ofStay_44 : decode cX7_ofStay 44 = .ok (.iadd, 1) := by decide +kernel
theorem dX7_ofStay_45 : decode cX7_ofStay 45 = .ok (.istore 4, 2) := by decide +kernel
theorem dX7_ofStay_47 : decode cX7_ofStay 47 = .ok (.iload_n 3, 1) := by decide +kernel
theorem dX7_ofStay_48 : decode cX7_ofStay 48 = .ok (.tableswitch 71 0 4 #[36, 43, 50, 57, 64], 36) := by decide +kernel
theorem dX7_ofStay_84 : decode cX7_ofStay 84 = .ok (.aload_n 0, 1) := by decide +kernel
theorem dX7_ofStay_85 : decode cX7_ofStay 85 = .ok (.iload 4, 2) := by decide +kernel
theorem dX7_ofStay_87 : decode cX7_ofStay 87 = .ok (.invokevirtual 103, 3) := by decide +kernel
theorem dX7_ofStay_90 : decode cX7_ofStay 90 = .ok (.ireturn, 1) := by decide +kernel
theorem dX7_ofStay_91 : decode cX7_ofStay 91 = .ok (.aload_n 0, 1) := by decide +kernel
theorem dX7_ofStay_92 : decode cX7_ofStay 92 = .ok (.iload 4, 2) := by decide +kernel
theorem dX7_ofStay_94 : decode cX7_ofStay 94 = .ok (.invokevirtual 106, 3) := by decide +kernel
theorem dX7_ofStay_97 : decode cX7_ofStay 97 = .ok (.ireturn, 1) := by decide +kernel
theorem dX7_ofStay_98 : decode cX7_ofStay 98 = .ok (.aload_n 0, 1) := by decide +kernel
theorem dX7_ofStay_99 : decode cX7_ofStay 99 = .ok (.iload 4, 2) := by decide +kernel
theorem dX7_ofStay_101 : decode cX7_ofStay 101 = .ok (.invokevirtual 94, 3) := by decide +kernel
theorem dX7_ofStay_104 : decode cX7_ofStay 104 = .ok (.ireturn, 1) := by decide +kernel
theorem dX7_ofStay_105 : decode cX7_ofStay 105 = .ok (.aload_n 0, 1) := by decide +kernel
theorem dX7_ofStay_106 : decode cX7_ofStay 106 = .ok (.iload 4, 2) := by decide +kernel
theorem dX7_ofStay_108 : decode cX7_ofStay 108 = .ok (.invokevirtual 119, 3) := by decide +kernel
theorem dX7_ofStay_111 : decode cX7_ofStay 111 = .ok (.ireturn, 1) := by decide +kernel
theorem dX7_ofStay_112 : decode cX7_ofStay 112 = .ok (.aload_n 0, 1) := by decide +kernel
theorem dX7_ofStay_113 : decode cX7_ofStay 113 = .ok (.iload 4, 2) := by decide +kernel
theorem dX7_ofStay_115 : decode cX7_ofStay 115 = .ok (.invokevirtual 128, 3) := by decide +kernel
theorem dX7_ofStay_118 : decode cX7_ofStay 118 = .ok (.ireturn, 1) := by decide +kernel
theorem dX7_ofStay_119 : decode cX7_ofStay 119 = .ok (.aload_n 0, 1) := by decide +kernel
theorem dX7_ofStay_120 : decode cX7_ofStay 120 = .ok (.iload 4, 2) := by decide +kernel
theorem dX7_ofStay_122 : decode cX7_ofStay 122 = .ok (.invokevirtual 125, 3) := by decide +kernel
theorem dX7_ofStay_125 : decode cX7_ofStay 125 = .ok (.ifCond .eq 7, 3) := by decide +kernel
theorem dX7_ofStay_128 : decode cX7_ofStay 128 = .ok (.iconst 1, 1) := by decide +kernel
theorem dX7_ofStay_129 : decode cX7_ofStay 129 = .ok (.goto 4, 3) := by decide +kernel
theorem dX7_ofStay_132 : decode cX7_ofStay 132 = .ok (.iconst 0, 1) := by decide +kernel
theorem dX7_ofStay_133 : decode cX7_ofStay 133 = .ok (.ireturn, 1) := by decide +kernel
theorem dX7_why_0 : decode cX7_why 0 = .ok (.aload_n 0, 1) := by decide +kernel
theorem dX7_why_1 : decode cX7_why 1 = .ok (.iload_n 1, 1) := by decide +kernel
theorem dX7_why_2 : decode cX7_why 2 = .ok (.invokevirtual 94, 3) := by decide +kernel
theorem dX7_why_5 : decode cX7_why 5 = .ok (.istore_n 3, 1) := by decide +kernel
theorem dX7_why_6 : decode cX7_why 6 = .ok (.iload_n 3, 1) := by decide +kernel
theorem dX7_why_7 : decode cX7_why 7 = .ok (.iload_n 2, 1) := by decide +kernel
theorem dX7_why_8 : decode cX7_why 8 = .ok (.if_icmp .ne 5, 3) := by decide +kernel
theorem dX7_why_11 : decode cX7_why 11 = .ok (.iconst 1, 1) := by decide +kernel
theorem dX7_why_12 : decode cX7_why 12 = .ok (.ireturn, 1) := by decide +kernel
theorem dX7_why_13 : decode cX7_why 13 = .ok (.aload_n 0, 1) := by decide +kernel
theorem dX7_why_14 : decode cX7_why 14 = .ok (.getfield 9, 3) := by decide +kernel
theorem dX7_why_17 : decode cX7_why 17 = .ok (.bipush 20, 2) := by decide +kernel
theorem dX7_why_19 : decode cX7_why 19 = .ok (.iload_n 2, 1) := by decide +kernel
theorem dX7_why_20 : decode cX7_why 20 = .ok (.iadd, 1) := by decide +kernel
theorem dX7_why_21 : decode cX7_why 21 = .ok (.iaload, 1) := by decide +kernel
theorem dX7_why_22 : decode cX7_why 22 = .ok (.ifCond .ne 5, 3) := by decide +kernel
theorem dX7_why_25 : decode cX7_why 25 = .ok (.iconst 2, 1) := by decide +kernel
theorem dX7_why_26 : decode cX7_why 26 = .ok (.ireturn, 1) := by decide +kernel
theorem dX7_why_27 : decode cX7_why 27 = .ok (.aload_n 0, 1) := by decide +kernel
theorem dX7_why_28 : decode cX7_why 28 = .ok (.getfield 9, 3) := by decide +kernel
theorem dX7_why_31 : decode cX7_why 31 = .ok (.bipush 12, 2) := by decide +kernel
theorem dX7_why_33 : decode cX7_why 33 = .ok (.iload_n 2, 1) := by decide +kernel
theorem dX7_why_34 : decode cX7_why 34 = .ok (.iadd, 1) := by decide +kernel
theorem dX7_why_35 : decode cX7_why 35 = .ok (.iaload, 1) := by decide +kernel
theorem dX7_why_36 : decode cX7_why 36 = .ok (.aload_n 0, 1) := by decide +kernel
theorem dX7_why_37 : decode cX7_why 37 = .ok (.iload_n 1, 1) := by decide +kernel
theorem dX7_why_38 : decode cX7_why 38 = .ok (.invokevirtual 100, 3) := by decide +kernel
theorem dX7_why_41 : decode cX7_why 41 = .ok (.if_icmp .ge 5, 3) := by decide +kernel
theorem dX7_why_44 : decode cX7_why 44 = .ok (.iconst 3, 1) := by decide +kernel
theorem dX7_why_45 : decode cX7_why 45 = .ok (.ireturn, 1) := by decide +kernel
theorem dX7_why_46 : decode cX7_why 46 = .ok (.aload_n 0, 1) := by decide +kernel
theorem dX7_why_47 : decode cX7_why 47 = .ok (.iload_n 1, 1) := by decide +kernel
theorem dX7_why_48 : decode cX7_why 48 = .ok (.iload_n 2, 1) := by decide +kernel
theorem dX7_why_49 : decode cX7_why 49 = .ok (.invokevirtual 141, 3) := by decide +kernel
theorem dX7_why_52 : decode cX7_why 52 = .ok (.aload_n 0, 1) := by decide +kernel
theorem dX7_why_53 : decode cX7_why 53 = .ok (.iload_n 1, 1) := by decide +kernel
theorem dX7_why_54 : decode cX7_why 54 = .ok (.invokevirtual 128, 3) := by decide +kernel
theorem dX7_why_57 : decode cX7_why 57 = .ok (.istore 4, 2) := by decide +kernel
theorem dX7_why_59 : decode cX7_why 59 = .ok (.aload_n 0, 1) := by decide +kernel
theorem dX7_why_60 : decode cX7_why 60 = .ok (.iload_n 1, 1) := by decide +kernel
theorem dX7_why_61 : decode cX7_why 61 = .ok (.iload_n 3, 1) := by decide +kernel
theorem dX7_why_62 : decode cX7_why 62 = .ok (.invokevirtual 141, 3) := by decide +kernel
theorem dX7_why_65 : decode cX7_why 65 = .ok (.iconst 0, 1) := by decide +kernel
theorem dX7_why_66 : decode cX7_why 66 = .ok (.istore 5, 2) := by decide +kernel
theorem dX7_why_68 : decode cX7_why 68 = .ok (.iload 5, 2) := by decide +kernel
theorem dX7_why_70 : decode cX7_why 70 = .ok (.bipush 20, 2) := by decide +kernel
theorem dX7_why_72 : decode cX7_why 72 = .ok (.if_icmp .ge 32, 3) := by decide +kernel
theorem dX7_why_75 : decode cX7_why 75 = .ok (.iload 4, 2) := by decide +kernel
theorem dX7_why_77 : decode cX7_why 77 = .ok (.iload 5, 2) := by decide +kernel
theorem dX7_why_79 : decode cX7_why 79 = .ok (.ishr, 1) := by decide +kernel
theorem dX7_why_80 : decode cX7_why 80 = .ok (.iconst 1, 1) := by decide +kernel
theorem dX7_why_81 : decode cX7_why 81 = .ok (.iand, 1) := by decide +kernel
theorem dX7_why_82 : decode cX7_why 82 = .ok (.iconst 1, 1) := by decide +kernel
theorem dX7_why_83 : decode cX7_why 83 = .ok (.if_icmp .ne 15, 3) := by decide +kernel
theorem dX7_why_86 : decode cX7_why 86 = .ok (.aload_n 0, 1) := by decide +kernel
theorem dX7_why_87 : decode cX7_why 87 = .ok (.iload 5, 2) := by decide +kernel
theorem dX7_why_89 : decode cX7_why 89 = .ok (.invokevirtual 94, 3) := by decide +kernel
theorem dX7_why_92 : decode cX7_why 92 = .ok (.iload_n 2, 1) := by decide +kernel
theorem dX7_why_93 : decode cX7_why 93 = .ok (.if_icmp .ne 5, 3) := by decide +kernel
theorem dX7_why_96 : decode cX7_why 96 = .ok (.iconst 4, 1) := by decide +kernel
theorem dX7_why_97 : decode cX7_why 97 = .ok (.ireturn, 1) := by decide +kernel
theorem dX7_why_98 : decode cX7_why 98 = .ok (.iinc 5 1, 3) := by decide +kernel
theorem dX7_why_101 : decode cX7_why 101 = .ok (.goto (-33), 3) := by decide +kernel
theorem dX7_why_104 : decode cX7_why 104 = .ok (.iload 4, 2) := by decide +kernel
theorem dX7_why_106 : decode cX7_why 106 = .ok (.ifCond .eq 7, 3) := by decide +kernel
theorem dX7_why_109 : decode cX7_why 109 = .ok (.iconst 5, 1) := by decide +kernel
theorem dX7_why_110 : decode cX7_why 110 = .ok (.goto 4, 3) := by decide +kernel
theorem dX7_why_113 : decode cX7_why 113 = .ok (.iconst 0, 1) := by decide +kernel
theorem dX7_why_114 : decode cX7_why 114 = .ok (.ireturn, 1) := by decide +kernel
theorem dX7_isPlace_0 : decode cX7_isPlace 0 = .ok (.aload_n 0, 1) := by decide +kernel
theorem dX7_isPlace_1 : decode cX7_isPlace 1 = .ok (.iload_n 1, 1) := by decide +kernel
theorem dX7_isPlace_2 : decode cX7_isPlace 2 = .ok (.iload_n 2, 1) := by decide +kernel
theorem dX7_isPlace_3 : decode cX7_isPlace 3 = .ok (.invokevirtual 139, 3) := by decide +kernel
theorem dX7_isPlace_6 : decode cX7_isPlace 6 = .ok (.ifCond .eq 15, 3) := by decide +kernel
theorem dX7_isPlace_9 : decode cX7_isPlace 9 = .ok (.aload_n 0, 1) := by decide +kernel
theorem dX7_isPlace_10 : decode cX7_isPlace 10 = .ok (.iload_n 3, 1) := by decide +kernel
theorem dX7_isPlace_11 : decode cX7_isPlace 11 = .ok (.invokevirtual 73, 3) := by decide +kernel
theorem dX7_isPlace_14 : decode cX7_isPlace 14 = .ok (.ifCond .eq 7, 3) := by decide +kernel
theorem dX7_isPlace_17 : decode cX7_isPlace 17 = .ok (.iconst 1, 1) := by decide +kernel
theorem dX7_isPlace_18 : decode cX7_isPlace 18 = .ok (.goto 4, 3) := by decide +kernel
theorem dX7_isPlace_21 : decode cX7_isPlace 21 = .ok (.iconst 0, 1) := by decide +kernel
theorem dX7_isPlace_22 : decode cX7_isPlace 22 = .ok (.ireturn, 1) := by decide +kernel
theorem dX7_doPlace_0 : decode cX7_doPlace 0 = .ok (.aload_n 0, 1) := by decide +kernel
theorem dX7_doPlace_1 : decode cX7_doPlace 1 = .ok (.iload_n 1, 1) := by decide +kernel
theorem dX7_doPlace_2 : decode cX7_doPlace 2 = .ok (.iload_n 2, 1) := by decide +kernel
theorem dX7_doPlace_3 : decode cX7_doPlace 3 = .ok (.iload_n 3, 1) := by decide +kernel
theorem dX7_doPlace_4 : decode cX7_doPlace 4 = .ok (.invokevirtual 145, 3) := by decide +kernel
theorem dX7_doPlace_7 : decode cX7_doPlace 7 = .ok (.ifCond .ne 5, 3) := by decide +kernel
theorem dX7_doPlace_10 : decode cX7_doPlace 10 = .ok (.iconst 1, 1) := by decide +kernel
theorem dX7_doPlace_11 : decode cX7_doPlace 11 = .ok (.ireturn, 1) := by decide +kernel
theorem dX7_doPlace_12 : decode cX7_doPlace 12 = .ok (.aload_n 0, 1) := by decide +kernel
theorem dX7_doPlace_13 : decode cX7_doPlace 13 = .ok (.iconst 2, 1) := by decide +kernel
theorem dX7_doPlace_14 : decode cX7_doPlace 14 = .ok (.iload_n 1, 1) := by decide +kernel
theorem dX7_doPlace_15 : decode cX7_doPlace 15 = .ok (.imul, 1) := by decide +kernel
theorem dX7_doPlace_16 : decode cX7_doPlace 16 = .ok (.iload_n 2, 1) := by decide +kernel
theorem dX7_doPlace_17 : decode cX7_doPlace 17 = .ok (.iadd, 1) := by decide +kernel
theorem dX7_doPlace_18 : decode cX7_doPlace 18 = .ok (.iload_n 3, 1) := by decide +kernel
theorem dX7_doPlace_19 : decode cX7_doPlace 19 = .ok (.invokevirtual 148, 3) := by decide +kernel
theorem dX7_doPlace_22 : decode cX7_doPlace 22 = .ok (.istore 4, 2) := by decide +kernel
theorem dX7_doPlace_24 : decode cX7_doPlace 24 = .ok (.iload 4, 2) := by decide +kernel
theorem dX7_doPlace_26 : decode cX7_doPlace 26 = .ok (.ifCond .le 11, 3) := by decide +kernel
theorem dX7_doPlace_29 : decode cX7_doPlace 29 = .ok (.aload_n 0, 1) := by decide +kernel
theorem dX7_doPlace_30 : decode cX7_doPlace 30 = .ok (.iload 4, 2) := by decide +kernel
theorem dX7_doPlace_32 : decode cX7_doPlace 32 = .ok (.putfield 151, 3) := by decide +kernel
theorem dX7_doPlace_35 : decode cX7_doPlace 35 = .ok (.iconst 2, 1) := by decide +kernel
theorem dX7_doPlace_36 : decode cX7_doPlace 36 = .ok (.ireturn, 1) := by decide +kernel
theorem dX7_doPlace_37 : decode cX7_doPlace 37 = .ok (.aload_n 0, 1) := by decide +kernel
theorem dX7_doPlace_38 : decode cX7_doPlace 38 = .ok (.iconst 2, 1) := by decide +kernel
theorem dX7_doPlace_39 : decode cX7_doPlace 39 = .ok (.iload_n 1, 1) := by decide +kernel
theorem dX7_doPlace_40 : decode cX7_doPlace 40 = .ok (.imul, 1) := by decide +kernel
theorem dX7_doPlace_41 : decode cX7_doPlace 41 = .ok (.iload_n 2, 1) := by decide +kernel
theorem dX7_doPlace_42 : decode cX7_doPlace 42 = .ok (.iadd, 1) := by decide +kernel
theorem dX7_doPlace_43 : decode cX7_doPlace 43 = .ok (.iload_n 3, 1) := by decide +kernel
theorem dX7_doPlace_44 : decode cX7_doPlace 44 = .ok (.invokevirtual 141, 3) := by decide +kernel
theorem dX7_doPlace_47 : decode cX7_doPlace 47 = .ok (.iconst 0, 1) := by decide +kernel
theorem dX7_doPlace_48 : decode cX7_doPlace 48 = .ok (.ireturn, 1) := by decide +kernel
theorem dX7_place_0 : decode cX7_place 0 = .ok (.aload_n 0, 1) := by decide +kernel
theorem dX7_place_1 : decode cX7_place 1 = .ok (.iload_n 1, 1) := by decide +kernel
theorem dX7_place_2 : decode cX7_place 2 = .ok (.iload_n 2, 1) := by decide +kernel
theorem dX7_place_3 : decode cX7_place 3 = .ok (.iload_n 3, 1) := by decide +kernel
theorem dX7_place_4 : decode cX7_place 4 = .ok (.invokevirtual 145, 3) := by decide +kernel
theorem dX7_place_7 : decode cX7_place 7 = .ok (.ifCond .eq 15, 3) := by decide +kernel
theorem dX7_place_10 : decode cX7_place 10 = .ok (.aload_n 0, 1) := by decide +kernel
theorem dX7_place_11 : decode cX7_place 11 = .ok (.iconst 2, 1) := by decide +kernel
theorem dX7_place_12 : decode cX7_place 12 = .ok (.iload_n 1, 1) := by decide +kernel
theorem dX7_place_13 : decode cX7_place 13 = .ok (.imul, 1) := by decide +kernel
theorem dX7_place_14 : decode cX7_place 14 = .ok (.iload_n 2, 1) := by decide +kernel
theorem dX7_place_15 : decode cX7_place 15 = .ok (.iadd, 1) := by decide +kernel
theorem dX7_place_16 : decode cX7_place 16 = .ok (.invokevirtual 94, 3) := by decide +kernel
theorem dX7_place_19 : decode cX7_place 19 = .ok (.goto 4, 3) := by decide +kernel
theorem dX7_place_22 : decode cX7_place 22 = .ok (.iconst 0, 1) := by decide +kernel
theorem dX7_place_23 : decode cX7_place 23 = .ok (.istore 4, 2) := by decide +kernel
theorem dX7_place_25 : decode cX7_place 25 = .ok (.aload_n 0, 1) := by decide +kernel
theorem dX7_place_26 : decode cX7_place 26 = .ok (.invokevirtual 64, 3) := by decide +kernel
theorem dX7_place_29 : decode cX7_place 29 = .ok (.aload_n 0, 1) := by decide +kernel
theorem dX7_place_30 : decode cX7_place 30 = .ok (.aload_n 0, 1) := by decide +kernel
theorem dX7_place_31 : decode cX7_place 31 = .ok (.iload_n 1, 1) := by decide +kernel
theorem dX7_place_32 : decode cX7_place 32 = .ok (.iload_n 2, 1) := by decide +kernel
theorem dX7_place_33 : decode cX7_place 33 = .ok (.iload_n 3, 1) := by decide +kernel
theorem dX7_place_34 : decode cX7_place 34 = .ok (.invokevirtual 154, 3) := by decide +kernel
theorem dX7_place_37 : decode cX7_place 37 = .ok (.putfield 48, 3) := by decide +kernel
theorem dX7_place_40 : decode cX7_place 40 = .ok (.aload_n 0, 1) := by decide +kernel
theorem dX7_place_41 : decode cX7_place 41 = .ok (.getfield 48, 3) := by decide +kernel
theorem dX7_place_44 : decode cX7_place 44 = .ok (.ifCond .le 5, 3) := by decide +kernel
theorem dX7_place_47 : decode cX7_place 47 = .ok (.iconst 0, 1) := by decide +kernel
theorem dX7_place_48 : decode cX7_place 48 = .ok (.ireturn, 1) := by decide +kernel
theorem dX7_place_49 : decode cX7_place 49 = .ok (.aload_n 0, 1) := by decide +kernel
theorem dX7_place_50 : decode cX7_place 50 = .ok (.invokevirtual 67, 3) := by decide +kernel
theorem dX7_place_53 : decode cX7_place 53 = .ok (.iload 4, 2) := by decide +kernel
theorem dX7_place_55 : decode cX7_place 55 = .ok (.ireturn, 1) := by decide +kernel
theorem dX7_whyNot_0 : decode cX7_whyNot 0 = .ok (.aload_n 0, 1) := by decide +kernel
theorem dX7_whyNot_1 : decode cX7_whyNot 1 = .ok (.aload_n 0, 1) := by decide +kernel
theorem dX7_whyNot_2 : decode cX7_whyNot 2 = .ok (.iload_n 1, 1) := by decide +kernel
theorem dX7_whyNot_3 : decode cX7_whyNot 3 = .ok (.iload_n 2, 1) := by decide +kernel
theorem dX7_whyNot_4 : decode cX7_whyNot 4 = .ok (.iload_n 3, 1) := by decide +kernel
theorem dX7_whyNot_5 : decode cX7_whyNot 5 = .ok (.invokevirtual 145, 3) := by decide +kernel
theorem dX7_whyNot_8 : decode cX7_whyNot 8 = .ok (.ifCond .eq 7, 3) := by decide +kernel
theorem dX7_whyNot_11 : decode cX7_whyNot 11 = .ok (.iconst 0, 1) := by decide +kernel
theorem dX7_whyNot_12 : decode cX7_whyNot 12 = .ok (.goto 4, 3) := by decide +kernel
theorem dX7_whyNot_15 : decode cX7_whyNot 15 = .ok (.iconst 1, 1) := by decide +kernel
theorem dX7_whyNot_16 : decode cX7_whyNot 16 = .ok (.putfield 48, 3) := by decide +kernel
theorem dX7_whyNot_19 : decode cX7_whyNot 19 = .ok (.aload_n 0, 1) := by decide +kernel
theorem dX7_whyNot_20 : decode cX7_whyNot 20 = .ok (.getfield 48, 3) := by decide +kernel
theorem dX7_whyNot_23 : decode cX7_whyNot 23 = .ok (.ifCond .le 7, 3) := by decide +kernel
theorem dX7_whyNot_26 : decode cX7_whyNot 26 = .ok (.iconst 0, 1) := by decide +kernel
theorem dX7_whyNot_27 : decode cX7_whyNot 27 = .ok (.goto 13, 3) := by decide +kernel
theorem dX7_whyNot_30 : decode cX7_whyNot 30 = .ok (.aload_n 0, 1) := by decide +kernel
theorem dX7_whyNot_31 : decode cX7_whyNot 31 = .ok (.iconst 2, 1) := by decide +kernel
theorem dX7_whyNot_32 : decode cX7_whyNot 32 = .ok (.iload_n 1, 1) := by decide +kernel
theorem dX7_whyNot_33 : decode cX7_whyNot 33 = .ok (.imul, 1) := by decide +kernel
theorem dX7_whyNot_34 : decode cX7_whyNot 34 = .ok (.iload_n 2, 1) := by decide +kernel
theorem dX7_whyNot_35 : decode cX7_whyNot 35 = .ok (.iadd, 1) := by decide +kernel
theorem dX7_whyNot_36 : decode cX7_whyNot 36 = .ok (.iload_n 3, 1) := by decide +kernel
theorem dX7_whyNot_37 : decode cX7_whyNot 37 = .ok (.invokevirtual 148, 3) := by decide +kernel
theorem dX7_whyNot_40 : decode cX7_whyNot 40 = .ok (.ireturn, 1) := by decide +kernel
theorem dX7_optionsOf_0 : decode cX7_optionsOf 0 = .ok (.iconst 0, 1) := by decide +kernel
theorem dX7_optionsOf_1 : decode cX7_optionsOf 1 = .ok (.istore_n 2, 1) := by decide +kernel
theorem dX7_optionsOf_2 : decode cX7_optionsOf 2 = .ok (.iconst 0, 1) := by decide +kernel
theorem dX7_optionsOf_3 : decode cX7_optionsOf 3 = .ok (.istore_n 3, 1) := by decide +kernel
theorem dX7_optionsOf_4 : decode cX7_optionsOf 4 = .ok (.iload_n 3, 1) := by decide +kernel
theorem dX7_optionsOf_5 : decode cX7_optionsOf 5 = .ok (.aload_n 0, 1) := by decide +kernel
theorem dX7_optionsOf_6 : decode cX7_optionsOf 6 = .ok (.getfield 9, 3) := by decide +kernel
theorem dX7_optionsOf_9 : decode cX7_optionsOf 9 = .ok (.iconst 0, 1) := by decide +kernel
theorem dX7_optionsOf_10 : decode cX7_optionsOf 10 = .ok (.iaload, 1) := by decide +kernel
theorem dX7_optionsOf_11 : decode cX7_optionsOf 11 = .ok (.if_icmp .ge 28, 3) := by decide +kernel
theorem dX7_optionsOf_14 : decode cX7_optionsOf 14 = .ok (.iload_n 2, 1) := by decide +kernel
theorem dX7_optionsOf_15 : decode cX7_optionsOf 15 = .ok (.aload_n 0, 1) := by decide +kernel
theorem dX7_optionsOf_16 : decode cX7_optionsOf 16 = .ok (.iload_n 1, 1) := by decide +kernel
theorem dX7_optionsOf_17 : decode cX7_optionsOf 17 = .ok (.iload_n 3, 1) := by decide +kernel
theorem dX7_optionsOf_18 : decode cX7_optionsOf 18 = .ok (.invokevirtual 148, 3) := by decide +kernel
theorem dX7_optionsOf_21 : decode cX7_optionsOf 21 = .ok (.ifCond .ne 9, 3) := by decide +kernel
theorem dX7_optionsOf_24 : decode cX7_optionsOf 24 = .ok (.iconst 1, 1) := by decide +kernel
theorem dX7_optionsOf_25 : decode cX7_optionsOf 25 = .ok (.iload_n 3, 1) := by decide +kernel
theorem dX7_optionsOf_26 : decode cX7_optionsOf 26 = .ok (.ishl, 1) := by decide +kernel
theorem dX7_optionsOf_27 : decode cX7_optionsOf 27 = .ok (.goto 4, 3) := by decide +kernel
theorem dX7_optionsOf_30 : decode cX7_optionsOf 30 = .ok (.iconst 0, 1) := by decide +kernel
theorem dX7_optionsOf_31 : decode cX7_optionsOf 31 = .ok (.ior, 1) := by decide +kernel
theorem dX7_optionsOf_32 : decode cX7_optionsOf 32 = .ok (.istore_n 2, 1) := by decide +kernel
theorem dX7_optionsOf_33 : decode cX7_optionsOf 33 = .ok (.iinc 3 1, 3) := by decide +kernel
theorem dX7_optionsOf_36 : decode cX7_optionsOf 36 = .ok (.goto (-32), 3) := by decide +kernel
theorem dX7_optionsOf_39 : decode cX7_optionsOf 39 = .ok (.iload_n 2, 1) := by decide +kernel
theorem dX7_optionsOf_40 : decode cX7_optionsOf 40 = .ok (.ireturn, 1) := by decide +kernel
theorem dX7_cheapestOf_0 : decode cX7_cheapestOf 0 = .ok (.aload_n 0, 1) := by decide +kernel
theorem dX7_cheapestOf_1 : decode cX7_cheapestOf 1 = .ok (.iload_n 1, 1) := by decide +kernel
theorem dX7_cheapestOf_2 : decode cX7_cheapestOf 2 = .ok (.invokevirtual 158, 3) := by decide +kernel
theorem dX7_cheapestOf_5 : decode cX7_cheapestOf 5 = .ok (.istore_n 2, 1) := by decide +kernel
theorem dX7_cheapestOf_6 : decode cX7_cheapestOf 6 = .ok (.iconst 0, 1) := by decide +kernel
theorem dX7_cheapestOf_7 : decode cX7_cheapestOf 7 = .ok (.istore_n 3, 1) := by decide +kernel
theorem dX7_cheapestOf_8 : decode cX7_cheapestOf 8 = .ok (.iload_n 3, 1) := by decide +kernel
theorem dX7_cheapestOf_9 : decode cX7_cheapestOf 9 = .ok (.iconst 3, 1) := by decide +kernel
theorem dX7_cheapestOf_10 : decode cX7_cheapestOf 10 = .ok (.if_icmp .ge 55, 3) := by decide +kernel
theorem dX7_cheapestOf_13 : decode cX7_cheapestOf 13 = .ok (.iconst 0, 1) := by decide +kernel
theorem dX7_cheapestOf_14 : decode cX7_cheapestOf 14 = .ok (.istore 4, 2) := by decide +kernel
theorem dX7_cheapestOf_16 : decode cX7_cheapestOf 16 = .ok (.iload 4, 2) := by decide +kernel
theorem dX7_cheapestOf_18 : decode cX7_cheapestOf 18 = .ok (.aload_n 0, 1) := by decide +kernel
theorem dX7_cheapestOf_19 : decode cX7_cheapestOf 19 = .ok (.getfield 9, 3) := by decide +kernel
theorem dX7_cheapestOf_22 : decode cX7_cheapestOf 22 = .ok (.iconst 0, 1) := by decide +kernel
theorem dX7_cheapestOf_23 : decode cX7_cheapestOf 23 = .ok (.iaload, 1) := by decide +kernel
theorem dX7_cheapestOf_24 : decode cX7_cheapestOf 24 = .ok (.if_icmp .ge 35, 3) := by decide +kernel
theorem dX7_cheapestOf_27 : decode cX7_cheapestOf 27 = .ok (.iload_n 2, 1) := by decide +kernel
theorem dX7_cheapestOf_28 : decode cX7_cheapestOf 28 = .ok (.iload 4, 2) := by decide +kernel
theorem dX7_cheapestOf_30 : decode cX7_cheapestOf 30 = .ok (.ishr, 1) := by decide +kernel
theorem dX7_cheapestOf_31 : decode cX7_cheapestOf 31 = .ok (.iconst 1, 1) := by decide +kernel
theorem dX7_cheapestOf_32 : decode cX7_cheapestOf 32 = .ok (.iand, 1) := by decide +kernel
theorem dX7_cheapestOf_33 : decode cX7_cheapestOf 33 = .ok (.iconst 1, 1) := by decide +kernel
theorem dX7_cheapestOf_34 : decode cX7_cheapestOf 34 = .ok (.if_icmp .ne 19, 3) := by decide +kernel
theorem dX7_cheapestOf_37 : decode cX7_cheapestOf 37 = .ok (.aload_n 0, 1) := by decide +kernel
theorem dX7_cheapestOf_38 : decode cX7_cheapestOf 38 = .ok (.getfield 9, 3) := by decide +kernel
theorem dX7_cheapestOf_41 : decode cX7_cheapestOf 41 = .ok (.iconst 4, 1) := by decide +kernel
theorem dX7_cheapestOf_42 : decode cX7_cheapestOf 42 = .ok (.iload 4, 2) := by decide +kernel
theorem dX7_cheapestOf_44 : decode cX7_cheapestOf 44 = .ok (.iadd, 1) := by decide +kernel
theorem dX7_cheapestOf_45 : decode cX7_cheapestOf 45 = .ok (.iaload, 1) := by decide +kernel
theorem dX7_cheapestOf_46 : decode cX7_cheapestOf 46 = .ok (.iload_n 3, 1) := by decide +kernel
theorem dX7_cheapestOf_47 : decode cX7_cheapestOf 47 = .ok (.if_icmp .ne 6, 3) := by decide +kernel
theorem dX7_cheapestOf_50 : decode cX7_cheapestOf 50 = .ok (.iload 4, 2) := by decide +kernel
theorem dX7_cheapestOf_52 : decode cX7_cheapestOf 52 = .ok (.ireturn, 1) := by decide +kernel
theorem dX7_cheapestOf_53 : decode cX7_cheapestOf 53 = .ok (.iinc 4 1, 3) := by decide +kernel
theorem dX7_cheapestOf_56 : decode cX7_cheapestOf 56 = .ok (.goto (-40), 3) := by decide +kernel
theorem dX7_cheapestOf_59 : decode cX7_cheapestOf 59 = .ok (.iinc 3 1, 3) := by decide +kernel
theorem dX7_cheapestOf_62 : decode cX7_cheapestOf 62 = .ok (.goto (-54), 3) := by decide +kernel
theorem dX7_cheapestOf_65 : decode cX7_cheapestOf 65 = .ok (.iconst (-1), 1) := by decide +kernel
theorem dX7_cheapestOf_66 : decode cX7_cheapestOf 66 = .ok (.ireturn, 1) := by decide +kernel
theorem dX7_options_0 : decode cX7_options 0 = .ok (.aload_n 0, 1) := by decide +kernel
theorem dX7_options_1 : decode cX7_options 1 = .ok (.aload_n 0, 1) := by decide +kernel
theorem dX7_options_2 : decode cX7_options 2 = .ok (.iload_n 1, 1) := by decide +kernel
theorem dX7_options_3 : decode cX7_options 3 = .ok (.iload_n 2, 1) := by decide +kernel
theorem dX7_options_4 : decode cX7_options 4 = .ok (.invokevirtual 139, 3) := by decide +kernel
theorem dX7_options_7 : decode cX7_options 7 = .ok (.ifCond .eq 7, 3) := by decide +kernel
theorem dX7_options_10 : decode cX7_options 10 = .ok (.iconst 0, 1) := by decide +kernel
theorem dX7_options_11 : decode cX7_options 11 = .ok (.goto 4, 3) := by decide +kernel
theorem dX7_options_14 : decode cX7_options 14 = .ok (.iconst 1, 1) := by decide +kernel
theorem dX7_options_15 : decode cX7_options 15 = .ok (.putfield 48, 3) := by decide +kernel
theorem dX7_options_18 : decode cX7_options 18 = .ok (.aload_n 0, 1) := by decide +kernel
theorem dX7_options_19 : decode cX7_options 19 = .ok (.getfield 48, 3) := by decide +kernel
theorem dX7_options_22 : decode cX7_options 22 = .ok (.ifCond .le 7, 3) := by decide +kernel
theorem dX7_options_25 : decode cX7_options 25 = .ok (.iconst 0, 1) := by decide +kernel
theorem dX7_options_26 : decode cX7_options 26 = .ok (.goto 12, 3) := by decide +kernel
theorem dX7_options_29 : decode cX7_options 29 = .ok (.aload_n 0, 1) := by decide +kernel
theorem dX7_options_30 : decode cX7_options 30 = .ok (.iconst 2, 1) := by decide +kernel
theorem dX7_options_31 : decode cX7_options 31 = .ok (.iload_n 1, 1) := by decide +kernel
theorem dX7_options_32 : decode cX7_options 32 = .ok (.imul, 1) := by decide +kernel
theorem dX7_options_33 : decode cX7_options 33 = .ok (.iload_n 2, 1) := by decide +kernel
theorem dX7_options_34 : decode cX7_options 34 = .ok (.iadd, 1) := by decide +kernel
theorem dX7_options_35 : decode cX7_options 35 = .ok (.invokevirtual 158, 3) := by decide +kernel
theorem dX7_options_38 : decode cX7_options 38 = .ok (.ireturn, 1) := by decide +kernel
theorem dX7_cheapest_0 : decode cX7_cheapest 0 = .ok (.aload_n 0, 1) := by decide +kernel
theorem dX7_cheapest_1 : decode cX7_cheapest 1 = .ok (.aload_n 0, 1) := by decide +kernel
theorem dX7_cheapest_2 : decode cX7_cheapest 2 = .ok (.iload_n 1, 1) := by decide +kernel
theorem dX7_cheapest_3 : decode cX7_cheapest 3 = .ok (.iload_n 2, 1) := by decide +kernel
theorem dX7_cheapest_4 : decode cX7_cheapest 4 = .ok (.invokevirtual 139, 3) := by decide +kernel
theorem dX7_cheapest_7 : decode cX7_cheapest 7 = .ok (.ifCond .ne 7, 3) := by decide +kernel
theorem dX7_cheapest_10 : decode cX7_cheapest 10 = .ok (.iconst 1, 1) := by decide +kernel
theorem dX7_cheapest_11 : decode cX7_cheapest 11 = .ok (.goto 20, 3) := by decide +kernel
theorem dX7_cheapest_14 : decode cX7_cheapest 14 = .ok (.aload_n 0, 1) := by decide +kernel
theorem dX7_cheapest_15 : decode cX7_cheapest 15 = .ok (.iconst 2, 1) := by decide +kernel
theorem dX7_cheapest_16 : decode cX7_cheapest 16 = .ok (.iload_n 1, 1) := by decide +kernel
theorem dX7_cheapest_17 : decode cX7_cheapest 17 = .ok (.imul, 1) := by decide +kernel
theorem dX7_cheapest_18 : decode cX7_cheapest 18 = .ok (.iload_n 2, 1) := by decide +kernel
theorem dX7_cheapest_19 : decode cX7_cheapest 19 = .ok (.iadd, 1) := by decide +kernel
theorem dX7_cheapest_20 : decode cX7_cheapest 20 = .ok (.invokevirtual 161, 3) := by decide +kernel
theorem dX7_cheapest_23 : decode cX7_cheapest 23 = .ok (.ifCond .ge 7, 3) := by decide +kernel
theorem dX7_cheapest_26 : decode cX7_cheapest 26 = .ok (.iconst 2, 1) := by decide +kernel
theorem dX7_cheapest_27 : decode cX7_cheapest 27 = .ok (.goto 4, 3) := by decide +kernel
theorem dX7_cheapest_30 : decode cX7_cheapest 30 = .ok (.iconst 0, 1) := by decide +kernel
theorem dX7_cheapest_31 : decode cX7_cheapest 31 = .ok (.putfield 48, 3) := by decide +kernel
theorem dX7_cheapest_34 : decode cX7_cheapest 34 = .ok (.aload_n 0, 1) := by decide +kernel
theorem dX7_cheapest_35 : decode cX7_cheapest 35 = .ok (.getfield 48, 3) := by decide +kernel
theorem dX7_cheapest_38 : decode cX7_cheapest 38 = .ok (.ifCond .le 7, 3) := by decide +kernel
theorem dX7_cheapest_41 : decode cX7_cheapest 41 = .ok (.iconst 0, 1) := by decide +kernel
theorem dX7_cheapest_42 : decode cX7_cheapest 42 = .ok (.goto 12, 3) := by decide +kernel
theorem dX7_cheapest_45 : decode cX7_cheapest 45 = .ok (.aload_n 0, 1) := by decide +kernel
theorem dX7_cheapest_46 : decode cX7_cheapest 46 = .ok (.iconst 2, 1) := by decide +kernel
theorem dX7_cheapest_47 : decode cX7_cheapest 47 = .ok (.iload_n 1, 1) := by decide +kernel
theorem dX7_cheapest_48 : decode cX7_cheapest 48 = .ok (.imul, 1) := by decide +kernel
theorem dX7_cheapest_49 : decode cX7_cheapest 49 = .ok (.iload_n 2, 1) := by decide +kernel
theorem dX7_cheapest_50 : decode cX7_cheapest 50 = .ok (.iadd, 1) := by decide +kernel
theorem dX7_cheapest_51 : decode cX7_cheapest 51 = .ok (.invokevirtual 161, 3) := by decide +kernel
theorem dX7_cheapest_54 : decode cX7_cheapest 54 = .ok (.ireturn, 1) := by decide +kernel
theorem dX7_doLift_0 : decode cX7_doLift 0 = .ok (.aload_n 0, 1) := by decide +kernel
theorem dX7_doLift_1 : decode cX7_doLift 1 = .ok (.iload_n 1, 1) := by decide +kernel
theorem dX7_doLift_2 : decode cX7_doLift 2 = .ok (.iload_n 2, 1) := by decide +kernel
theorem dX7_doLift_3 : decode cX7_doLift 3 = .ok (.invokevirtual 139, 3) := by decide +kernel
theorem dX7_doLift_6 : decode cX7_doLift 6 = .ok (.ifCond .ne 5, 3) := by decide +kernel
theorem dX7_doLift_9 : decode cX7_doLift 9 = .ok (.iconst 1, 1) := by decide +kernel
theorem dX7_doLift_10 : decode cX7_doLift 10 = .ok (.ireturn, 1) := by decide +kernel
theorem dX7_doLift_11 : decode cX7_doLift 11 = .ok (.aload_n 0, 1) := by decide +kernel
theorem dX7_doLift_12 : decode cX7_doLift 12 = .ok (.iconst 2, 1) := by decide +kernel
theorem dX7_doLift_13 : decode cX7_doLift 13 = .ok (.iload_n 1, 1) := by decide +kernel
theorem dX7_doLift_14 : decode cX7_doLift 14 = .ok (.imul, 1) := by decide +kernel
theorem dX7_doLift_15 : decode cX7_doLift 15 = .ok (.iload_n 2, 1) := by decide +kernel
theorem dX7_doLift_16 : decode cX7_doLift 16 = .ok (.iadd, 1) := by decide +kernel
theorem dX7_doLift_17 : decode cX7_doLift 17 = .ok (.invokevirtual 94, 3) := by decide +kernel
theorem dX7_doLift_20 : decode cX7_doLift 20 = .ok (.ifCond .ge 5, 3) := by decide +kernel
theorem dX7_doLift_23 : decode cX7_doLift 23 = .ok (.iconst 2, 1) := by decide +kernel
theorem dX7_doLift_24 : decode cX7_doLift 24 = .ok (.ireturn, 1) := by decide +kernel
theorem dX7_doLift_25 : decode cX7_doLift 25 = .ok (.aload_n 0, 1) := by decide +kernel
theorem dX7_doLift_26 : decode cX7_doLift 26 = .ok (.iconst 2, 1) := by decide +kernel
theorem dX7_doLift_27 : decode cX7_doLift 27 = .ok (.iload_n 1, 1) := by decide +kernel
theorem dX7_doLift_28 : decode cX7_doLift 28 = .ok (.imul, 1) := by decide +kernel
theorem dX7_doLift_29 : decode cX7_doLift 29 = .ok (.iload_n 2, 1) := by decide +kernel
theorem dX7_doLift_30 : decode cX7_doLift 30 = .ok (.iadd, 1) := by decide +kernel
theorem dX7_doLift_31 : decode cX7_doLift 31 = .ok (.iconst (-1), 1) := by decide +kernel
theorem dX7_doLift_32 : decode cX7_doLift 32 = .ok (.invokevirtual 141, 3) := by decide +kernel
theorem dX7_doLift_35 : decode cX7_doLift 35 = .ok (.iconst 0, 1) := by decide +kernel
theorem dX7_doLift_36 : decode cX7_doLift 36 = .ok (.ireturn, 1) := by decide +kernel
theorem dX7_lift_0 : decode cX7_lift 0 = .ok (.aload_n 0, 1) := by decide +kernel
theorem dX7_lift_1 : decode cX7_lift 1 = .ok (.iload_n 1, 1) := by decide +kernel
theorem dX7_lift_2 : decode cX7_lift 2 = .ok (.iload_n 2, 1) := by decide +kernel
theorem dX7_lift_3 : decode cX7_lift 3 = .ok (.invokevirtual 139, 3) := by decide +kernel
theorem dX7_lift_6 : decode cX7_lift 6 = .ok (.ifCond .eq 15, 3) := by decide +kernel
theorem dX7_lift_9 : decode cX7_lift 9 = .ok (.aload_n 0, 1) := by decide +kernel
theorem dX7_lift_10 : decode cX7_lift 10 = .ok (.iconst 2, 1) := by decide +kernel
theorem dX7_lift_11 : decode cX7_lift 11 = .ok (.iload_n 1, 1) := by decide +kernel
theorem dX7_lift_12 : decode cX7_lift 12 = .ok (.imul, 1) := by decide +kernel
theorem dX7_lift_13 : decode cX7_lift 13 = .ok (.iload_n 2, 1) := by decide +kernel
theorem dX7_lift_14 : decode cX7_lift 14 = .ok (.iadd, 1) := by decide +kernel
theorem dX7_lift_15 : decode cX7_lift 15 = .ok (.invokevirtual 94, 3) := by decide +kernel
theorem dX7_lift_18 : decode cX7_lift 18 = .ok (.goto 4, 3) := by decide +kernel
theorem dX7_lift_21 : decode cX7_lift 21 = .ok (.iconst 0, 1) := by decide +kernel
theorem dX7_lift_22 : decode cX7_lift 22 = .ok (.istore_n 3, 1) := by decide +kernel
theorem dX7_lift_23 : decode cX7_lift 23 = .ok (.aload_n 0, 1) := by decide +kernel
theorem dX7_lift_24 : decode cX7_lift 24 = .ok (.invokevirtual 64, 3) := by decide +kernel
theorem dX7_lift_27 : decode cX7_lift 27 = .ok (.aload_n 0, 1) := by decide +kernel
theorem dX7_lift_28 : decode cX7_lift 28 = .ok (.aload_n 0, 1) := by decide +kernel
theorem dX7_lift_29 : decode cX7_lift 29 = .ok (.iload_n 1, 1) := by decide +kernel
theorem dX7_lift_30 : decode cX7_lift 30 = .ok (.iload_n 2, 1) := by decide +kernel
theorem dX7_lift_31 : decode cX7_lift 31 = .ok (.invokevirtual 164, 3) := by decide +kernel
theorem dX7_lift_34 : decode cX7_lift 34 = .ok (.putfield 48, 3) := by decide +kernel
theorem dX7_lift_37 : decode cX7_lift 37 = .ok (.aload_n 0, 1) := by decide +kernel
theorem dX7_lift_38 : decode cX7_lift 38 = .ok (.getfield 48, 3) := by decide +kernel
theorem dX7_lift_41 : decode cX7_lift 41 = .ok (.ifCond .le 5, 3) := by decide +kernel
theorem dX7_lift_44 : decode cX7_lift 44 = .ok (.iconst 0, 1) := by decide +kernel
theorem dX7_lift_45 : decode cX7_lift 45 = .ok (.ireturn, 1) := by decide +kernel
theorem dX7_lift_46 : decode cX7_lift 46 = .ok (.aload_n 0, 1) := by decide +kernel
theorem dX7_lift_47 : decode cX7_lift 47 = .ok (.invokevirtual 67, 3) := by decide +kernel
theorem dX7_lift_50 : decode cX7_lift 50 = .ok (.iload_n 3, 1) := by decide +kernel
theorem dX7_lift_51 : decode cX7_lift 51 = .ok (.ireturn, 1) := by decide +kernel
theorem dX7_reason_0 : decode cX7_reason 0 = .ok (.aload_n 0, 1) := by decide +kernel
theorem dX7_reason_1 : decode cX7_reason 1 = .ok (.aload_n 0, 1) := by decide +kernel
theorem dX7_reason_2 : decode cX7_reason 2 = .ok (.getfield 151, 3) := by decide +kernel
theorem dX7_reason_5 : decode cX7_reason 5 = .ok (.ifCond .ne 7, 3) := by decide +kernel
theorem dX7_reason_8 : decode cX7_reason 8 = .ok (.iconst 1, 1) := by decide +kernel
theorem dX7_reason_9 : decode cX7_reason 9 = .ok (.goto 4, 3) := by decide +kernel
theorem dX7_reason_12 : decode cX7_reason 12 = .ok (.iconst 0, 1) := by decide +kernel
theorem dX7_reason_13 : decode cX7_reason 13 = .ok (.putfield 48, 3) := by decide +kernel
theorem dX7_reason_16 : decode cX7_reason 16 = .ok (.aload_n 0, 1) := by decide +kernel
theorem dX7_reason_17 : decode cX7_reason 17 = .ok (.getfield 151, 3) := by decide +kernel
theorem dX7_reason_20 : decode cX7_reason 20 = .ok (.ireturn, 1) := by decide +kernel
theorem dX7_whyNoTow_0 : decode cX7_whyNoTow 0 = .ok (.aload_n 0, 1) := by decide +kernel
theorem dX7_whyNoTow_1 : decode cX7_whyNoTow 1 = .ok (.iload_n 1, 1) := by decide +kernel
theorem dX7_whyNoTow_2 : decode cX7_whyNoTow 2 = .ok (.invokevirtual 85, 3) := by decide +kernel
theorem dX7_whyNoTow_5 : decode cX7_whyNoTow 5 = .ok (.ifCond .ne 5, 3) := by decide +kernel
theorem dX7_whyNoTow_8 : decode cX7_whyNoTow 8 = .ok (.iconst 1, 1) := by decide +kernel
theorem dX7_whyNoTow_9 : decode cX7_whyNoTow 9 = .ok (.ireturn, 1) := by decide +kernel
theorem dX7_whyNoTow_10 : decode cX7_whyNoTow 10 = .ok (.iload_n 1, 1) := by decide +kernel
theorem dX7_whyNoTow_11 : decode cX7_whyNoTow 11 = .ok (.invokestatic 81, 3) := by decide +kernel
theorem dX7_whyNoTow_14 : decode cX7_whyNoTow 14 = .ok (.istore_n 3, 1) := by decide +kernel
theorem dX7_whyNoTow_15 : decode cX7_whyNoTow 15 = .ok (.iload_n 2, 1) := by decide +kernel
theorem dX7_whyNoTow_16 : decode cX7_whyNoTow 16 = .ok (.aload_n 0, 1) := by decide +kernel
theorem dX7_whyNoTow_17 : decode cX7_whyNoTow 17 = .ok (.getfield 9, 3) := by decide +kernel
theorem dX7_whyNoTow_20 : decode cX7_whyNoTow 20 = .ok (.iload_n 3, 1) := by decide +kernel
theorem dX7_whyNoTow_21 : decode cX7_whyNoTow 21 = .ok (.iconst 1, 1) := by decide +kernel
theorem dX7_whyNoTow_22 : decode cX7_whyNoTow 22 = .ok (.iadd, 1) := by decide +kernel
theorem dX7_whyNoTow_23 : decode cX7_whyNoTow 23 = .ok (.iaload, 1) := by decide +kernel
theorem dX7_whyNoTow_24 : decode cX7_whyNoTow 24 = .ok (.bipush 10, 2) := by decide +kernel
theorem dX7_whyNoTow_26 : decode cX7_whyNoTow 26 = .ok (.iadd, 1) := by decide +kernel
theorem dX7_whyNoTow_27 : decode cX7_whyNoTow 27 = .ok (.aload_n 0, 1) := by decide +kernel
theorem dX7_whyNoTow_28 : decode cX7_whyNoTow 28 = .ok (.getfield 9, 3) := by decide +kernel
theorem dX7_whyNoTow_31 : decode cX7_whyNoTow 31 = .ok (.iload_n 3, 1) := by decide +kernel
theorem dX7_whyNoTow_32 : decode cX7_whyNoTow 32 = .ok (.iconst 2, 1) := by decide +kernel
theorem dX7_whyNoTow_33 : decode cX7_whyNoTow 33 = .ok (.iadd, 1) := by decide +kernel
theorem dX7_whyNoTow_34 : decode cX7_whyNoTow 34 = .ok (.iaload, 1) := by decide +kernel
theorem dX7_whyNoTow_35 : decode cX7_whyNoTow 35 = .ok (.bipush 20, 2) := by decide +kernel
theorem dX7_whyNoTow_37 : decode cX7_whyNoTow 37 = .ok (.isub, 1) := by decide +kernel
theorem dX7_whyNoTow_38 : decode cX7_whyNoTow 38 = .ok (.invokestatic 51, 3) := by decide +kernel
theorem dX7_whyNoTow_41 : decode cX7_whyNoTow 41 = .ok (.ifCond .ne 7, 3) := by decide +kernel
theorem dX7_whyNoTow_44 : decode cX7_whyNoTow 44 = .ok (.iconst 2, 1) := by decide +kernel
theorem dX7_whyNoTow_45 : decode cX7_whyNoTow 45 = .ok (.goto 16, 3) := by decide +kernel
theorem dX7_whyNoTow_48 : decode cX7_whyNoTow 48 = .ok (.aload_n 0, 1) := by decide +kernel
theorem dX7_whyNoTow_49 : decode cX7_whyNoTow 49 = .ok (.iload_n 1, 1) := by decide +kernel
theorem dX7_whyNoTow_50 : decode cX7_whyNoTow 50 = .ok (.invokevirtual 88, 3) := by decide +kernel
theorem dX7_whyNoTow_53 : decode cX7_whyNoTow 53 = .ok (.ifCond .lt 7, 3) := by decide +kernel
theorem dX7_whyNoTow_56 : decode cX7_whyNoTow 56 = .ok (.iconst 3, 1) := by decide +kernel
theorem dX7_whyNoTow_57 : decode cX7_whyNoTow 57 = .ok (.goto 4, 3) := by decide +kernel
theorem dX7_whyNoTow_60 : decode cX7_whyNoTow 60 = .ok (.iconst 0, 1) := by decide +kernel
theorem dX7_whyNoTow_61 : decode cX7_whyNoTow 61 = .ok (.ireturn, 1) := by decide +kernel
theorem dX7_doTow_0 : decode cX7_doTow 0 = .ok (.aload_n 0, 1) := by decide +kernel
theorem dX7_doTow_1 : decode cX7_doTow 1 = .ok (.iload_n 1, 1) := by decide +kernel
theorem dX7_doTow_2 : decode cX7_doTow 2 = .ok (.iload_n 2, 1) := by decide +kernel
theorem dX7_doTow_3 : decode cX7_doTow 3 = .ok (.invokevirtual 167, 3) := by decide +kernel
theorem dX7_doTow_6 : decode cX7_doTow 6 = .ok (.istore_n 3, 1) := by decide +kernel
theorem dX7_doTow_7 : decode cX7_doTow 7 = .ok (.iload_n 3, 1) := by decide +kernel
theorem dX7_doTow_8 : decode cX7_doTow 8 = .ok (.ifCond .ne 28, 3) := by decide +kernel
theorem dX7_doTow_11 : decode cX7_doTow 11 = .ok (.aload_n 0, 1) := by decide +kernel
theorem dX7_doTow_12 : decode cX7_doTow 12 = .ok (.getfield 9, 3) := by decide +kernel
theorem dX7_doTow_15 : decode cX7_doTow 15 = .ok (.iload_n 1, 1) := by decide +kernel
theorem dX7_doTow_16 : decode cX7_doTow 16 = .ok (.invokestatic 81, 3) := by decide +kernel
theorem dX7_doTow_19 : decode cX7_doTow 19 = .ok (.iconst 4, 1) := by decide +kernel
theorem dX7_doTow_20 : decode cX7_doTow 20 = .ok (.iadd, 1) := by decide +kernel
theorem dX7_doTow_21 : decode cX7_doTow 21 = .ok (.iload_n 2, 1) := by decide +kernel
theorem dX7_doTow_22 : decode cX7_doTow 22 = .ok (.iastore, 1) := by decide +kernel
theorem dX7_doTow_23 : decode cX7_doTow 23 = .ok (.aload_n 0, 1) := by decide +kernel
theorem dX7_doTow_24 : decode cX7_doTow 24 = .ok (.getfield 9, 3) := by decide +kernel
theorem dX7_doTow_27 : decode cX7_doTow 27 = .ok (.iload_n 1, 1) := by decide +kernel
theorem dX7_doTow_28 : decode cX7_doTow 28 = .ok (.invokestatic 81, 3) := by decide +kernel
theorem dX7_doTow_31 : decode cX7_doTow 31 = .ok (.bipush 6, 2) := by decide +kernel
theorem dX7_doTow_33 : decode cX7_doTow 33 = .ok (.iadd, 1) := by decide +kernel
theorem dX7_doTow_34 : decode cX7_doTow 34 = .ok (.iconst (-1), 1) := by decide +kernel
theorem dX7_doTow_35 : decode cX7_doTow 35 = .ok (.iastore, 1) := by decide +kernel
theorem dX7_doTow_36 : decode cX7_doTow 36 = .ok (.iload_n 3, 1) := by decide +kernel
theorem dX7_doTow_37 : decode cX7_doTow 37 = .ok (.ireturn, 1) := by decide +kernel
theorem dX7_tow__0 : decode cX7_tow_ 0 = .ok (.aload_n 0, 1) := by decide +kernel
theorem dX7_tow__1 : decode cX7_tow_ 1 = .ok (.invokevirtual 64, 3) := by decide +kernel
theorem dX7_tow__4 : decode cX7_tow_ 4 = .ok (.aload_n 0, 1) := by decide +kernel
theorem dX7_tow__5 : decode cX7_tow_ 5 = .ok (.aload_n 0, 1) := by decide +kernel
theorem dX7_tow__6 : decode cX7_tow_ 6 = .ok (.iload_n 1, 1) := by decide +kernel
theorem dX7_tow__7 : decode cX7_tow_ 7 = .ok (.iload_n 2, 1) := by decide +kernel
theorem dX7_tow__8 : decode cX7_tow_ 8 = .ok (.invokevirtual 170, 3) := by decide +kernel
theorem dX7_tow__11 : decode cX7_tow_ 11 = .ok (.putfield 48, 3) := by decide +kernel
theorem dX7_tow__14 : decode cX7_tow_ 14 = .ok (.aload_n 0, 1) := by decide +kernel
theorem dX7_tow__15 : decode cX7_tow_ 15 = .ok (.getfield 48, 3) := by decide +kernel
theorem dX7_tow__18 : decode cX7_tow_ 18 = .ok (.ifCond .le 5, 3) := by decide +kernel
theorem dX7_tow__21 : decode cX7_tow_ 21 = .ok (.iconst 0, 1) := by decide +kernel
theorem dX7_tow__22 : decode cX7_tow_ 22 = .ok (.ireturn, 1) := by decide +kernel
theorem dX7_tow__23 : decode cX7_tow_ 23 = .ok (.aload_n 0, 1) := by decide +kernel
theorem dX7_tow__24 : decode cX7_tow_ 24 = .ok (.invokevirtual 67, 3) := by decide +kernel
theorem dX7_tow__27 : decode cX7_tow_ 27 = .ok (.aload_n 0, 1) := by decide +kernel
theorem dX7_tow__28 : decode cX7_tow_ 28 = .ok (.getfield 9, 3) := by decide +kernel
theorem dX7_tow__31 : decode cX7_tow_ 31 = .ok (.iload_n 1, 1) := by decide +kernel
theorem dX7_tow__32 : decode cX7_tow_ 32 = .ok (.invokestatic 81, 3) := by decide +kernel
theorem dX7_tow__35 : decode cX7_tow_ 35 = .ok (.iconst 2, 1) := by decide +kernel
theorem dX7_tow__36 : decode cX7_tow_ 36 = .ok (.iadd, 1) := by decide +kernel
theorem dX7_tow__37 : decode cX7_tow_ 37 = .ok (.iaload, 1) := by decide +kernel
theorem dX7_tow__38 : decode cX7_tow_ 38 = .ok (.iload_n 2, 1) := by decide +kernel
theorem dX7_tow__39 : decode cX7_tow_ 39 = .ok (.isub, 1) := by decide +kernel
theorem dX7_tow__40 : decode cX7_tow_ 40 = .ok (.bipush 10, 2) := by decide +kernel
theorem dX7_tow__42 : decode cX7_tow_ 42 = .ok (.isub, 1) := by decide +kernel
theorem dX7_tow__43 : decode cX7_tow_ 43 = .ok (.ireturn, 1) := by decide +kernel
theorem dX7_untow_0 : decode cX7_untow 0 = .ok (.aload_n 0, 1) := by decide +kernel
theorem dX7_untow_1 : decode cX7_untow 1 = .ok (.aload_n 0, 1) := by decide +kernel
theorem dX7_untow_2 : decode cX7_untow 2 = .ok (.iload_n 1, 1) := by decide +kernel
theorem dX7_untow_3 : decode cX7_untow 3 = .ok (.invokevirtual 85, 3) := by decide +kernel
theorem dX7_untow_6 : decode cX7_untow 6 = .ok (.ifCond .ne 7, 3) := by decide +kernel
theorem dX7_untow_9 : decode cX7_untow 9 = .ok (.iconst 1, 1) := by decide +kernel
theorem dX7_untow_10 : decode cX7_untow 10 = .ok (.goto 16, 3) := by decide +kernel
theorem dX7_untow_13 : decode cX7_untow 13 = .ok (.aload_n 0, 1) := by decide +kernel
theorem dX7_untow_14 : decode cX7_untow 14 = .ok (.iload_n 1, 1) := by decide +kernel
theorem dX7_untow_15 : decode cX7_untow 15 = .ok (.invokevirtual 88, 3) := by decide +kernel
theorem dX7_untow_18 : decode cX7_untow 18 = .ok (.ifCond .ge 7, 3) := by decide +kernel
theorem dX7_untow_21 : decode cX7_untow 21 = .ok (.iconst 2, 1) := by decide +kernel
theorem dX7_untow_22 : decode cX7_untow 22 = .ok (.goto 4, 3) := by decide +kernel
theorem dX7_untow_25 : decode cX7_untow 25 = .ok (.iconst 0, 1) := by decide +kernel
theorem dX7_untow_26 : decode cX7_untow 26 = .ok (.putfield 48, 3) := by decide +kernel
theorem dX7_untow_29 : decode cX7_untow 29 = .ok (.aload_n 0, 1) := by decide +kernel
theorem dX7_untow_30 : decode cX7_untow 30 = .ok (.getfield 48, 3) := by decide +kernel
theorem dX7_untow_33 : decode cX7_untow 33 = .ok (.ifCond .le 5, 3) := by decide +kernel
theorem dX7_untow_36 : decode cX7_untow 36 = .ok (.iconst 0, 1) := by decide +kernel
theorem dX7_untow_37 : decode cX7_untow 37 = .ok (.ireturn, 1) := by decide +kernel
theorem dX7_untow_38 : decode cX7_untow 38 = .ok (.aload_n 0, 1) := by decide +kernel
theorem dX7_untow_39 : decode cX7_untow 39 = .ok (.invokevirtual 70, 3) := by decide +kernel
theorem dX7_untow_42 : decode cX7_untow 42 = .ok (.aload_n 0, 1) := by decide +kernel
theorem dX7_untow_43 : decode cX7_untow 43 = .ok (.iconst 2, 1) := by decide +kernel
theorem dX7_untow_44 : decode cX7_untow 44 = .ok (.iload_n 1, 1) := by decide +kernel
theorem dX7_untow_45 : decode cX7_untow 45 = .ok (.imul, 1) := by decide +kernel
theorem dX7_untow_46 : decode cX7_untow 46 = .ok (.iconst 1, 1) := by decide +kernel
theorem dX7_untow_47 : decode cX7_untow 47 = .ok (.iadd, 1) := by decide +kernel
theorem dX7_untow_48 : decode cX7_untow 48 = .ok (.invokevirtual 94, 3) := by decide +kernel
theorem dX7_untow_51 : decode cX7_untow 51 = .ok (.istore_n 2, 1) := by decide +kernel
theorem dX7_untow_52 : decode cX7_untow 52 = .ok (.aload_n 0, 1) := by decide +kernel
theorem dX7_untow_53 : decode cX7_untow 53 = .ok (.getfield 9, 3) := by decide +kernel
theorem dX7_untow_56 : decode cX7_untow 56 = .ok (.iload_n 1, 1) := by decide +kernel
theorem dX7_untow_57 : decode cX7_untow 57 = .ok (.invokestatic 81, 3) := by decide +kernel
theorem dX7_untow_60 : decode cX7_untow 60 = .ok (.iconst 4, 1) := by decide +kernel
theorem dX7_untow_61 : decode cX7_untow 61 = .ok (.iadd, 1) := by decide +kernel
theorem dX7_untow_62 : decode cX7_untow 62 = .ok (.iconst (-1), 1) := by decide +kernel
theorem dX7_untow_63 : decode cX7_untow 63 = .ok (.iastore, 1) := by decide +kernel
theorem dX7_untow_64 : decode cX7_untow 64 = .ok (.aload_n 0, 1) := by decide +kernel
theorem dX7_untow_65 : decode cX7_untow 65 = .ok (.getfield 9, 3) := by decide +kernel
theorem dX7_untow_68 : decode cX7_untow 68 = .ok (.iload_n 1, 1) := by decide +kernel
theorem dX7_untow_69 : decode cX7_untow 69 = .ok (.invokestatic 81, 3) := by decide +kernel
theorem dX7_untow_72 : decode cX7_untow 72 = .ok (.bipush 6, 2) := by decide +kernel
theorem dX7_untow_74 : decode cX7_untow 74 = .ok (.iadd, 1) := by decide +kernel
theorem dX7_untow_75 : decode cX7_untow 75 = .ok (.iconst (-1), 1) := by decide +kernel
theorem dX7_untow_76 : decode cX7_untow 76 = .ok (.iastore, 1) := by decide +kernel
theorem dX7_untow_77 : decode cX7_untow 77 = .ok (.iload_n 2, 1) := by decide +kernel
theorem dX7_untow_78 : decode cX7_untow 78 = .ok (.ireturn, 1) := by decide +kernel
theorem dX7_doDelay_0 : decode cX7_doDelay 0 = .ok (.aload_n 0, 1) := by decide +kernel
theorem dX7_doDelay_1 : decode cX7_doDelay 1 = .ok (.iload_n 1, 1) := by decide +kernel
theorem dX7_doDelay_2 : decode cX7_doDelay 2 = .ok (.invokevirtual 85, 3) := by decide +kernel
theorem dX7_doDelay_5 : decode cX7_doDelay 5 = .ok (.ifCond .ne 5, 3) := by decide +kernel
theorem dX7_doDelay_8 : decode cX7_doDelay 8 = .ok (.iconst 1, 1) := by decide +kernel
theorem dX7_doDelay_9 : decode cX7_doDelay 9 = .ok (.ireturn, 1) := by decide +kernel
theorem dX7_doDelay_10 : decode cX7_doDelay 10 = .ok (.iload_n 2, 1) := by decide +kernel
theorem dX7_doDelay_11 : decode cX7_doDelay 11 = .ok (.iconst 1, 1) := by decide +kernel
theorem dX7_doDelay_12 : decode cX7_doDelay 12 = .ok (.sipush 300, 3) := by decide +kernel
theorem dX7_doDelay_15 : decode cX7_doDelay 15 = .ok (.invokestatic 51, 3) := by decide +kernel
theorem dX7_doDelay_18 : decode cX7_doDelay 18 = .ok (.ifCond .ne 5, 3) := by decide +kernel
theorem dX7_doDelay_21 : decode cX7_doDelay 21 = .ok (.iconst 2, 1) := by decide +kernel
theorem dX7_doDelay_22 : decode cX7_doDelay 22 = .ok (.ireturn, 1) := by decide +kernel
theorem dX7_doDelay_23 : decode cX7_doDelay 23 = .ok (.iload_n 1, 1) := by decide +kernel
theorem dX7_doDelay_24 : decode cX7_doDelay 24 = .ok (.invokestatic 81, 3) := by decide +kernel
theorem dX7_doDelay_27 : decode cX7_doDelay 27 = .ok (.istore_n 3, 1) := by decide +kernel
theorem dX7_doDelay_28 : decode cX7_doDelay 28 = .ok (.aload_n 0, 1) := by decide +kernel
theorem dX7_doDelay_29 : decode cX7_doDelay 29 = .ok (.getfield 9, 3) := by decide +kernel
theorem dX7_doDelay_32 : decode cX7_doDelay 32 = .ok (.iload_n 3, 1) := by decide +kernel
theorem dX7_doDelay_33 : decode cX7_doDelay 33 = .ok (.iconst 1, 1) := by decide +kernel
theorem dX7_doDelay_34 : decode cX7_doDelay 34 = .ok (.iadd, 1) := by decide +kernel
theorem dX7_doDelay_35 : decode cX7_doDelay 35 = .ok (.iaload, 1) := by decide +kernel
theorem dX7_doDelay_36 : decode cX7_doDelay 36 = .ok (.iload_n 2, 1) := by decide +kernel
theorem dX7_doDelay_37 : decode cX7_doDelay 37 = .ok (.iadd, 1) := by decide +kernel
theorem dX7_doDelay_38 : decode cX7_doDelay 38 = .ok (.istore 4, 2) := by decide +kernel
theorem dX7_doDelay_40 : decode cX7_doDelay 40 = .ok (.aload_n 0, 1) := by decide +kernel
theorem dX7_doDelay_41 : decode cX7_doDelay 41 = .ok (.getfield 9, 3) := by decide +kernel
theorem dX7_doDelay_44 : decode cX7_doDelay 44 = .ok (.iload_n 3, 1) := by decide +kernel
theorem dX7_doDelay_45 : decode cX7_doDelay 45 = .ok (.iconst 4, 1) := by decide +kernel
theorem dX7_doDelay_46 : decode cX7_doDelay 46 = .ok (.iadd, 1) := by decide +kernel
theorem dX7_doDelay_47 : decode cX7_doDelay 47 = .ok (.iaload, 1) := by decide +kernel
theorem dX7_doDelay_48 : decode cX7_doDelay 48 = .ok (.ifCond .ge 7, 3) := by decide +kernel
theorem dX7_doDelay_51 : decode cX7_doDelay 51 = .ok (.iconst (-1), 1) := by decide +kernel
theorem dX7_doDelay_52 : decode cX7_doDelay 52 = .ok (.goto 19, 3) := by decide +kernel
theorem dX7_doDelay_55 : decode cX7_doDelay 55 = .ok (.aload_n 0, 1) := by decide +kernel
theorem dX7_doDelay_56 : decode cX7_doDelay 56 = .ok (.getfield 9, 3) := by decide +kernel
theorem dX7_doDelay_59 : decode cX7_doDelay 59 = .ok (.iload_n 3, 1) := by decide +kernel
theorem dX7_doDelay_60 : decode cX7_doDelay 60 = .ok (.iconst 4, 1) := by decide +kernel
theorem dX7_doDelay_61 : decode cX7_doDelay 61 = .ok (.iadd, 1) := by decide +kernel
theorem dX7_doDelay_62 : decode cX7_doDelay 62 = .ok (.iaload, 1) := by decide +kernel
theorem dX7_doDelay_63 : decode cX7_doDelay 63 = .ok (.iload 4, 2) := by decide +kernel
theorem dX7_doDelay_65 : decode cX7_doDelay 65 = .ok (.bipush 10, 2) := by decide +kernel
theorem dX7_doDelay_67 : decode cX7_doDelay 67 = .ok (.iadd, 1) := by decide +kernel
theorem dX7_doDelay_68 : decode cX7_doDelay 68 = .ok (.invokestatic 173, 3) := by decide +kernel
theorem dX7_doDelay_71 : decode cX7_doDelay 71 = .ok (.istore 5, 2) := by decide +kernel
theorem dX7_doDelay_73 : decode cX7_doDelay 73 = .ok (.aload_n 0, 1) := by decide +kernel
theorem dX7_doDelay_74 : decode cX7_doDelay 74 = .ok (.getfield 9, 3) := by decide +kernel
theorem dX7_doDelay_77 : decode cX7_doDelay 77 = .ok (.iload_n 3, 1) := by decide +kernel
theorem dX7_doDelay_78 : decode cX7_doDelay 78 = .ok (.iconst 2, 1) := by decide +kernel
theorem dX7_doDelay_79 : decode cX7_doDelay 79 = .ok (.iadd, 1) := by decide +kernel
theorem dX7_doDelay_80 : decode cX7_doDelay 80 = .ok (.iaload, 1) := by decide +kernel
theorem dX7_doDelay_81 : decode cX7_doDelay 81 = .ok (.iload 4, 2) := by decide +kernel
theorem dX7_doDelay_83 : decode cX7_doDelay 83 = .ok (.bipush 30, 2) := by decide +kernel
theorem dX7_doDelay_85 : decode cX7_doDelay 85 = .ok (.iadd, 1) := by decide +kernel
theorem dX7_doDelay_86 : decode cX7_doDelay 86 = .ok (.iload 5, 2) := by decide +kernel
theorem dX7_doDelay_88 : decode cX7_doDelay 88 = .ok (.ifCond .ge 7, 3) := by decide +kernel
theorem dX7_doDelay_91 : decode cX7_doDelay 91 = .ok (.iconst 0, 1) := by decide +kernel
theorem dX7_doDelay_92 : decode cX7_doDelay 92 = .ok (.goto 8, 3) := by decide +kernel
theorem dX7_doDelay_95 : decode cX7_doDelay 95 = .ok (.iload 5, 2) := by decide +kernel
theorem dX7_doDelay_97 : decode cX7_doDelay 97 = .ok (.bipush 20, 2) := by decide +kernel
theorem dX7_doDelay_99 : decode cX7_doDelay 99 = .ok (.iadd, 1) := by decide +kernel
theorem dX7_doDelay_100 : decode cX7_doDelay 100 = .ok (.invokestatic 173, 3) := by decide +kernel
theorem dX7_doDelay_103 : decode cX7_doDelay 103 = .ok (.invokestatic 173, 3) := by decide +kernel
theorem dX7_doDelay_106 : decode cX7_doDelay 106 = .ok (.istore 6, 2) := by decide +kernel
theorem dX7_doDelay_108 : decode cX7_doDelay 108 = .ok (.iload 6, 2) := by decide +kernel
theorem dX7_doDelay_110 : decode cX7_doDelay 110 = .ok (.sipush 1440, 3) := by decide +kernel
theorem dX7_doDelay_113 : decode cX7_doDelay 113 = .ok (.if_icmp .le 5, 3) := by decide +kernel
theorem dX7_doDelay_116 : decode cX7_doDelay 116 = .ok (.iconst 3, 1) := by decide +kernel
theorem dX7_doDelay_117 : decode cX7_doDelay 117 = .ok (.ireturn, 1) := by decide +kernel
theorem dX7_doDelay_118 : decode cX7_doDelay 118 = .ok (.aload_n 0, 1) := by decide +kernel
theorem dX7_doDelay_119 : decode cX7_doDelay 119 = .ok (.getfield 9, 3) := by decide +kernel
theorem dX7_doDelay_122 : decode cX7_doDelay 122 = .ok (.iload_n 3, 1) := by decide +kernel
theorem dX7_doDelay_123 : decode cX7_doDelay 123 = .ok (.iconst 1, 1) := by decide +kernel
theorem dX7_doDelay_124 : decode cX7_doDelay 124 = .ok (.iadd, 1) := by decide +kernel
theorem dX7_doDelay_125 : decode cX7_doDelay 125 = .ok (.iload 4, 2) := by decide +kernel
theorem dX7_doDelay_127 : decode cX7_doDelay 127 = .ok (.iastore, 1) := by decide +kernel
theorem dX7_doDelay_128 : decode cX7_doDelay 128 = .ok (.aload_n 0, 1) := by decide +kernel
theorem dX7_doDelay_129 : decode cX7_doDelay 129 = .ok (.getfield 9, 3) := by decide +kernel
theorem dX7_doDelay_132 : decode cX7_doDelay 132 = .ok (.iload_n 3, 1) := by decide +kernel
theorem dX7_doDelay_133 : decode cX7_doDelay 133 = .ok (.iconst 2, 1) := by decide +kernel
theorem dX7_doDelay_134 : decode cX7_doDelay 134 = .ok (.iadd, 1) := by decide +kernel
theorem dX7_doDelay_135 : decode cX7_doDelay 135 = .ok (.iload 6, 2) := by decide +kernel
theorem dX7_doDelay_137 : decode cX7_doDelay 137 = .ok (.iastore, 1) := by decide +kernel
theorem dX7_doDelay_138 : decode cX7_doDelay 138 = .ok (.aload_n 0, 1) := by decide +kernel
theorem dX7_doDelay_139 : decode cX7_doDelay 139 = .ok (.getfield 9, 3) := by decide +kernel
theorem dX7_doDelay_142 : decode cX7_doDelay 142 = .ok (.iload_n 3, 1) := by decide +kernel
theorem dX7_doDelay_143 : decode cX7_doDelay 143 = .ok (.iconst 4, 1) := by decide +kernel
theorem dX7_doDelay_144 : decode cX7_doDelay 144 = .ok (.iadd, 1) := by decide +kernel
theorem dX7_doDelay_145 : decode cX7_doDelay 145 = .ok (.iload 5, 2) := by decide +kernel
theorem dX7_doDelay_147 : decode cX7_doDelay 147 = .ok (.iastore, 1) := by decide +kernel
theorem dX7_doDelay_148 : decode cX7_doDelay 148 = .ok (.iconst 0, 1) := by decide +kernel
theorem dX7_doDelay_149 : decode cX7_doDelay 149 = .ok (.ireturn, 1) := by decide +kernel
theorem dX7_delay_0 : decode cX7_delay 0 = .ok (.aload_n 0, 1) := by decide +kernel
theorem dX7_delay_1 : decode cX7_delay 1 = .ok (.iload_n 1, 1) := by decide +kernel
theorem dX7_delay_2 : decode cX7_delay 2 = .ok (.invokevirtual 85, 3) := by decide +kernel
theorem dX7_delay_5 : decode cX7_delay 5 = .ok (.ifCond .eq 17, 3) := by decide +kernel
theorem dX7_delay_8 : decode cX7_delay 8 = .ok (.aload_n 0, 1) := by decide +kernel
theorem dX7_delay_9 : decode cX7_delay 9 = .ok (.getfield 9, 3) := by decide +kernel
theorem dX7_delay_12 : decode cX7_delay 12 = .ok (.iload_n 1, 1) := by decide +kernel
theorem dX7_delay_13 : decode cX7_delay 13 = .ok (.invokestatic 81, 3) := by decide +kernel
theorem dX7_delay_16 : decode cX7_delay 16 = .ok (.iconst 2, 1) := by decide +kernel
theorem dX7_delay_17 : decode cX7_delay 17 = .ok (.iadd, 1) := by decide +kernel
theorem dX7_delay_18 : decode cX7_delay 18 = .ok (.iaload, 1) := by decide +kernel
theorem dX7_delay_19 : decode cX7_delay 19 = .ok (.goto 4, 3) := by decide +kernel
theorem dX7_delay_22 : decode cX7_delay 22 = .ok (.iconst 0, 1) := by decide +kernel
theorem dX7_delay_23 : decode cX7_delay 23 = .ok (.istore_n 3, 1) := by decide +kernel
theorem dX7_delay_24 : decode cX7_delay 24 = .ok (.aload_n 0, 1) := by decide +kernel
theorem dX7_delay_25 : decode cX7_delay 25 = .ok (.invokevirtual 64, 3) := by decide +kernel
theorem dX7_delay_28 : decode cX7_delay 28 = .ok (.aload_n 0, 1) := by decide +kernel
theorem dX7_delay_29 : decode cX7_delay 29 = .ok (.aload_n 0, 1) := by decide +kernel
theorem dX7_delay_30 : decode cX7_delay 30 = .ok (.iload_n 1, 1) := by decide +kernel
theorem dX7_delay_31 : decode cX7_delay 31 = .ok (.iload_n 2, 1) := by decide +kernel
theorem dX7_delay_32 : decode cX7_delay 32 = .ok (.invokevirtual 176, 3) := by decide +kernel
theorem dX7_delay_35 : decode cX7_delay 35 = .ok (.putfield 48, 3) := by decide +kernel
theorem dX7_delay_38 : decode cX7_delay 38 = .ok (.aload_n 0, 1) := by decide +kernel
theorem dX7_delay_39 : decode cX7_delay 39 = .ok (.getfield 48, 3) := by decide +kernel
theorem dX7_delay_42 : decode cX7_delay 42 = .ok (.ifCond .le 5, 3) := by decide +kernel
theorem dX7_delay_45 : decode cX7_delay 45 = .ok (.iconst 0, 1) := by decide +kernel
theorem dX7_delay_46 : decode cX7_delay 46 = .ok (.ireturn, 1) := by decide +kernel
theorem dX7_delay_47 : decode cX7_delay 47 = .ok (.aload_n 0, 1) := by decide +kernel
theorem dX7_delay_48 : decode cX7_delay 48 = .ok (.invokevirtual 67, 3) := by decide +kernel
theorem dX7_delay_51 : decode cX7_delay 51 = .ok (.aload_n 0, 1) := by decide +kernel
theorem dX7_delay_52 : decode cX7_delay 52 = .ok (.getfield 9, 3) := by decide +kernel
theorem dX7_delay_55 : decode cX7_delay 55 = .ok (.iload_n 1, 1) := by decide +kernel
theorem dX7_delay_56 : decode cX7_delay 56 = .ok (.invokestatic 81, 3) := by decide +kernel
theorem dX7_delay_59 : decode cX7_delay 59 = .ok (.iconst 2, 1) := by decide +kernel
theorem dX7_delay_60 : decode cX7_delay 60 = .ok (.iadd, 1) := by decide +kernel
theorem dX7_delay_61 : decode cX7_delay 61 = .ok (.iaload, 1) := by decide +kernel
theorem dX7_delay_62 : decode cX7_delay 62 = .ok (.iload_n 3, 1) := by decide +kernel
theorem dX7_delay_63 : decode cX7_delay 63 = .ok (.isub, 1) := by decide +kernel
theorem dX7_delay_64 : decode cX7_delay 64 = .ok (.ireturn, 1) := by decide +kernel
theorem dX7_isAhead_0 : decode cX7_isAhead 0 = .ok (.aload_n 0, 1) := by decide +kernel
theorem dX7_isAhead_1 : decode cX7_isAhead 1 = .ok (.iload_n 1, 1) := by decide +kernel
theorem dX7_isAhead_2 : decode cX7_isAhead 2 = .ok (.invokevirtual 103, 3) := by decide +kernel
theorem dX7_isAhead_5 : decode cX7_isAhead 5 = .ok (.aload_n 0, 1) := by decide +kernel
theorem dX7_isAhead_6 : decode cX7_isAhead 6 = .ok (.iload_n 2, 1) := by decide +kernel
theorem dX7_isAhead_7 : decode cX7_isAhead 7 = .ok (.invokevirtual 103, 3) := by decide +kernel
theorem dX7_isAhead_10 : decode cX7_isAhead 10 = .ok (.if_icmp .eq 22, 3) := by decide +kernel
theorem dX7_isAhead_13 : decode cX7_isAhead 13 = .ok (.aload_n 0, 1) := by decide +kernel
theorem dX7_isAhead_14 : decode cX7_isAhead 14 = .ok (.iload_n 1, 1) := by decide +kernel
theorem dX7_isAhead_15 : decode cX7_isAhead 15 = .ok (.invokevirtual 103, 3) := by decide +kernel
theorem dX7_isAhead_18 : decode cX7_isAhead 18 = .ok (.aload_n 0, 1) := by decide +kernel
theorem dX7_isAhead_19 : decode cX7_isAhead 19 = .ok (.iload_n 2, 1) := by decide +kernel
theorem dX7_isAhead_20 : decode cX7_isAhead 20 = .ok (.invokevirtual 103, 3) := by decide +kernel
theorem dX7_isAhead_23 : decode cX7_isAhead 23 = .ok (.if_icmp .ge 7, 3) := by decide +kernel
theorem dX7_isAhead_26 : decode cX7_isAhead 26 = .ok (.iconst 1, 1) := by decide +kernel
theorem dX7_isAhead_27 : decode cX7_isAhead 27 = .ok (.goto 4, 3) := by decide +kernel
theorem dX7_isAhead_30 : decode cX7_isAhead 30 = .ok (.iconst 0, 1) := by decide +kernel
theorem dX7_isAhead_31 : decode cX7_isAhead 31 = .ok (.ireturn, 1) := by decide +kernel
theorem dX7_isAhead_32 : decode cX7_isAhead 32 = .ok (.aload_n 0, 1) := by decide +kernel
theorem dX7_isAhead_33 : decode cX7_isAhead 33 = .ok (.iload_n 1, 1) := by decide +kernel
theorem dX7_isAhead_34 : decode cX7_isAhead 34 = .ok (.invokevirtual 113, 3) := by decide +kernel
theorem dX7_isAhead_37 : decode cX7_isAhead 37 = .ok (.aload_n 0, 1) := by decide +kernel
theorem dX7_isAhead_38 : decode cX7_isAhead 38 = .ok (.iload_n 2, 1) := by decide +kernel
theorem dX7_isAhead_39 : decode cX7_isAhead 39 = .ok (.invokevirtual 113, 3) := by decide +kernel
theorem dX7_isAhead_42 : decode cX7_isAhead 42 = .ok (.if_icmp .eq 24, 3) := by decide +kernel
theorem dX7_isAhead_45 : decode cX7_isAhead 45 = .ok (.aload_n 0, 1) := by decide +kernel
theorem dX7_isAhead_46 : decode cX7_isAhead 46 = .ok (.iload_n 1, 1) := by decide +kernel
theorem dX7_isAhead_47 : decode cX7_isAhead 47 = .ok (.invokevirtual 113, 3) := by decide +kernel
theorem dX7_isAhead_50 : decode cX7_isAhead 50 = .ok (.aload_n 0, 1) := by decide +kernel
theorem dX7_isAhead_51 : decode cX7_isAhead 51 = .ok (.iload_n 2, 1) := by decide +kernel
theorem dX7_isAhead_52 : decode cX7_isAhead 52 = .ok (.invokevirtual 113, 3) := by decide +kernel
theorem dX7_isAhead_55 : decode cX7_isAhead 55 = .ok (.if_icmp .le 7, 3) := by decide +kernel
theorem dX7_isAhead_58 : decode cX7_isAhead 58 = .ok (.iconst 1, 1) := by decide +kernel
theorem dX7_isAhead_59 : decode cX7_isAhead 59 = .ok (.goto 17, 3) := by decide +kernel
theorem dX7_isAhead_62 : decode cX7_isAhead 62 = .ok (.iconst 0, 1) := by decide +kernel
theorem dX7_isAhead_63 : decode cX7_isAhead 63 = .ok (.goto 13, 3) := by decide +kernel
theorem dX7_isAhead_66 : decode cX7_isAhead 66 = .ok (.iload_n 1, 1) := by decide +kernel
theorem dX7_isAhead_67 : decode cX7_isAhead 67 = .ok (.iload_n 2, 1) := by decide +kernel
theorem dX7_isAhead_68 : decode cX7_isAhead 68 = .ok (.if_icmp .ge 7, 3) := by decide +kernel
theorem dX7_isAhead_71 : decode cX7_isAhead 71 = .ok (.iconst 1, 1) := by decide +kernel
theorem dX7_isAhead_72 : decode cX7_isAhead 72 = .ok (.goto 4, 3) := by decide +kernel
theorem dX7_isAhead_75 : decode cX7_isAhead 75 = .ok (.iconst 0, 1) := by decide +kernel
theorem dX7_isAhead_76 : decode cX7_isAhead 76 = .ok (.ireturn, 1) := by decide +kernel
theorem dX7_assign_0 : decode cX7_assign 0 = .ok (.iconst 0, 1) := by decide +kernel
theorem dX7_assign_1 : decode cX7_assign 1 = .ok (.istore_n 1, 1) := by decide +kernel
theorem dX7_assign_2 : decode cX7_assign 2 = .ok (.iconst 0, 1) := by decide +kernel
theorem dX7_assign_3 : decode cX7_assign 3 = .ok (.istore_n 2, 1) := by decide +kernel
theorem dX7_assign_4 : decode cX7_assign 4 = .ok (.iload_n 2, 1) := by decide +kernel
theorem dX7_assign_5 : decode cX7_assign 5 = .ok (.bipush 20, 2) := by decide +kernel
theorem dX7_assign_7 : decode cX7_assign 7 = .ok (.if_icmp .ge 35, 3) := by decide +kernel
theorem dX7_assign_10 : decode cX7_assign 10 = .ok (.iload_n 1, 1) := by decide +kernel
theorem dX7_assign_11 : decode cX7_assign 11 = .ok (.aload_n 0, 1) := by decide +kernel
theorem dX7_assign_12 : decode cX7_assign 12 = .ok (.iload_n 2, 1) := by decide +kernel
theorem dX7_assign_13 : decode cX7_assign 13 = .ok (.invokevirtual 91, 3) := by decide +kernel
theorem dX7_assign_16 : decode cX7_assign 16 = .ok (.ifCond .eq 17, 3) := by decide +kernel
theorem dX7_assign_19 : decode cX7_assign 19 = .ok (.aload_n 0, 1) := by decide +kernel
theorem dX7_assign_20 : decode cX7_assign 20 = .ok (.iload_n 2, 1) := by decide +kernel
theorem dX7_assign_21 : decode cX7_assign 21 = .ok (.invokevirtual 97, 3) := by decide +kernel
theorem dX7_assign_24 : decode cX7_assign 24 = .ok (.ifCond .ne 9, 3) := by decide +kernel
theorem dX7_assign_27 : decode cX7_assign 27 = .ok (.iconst 1, 1) := by decide +kernel
theorem dX7_assign_28 : decode cX7_assign 28 = .ok (.iload_n 2, 1) := by decide +kernel
theorem dX7_assign_29 : decode cX7_assign 29 = .ok (.ishl, 1) := by decide +kernel
theorem dX7_assign_30 : decode cX7_assign 30 = .ok (.goto 4, 3) := by decide +kernel
theorem dX7_assign_33 : decode cX7_assign 33 = .ok (.iconst 0, 1) := by decide +kernel
theorem dX7_assign_34 : decode cX7_assign 34 = .ok (.ior, 1) := by decide +kernel
theorem dX7_assign_35 : decode cX7_assign 35 = .ok (.istore_n 1, 1) := by decide +kernel
theorem dX7_assign_36 : decode cX7_assign 36 = .ok (.iinc 2 1, 3) := by decide +kernel
theorem dX7_assign_39 : decode cX7_assign 39 = .ok (.goto (-35), 3) := by decide +kernel
theorem dX7_assign_42 : decode cX7_assign 42 = .ok (.iconst 0, 1) := by decide +kernel
theorem dX7_assign_43 : decode cX7_assign 43 = .ok (.istore_n 2, 1) := by decide +kernel
theorem dX7_assign_44 : decode cX7_assign 44 = .ok (.iload_n 1, 1) := by decide +kernel
theorem dX7_assign_45 : decode cX7_assign 45 = .ok (.ifCond .eq 85, 3) := by decide +kernel
theorem dX7_assign_48 : decode cX7_assign 48 = .ok (.iconst (-1), 1) := by decide +kernel
theorem dX7_assign_49 : decode cX7_assign 49 = .ok (.istore_n 3, 1) := by decide +kernel
theorem dX7_assign_50 : decode cX7_assign 50 = .ok (.iconst 0, 1) := by decide +kernel
theorem dX7_assign_51 : decode cX7_assign 51 = .ok (.istore 4, 2) := by decide +kernel
theorem dX7_assign_53 : decode cX7_assign 53 = .ok (.iload 4, 2) := by decide +kernel
theorem dX7_assign_55 : decode cX7_assign 55 = .ok (.bipush 20, 2) := by decide +kernel
theorem dX7_assign_57 : decode cX7_assign 57 = .ok (.if_icmp .ge 40, 3) := by decide +kernel
theorem dX7_assign_60 : decode cX7_assign 60 = .ok (.iload_n 1, 1) := by decide +kernel
theorem dX7_assign_61 : decode cX7_assign 61 = .ok (.iload 4, 2) := by decide +kernel
theorem dX7_assign_63 : decode cX7_assign 63 = .ok (.ishr, 1) := by decide +kernel
theorem dX7_assign_64 : decode cX7_assign 64 = .ok (.iconst 1, 1) := by decide +kernel
theorem dX7_assign_65 : decode cX7_assign 65 = .ok (.iand, 1) := by decide +kernel
theorem dX7_assign_66 : decode cX7_assign 66 = .ok (.iconst 1, 1) := by decide +kernel
theorem dX7_assign_67 : decode cX7_assign 67 = .ok (.if_icmp .ne 22, 3) := by decide +kernel
theorem dX7_assign_70 : decode cX7_assign 70 = .ok (.iload_n 3, 1) := by decide +kernel
theorem dX7_assign_71 : decode cX7_assign 71 = .ok (.ifCond .lt 13, 3) := by decide +kernel
theorem dX7_assign_74 : decode cX7_assign 74 = .ok (.aload_n 0, 1) := by decide +kernel
theorem dX7_assign_75 : decode cX7_assign 75 = .ok (.iload 4, 2) := by decide +kernel
theorem dX7_assign_77 : decode cX7_assign 77 = .ok (.iload_n 3, 1) := by decide +kernel
theorem dX7_assign_78 : decode cX7_assign 78 = .ok (.invokevirtual 179, 3) := by decide +kernel
theorem dX7_assign_81 : decode cX7_assign 81 = .ok (.ifCond .eq 8, 3) := by decide +kernel
theorem dX7_assign_84 : decode cX7_assign 84 = .ok (.iload 4, 2) := by decide +kernel
theorem dX7_assign_86 : decode cX7_assign 86 = .ok (.goto 4, 3) := by decide +kernel
theorem dX7_assign_89 : decode cX7_assign 89 = .ok (.iload_n 3, 1) := by decide +kernel
theorem dX7_assign_90 : decode cX7_assign 90 = .ok (.istore_n 3, 1) := by decide +kernel
theorem dX7_assign_91 : decode cX7_assign 91 = .ok (.iinc 4 1, 3) := by decide +kernel
theorem dX7_assign_94 : decode cX7_assign 94 = .ok (.goto (-41), 3) := by decide +kernel
theorem dX7_assign_97 : decode cX7_assign 97 = .ok (.iload_n 1, 1) := by decide +kernel
theorem dX7_assign_98 : decode cX7_assign 98 = .ok (.iconst 1, 1) := by decide +kernel
theorem dX7_assign_99 : decode cX7_assign 99 = .ok (.iload_n 3, 1) := by decide +kernel
theorem dX7_assign_100 : decode cX7_assign 100 = .ok (.ishl, 1) := by decide +kernel
theorem dX7_assign_101 : decode cX7_assign 101 = .ok (.iconst (-1), 1) := by decide +kernel
theorem dX7_assign_102 : decode cX7_assign 102 = .ok (.ixor, 1) := by decide +kernel
theorem dX7_assign_103 : decode cX7_assign 103 = .ok (.iand, 1) := by decide +kernel
theorem dX7_assign_104 : decode cX7_assign 104 = .ok (.istore_n 1, 1) := by decide +kernel
theorem dX7_assign_105 : decode cX7_assign 105 = .ok (.aload_n 0, 1) := by decide +kernel
theorem dX7_assign_106 : decode cX7_assign 106 = .ok (.iload_n 3, 1) := by decide +kernel
theorem dX7_assign_107 : decode cX7_assign 107 = .ok (.invokevirtual 161, 3) := by decide +kernel
theorem dX7_assign_110 : decode cX7_assign 110 = .ok (.istore 4, 2) := by decide +kernel
theorem dX7_assign_112 : decode cX7_assign 112 = .ok (.iload 4, 2) := by decide +kernel
theorem dX7_assign_114 : decode cX7_assign 114 = .ok (.ifCond .lt 13, 3) := by decide +kernel
theorem dX7_assign_117 : decode cX7_assign 117 = .ok (.aload_n 0, 1) := by decide +kernel
theorem dX7_assign_118 : decode cX7_assign 118 = .ok (.iload_n 3, 1) := by decide +kernel
theorem dX7_assign_119 : decode cX7_assign 119 = .ok (.iload 4, 2) := by decide +kernel
theorem dX7_assign_121 : decode cX7_assign 121 = .ok (.invokevirtual 141, 3) := by decide +kernel
theorem dX7_assign_124 : decode cX7_assign 124 = .ok (.iinc 2 1, 3) := by decide +kernel
theorem dX7_assign_127 : decode cX7_assign 127 = .ok (.goto (-83), 3) := by decide +kernel
theorem dX7_assign_130 : decode cX7_assign 130 = .ok (.iload_n 2, 1) := by decide +kernel
theorem dX7_assign_131 : decode cX7_assign 131 = .ok (.ireturn, 1) := by decide +kernel
theorem dX7_assignAll_0 : decode cX7_assignAll 0 = .ok (.aload_n 0, 1) := by decide +kernel
theorem dX7_assignAll_1 : decode cX7_assignAll 1 = .ok (.iconst 0, 1) := by decide +kernel
theorem dX7_assignAll_2 : decode cX7_assignAll 2 = .ok (.putfield 48, 3) := by decide +kernel
theorem dX7_assignAll_5 : decode cX7_assignAll 5 = .ok (.aload_n 0, 1) := by decide +kernel
theorem dX7_assignAll_6 : decode cX7_assignAll 6 = .ok (.invokevirtual 70, 3) := by decide +kernel
theorem dX7_assignAll_9 : decode cX7_assignAll 9 = .ok (.aload_n 0, 1) := by decide +kernel
theorem dX7_assignAll_10 : decode cX7_assignAll 10 = .ok (.invokevirtual 182, 3) := by decide +kernel
theorem dX7_assignAll_13 : decode cX7_assignAll 13 = .ok (.ireturn, 1) := by decide +kernel
theorem dX7_costAssigned_0 : decode cX7_costAssigned 0 = .ok (.aload_n 0, 1) := by decide +kernel
theorem dX7_costAssigned_1 : decode cX7_costAssigned 1 = .ok (.getfield 9, 3) := by decide +kernel
theorem dX7_costAssigned_4 : decode cX7_costAssigned 4 = .ok (.iconst 0, 1) := by decide +kernel
theorem dX7_costAssigned_5 : decode cX7_costAssigned 5 = .ok (.aload_n 0, 1) := by decide +kernel
theorem dX7_costAssigned_6 : decode cX7_costAssigned 6 = .ok (.getfield 13, 3) := by decide +kernel
theorem dX7_costAssigned_9 : decode cX7_costAssigned 9 = .ok (.iconst 0, 1) := by decide +kernel
theorem dX7_costAssigned_10 : decode cX7_costAssigned 10 = .ok (.sipush 162, 3) := by decide +kernel
theorem dX7_costAssigned_13 : decode cX7_costAssigned 13 = .ok (.invokestatic 58, 3) := by decide +kernel
theorem dX7_costAssigned_16 : decode cX7_costAssigned 16 = .ok (.aload_n 0, 1) := by decide +kernel
theorem dX7_costAssigned_17 : decode cX7_costAssigned 17 = .ok (.invokevirtual 182, 3) := by decide +kernel
theorem dX7_costAssigned_20 : decode cX7_costAssigned 20 = .ok (.istore_n 1, 1) := by decide +kernel
theorem dX7_costAssigned_21 : decode cX7_costAssigned 21 = .ok (.aload_n 0, 1) := by decide +kernel
theorem dX7_costAssigned_22 : decode cX7_costAssigned 22 = .ok (.invokevirtual 186, 3) := by decide +kernel
theorem dX7_costAssigned_25 : decode cX7_costAssigned 25 = .ok (.istore_n 2, 1) := by decide +kernel
theorem dX7_costAssigned_26 : decode cX7_costAssigned 26 = .ok (.aload_n 0, 1) := by decide +kernel
theorem dX7_costAssigned_27 : decode cX7_costAssigned 27 = .ok (.getfield 13, 3) := by decide +kernel
theorem dX7_costAssigned_30 : decode cX7_costAssigned 30 = .ok (.iconst 0, 1) := by decide +kernel
theorem dX7_costAssigned_31 : decode cX7_costAssigned 31 = .ok (.aload_n 0, 1) := by decide +kernel
theorem dX7_costAssigned_32 : decode cX7_costAssigned 32 = .ok (.getfield 9, 3) := by decide +kernel
theorem dX7_costAssigned_35 : decode cX7_costAssigned 35 = .ok (.iconst 0, 1) := by decide +kernel
theorem dX7_costAssigned_36 : decode cX7_costAssigned 36 = .ok (.sipush 162, 3) := by decide +kernel
theorem dX7_costAssigned_39 : decode cX7_costAssigned 39 = .ok (.invokestatic 58, 3) := by decide +kernel
theorem dX7_costAssigned_42 : decode cX7_costAssigned 42 = .ok (.iload_n 1, 1) := by decide +kernel
theorem dX7_costAssigned_43 : decode cX7_costAssigned 43 = .ok (.ifCond .ge 7, 3) := by decide +kernel
theorem dX7_costAssigned_46 : decode cX7_costAssigned 46 = .ok (.iconst 0, 1) := by decide +kernel
theorem dX7_costAssigned_47 : decode cX7_costAssigned 47 = .ok (.goto 4, 3) := by decide +kernel
theorem dX7_costAssigned_50 : decode cX7_costAssigned 50 = .ok (.iload_n 2, 1) := by decide +kernel
theorem dX7_costAssigned_51 : decode cX7_costAssigned 51 = .ok (.ireturn, 1) := by decide +kernel
theorem dX7_towGain_0 : decode cX7_towGain 0 = .ok (.aload_n 0, 1) := by decide +kernel
theorem dX7_towGain_1 : decode cX7_towGain 1 = .ok (.aload_n 0, 1) := by decide +kernel
theorem dX7_towGain_2 : decode cX7_towGain 2 = .ok (.iload_n 1, 1) := by decide +kernel
theorem dX7_towGain_3 : decode cX7_towGain 3 = .ok (.iload_n 2, 1) := by decide +kernel
theorem dX7_towGain_4 : decode cX7_towGain 4 = .ok (.invokevirtual 167, 3) := by decide +kernel
theorem dX7_towGain_7 : decode cX7_towGain 7 = .ok (.putfield 48, 3) := by decide +kernel
theorem dX7_towGain_10 : decode cX7_towGain 10 = .ok (.aload_n 0, 1) := by decide +kernel
theorem dX7_towGain_11 : decode cX7_towGain 11 = .ok (.getfield 48, 3) := by decide +kernel
theorem dX7_towGain_14 : decode cX7_towGain 14 = .ok (.ifCond .le 5, 3) := by decide +kernel
theorem dX7_towGain_17 : decode cX7_towGain 17 = .ok (.iconst 0, 1) := by decide +kernel
theorem dX7_towGain_18 : decode cX7_towGain 18 = .ok (.ireturn, 1) := by decide +kernel
theorem dX7_towGain_19 : decode cX7_towGain 19 = .ok (.aload_n 0, 1) := by decide +kernel
theorem dX7_towGain_20 : decode cX7_towGain 20 = .ok (.invokevirtual 189, 3) := by decide +kernel
theorem dX7_towGain_23 : decode cX7_towGain 23 = .ok (.istore_n 3, 1) := by decide +kernel
theorem dX7_towGain_24 : decode cX7_towGain 24 = .ok (.aload_n 0, 1) := by decide +kernel
theorem dX7_towGain_25 : decode cX7_towGain 25 = .ok (.invokevirtual 64, 3) := by decide +kernel
theorem dX7_towGain_28 : decode cX7_towGain 28 = .ok (.aload_n 0, 1) := by decide +kernel
theorem dX7_towGain_29 : decode cX7_towGain 29 = .ok (.iload_n 1, 1) := by decide +kernel
theorem dX7_towGain_30 : decode cX7_towGain 30 = .ok (.iload_n 2, 1) := by decide +kernel
theorem dX7_towGain_31 : decode cX7_towGain 31 = .ok (.invokevirtual 170, 3) := by decide +kernel
theorem dX7_towGain_34 : decode cX7_towGain 34 = .ok (.istore 4, 2) := by decide +kernel
theorem dX7_towGain_36 : decode cX7_towGain 36 = .ok (.aload_n 0, 1) := by decide +kernel
theorem dX7_towGain_37 : decode cX7_towGain 37 = .ok (.invokevirtual 189, 3) := by decide +kernel
theorem dX7_towGain_40 : decode cX7_towGain 40 = .ok (.istore 5, 2) := by decide +kernel
theorem dX7_towGain_42 : decode cX7_towGain 42 = .ok (.aload_n 0, 1) := by decide +kernel
theorem dX7_towGain_43 : decode cX7_towGain 43 = .ok (.getfield 16, 3) := by decide +kernel
theorem dX7_towGain_46 : decode cX7_towGain 46 = .ok (.iconst 0, 1) := by decide +kernel
theorem dX7_towGain_47 : decode cX7_towGain 47 = .ok (.aload_n 0, 1) := by decide +kernel
theorem dX7_towGain_48 : decode cX7_towGain 48 = .ok (.getfield 9, 3) := by decide +kernel
theorem dX7_towGain_51 : decode cX7_towGain 51 = .ok (.iconst 0, 1) := by decide +kernel
theorem dX7_towGain_52 : decode cX7_towGain 52 = .ok (.sipush 162, 3) := by decide +kernel
theorem dX7_towGain_55 : decode cX7_towGain 55 = .ok (.invokestatic 58, 3) := by decide +kernel
theorem dX7_towGain_58 : decode cX7_towGain 58 = .ok (.iload 4, 2) := by decide +kernel
theorem dX7_towGain_60 : decode cX7_towGain 60 = .ok (.ifCond .le 7, 3) := by decide +kernel
theorem dX7_towGain_63 : decode cX7_towGain 63 = .ok (.iconst 0, 1) := by decide +kernel
theorem dX7_towGain_64 : decode cX7_towGain 64 = .ok (.goto 7, 3) := by decide +kernel
theorem dX7_towGain_67 : decode cX7_towGain 67 = .ok (.iload_n 3, 1) := by decide +kernel
theorem dX7_towGain_68 : decode cX7_towGain 68 = .ok (.iload 5, 2) := by decide +kernel
theorem dX7_towGain_70 : decode cX7_towGain 70 = .ok (.isub, 1) := by decide +kernel
theorem dX7_towGain_71 : decode cX7_towGain 71 = .ok (.ireturn, 1) := by decide +kernel
theorem dX7_isMoved_0 : decode cX7_isMoved 0 = .ok (.iconst 0, 1) := by decide +kernel
theorem dX7_isMoved_1 : decode cX7_isMoved 1 = .ok (.istore_n 3, 1) := by decide +kernel
theorem dX7_isMoved_2 : decode cX7_isMoved 2 = .ok (.iconst 0, 1) := by decide +kernel
theorem dX7_isMoved_3 : decode cX7_isMoved 3 = .ok (.istore 4, 2) := by decide +kernel
theorem dX7_isMoved_5 : decode cX7_isMoved 5 = .ok (.iload 4, 2) := by decide +kernel
theorem dX7_isMoved_7 : decode cX7_isMoved 7 = .ok (.iload_n 2, 1) := by decide +kernel
theorem dX7_isMoved_8 : decode cX7_isMoved 8 = .ok (.if_icmp .ge 30, 3) := by decide +kernel
theorem dX7_isMoved_11 : decode cX7_isMoved 11 = .ok (.iload_n 3, 1) := by decide +kernel
theorem dX7_isMoved_12 : decode cX7_isMoved 12 = .ok (.ifCond .ne 14, 3) := by decide +kernel
theorem dX7_isMoved_15 : decode cX7_isMoved 15 = .ok (.aload_n 0, 1) := by decide +kernel
theorem dX7_isMoved_16 : decode cX7_isMoved 16 = .ok (.getfield 25, 3) := by decide +kernel
theorem dX7_isMoved_19 : decode cX7_isMoved 19 = .ok (.iload 4, 2) := by decide +kernel
theorem dX7_isMoved_21 : decode cX7_isMoved 21 = .ok (.iaload, 1) := by decide +kernel
theorem dX7_isMoved_22 : decode cX7_isMoved 22 = .ok (.iload_n 1, 1) := by decide +kernel
theorem dX7_isMoved_23 : decode cX7_isMoved 23 = .ok (.if_icmp .ne 7, 3) := by decide +kernel
theorem dX7_isMoved_26 : decode cX7_isMoved 26 = .ok (.iconst 1, 1) := by decide +kernel
theorem dX7_isMoved_27 : decode cX7_isMoved 27 = .ok (.goto 4, 3) := by decide +kernel
theorem dX7_isMoved_30 : decode cX7_isMoved 30 = .ok (.iconst 0, 1) := by decide +kernel
theorem dX7_isMoved_31 : decode cX7_isMoved 31 = .ok (.istore_n 3, 1) := by decide +kernel
theorem dX7_isMoved_32 : decode cX7_isMoved 32 = .ok (.iinc 4 1, 3) := by decide +kernel
theorem dX7_isMoved_35 : decode cX7_isMoved 35 = .ok (.goto (-30), 3) := by decide +kernel
theorem dX7_isMoved_38 : decode cX7_isMoved 38 = .ok (.iload_n 3, 1) := by decide +kernel
theorem dX7_isMoved_39 : decode cX7_isMoved 39 = .ok (.ireturn, 1) := by decide +kernel
theorem dX7_areOthersGood_0 : decode cX7_areOthersGood 0 = .ok (.iconst 0, 1) := by decide +kernel
theorem dX7_areOthersGood_1 : decode cX7_areOthersGood 1 = .ok (.istore_n 2, 1) := by decide +kernel
theorem dX7_areOthersGood_2 : decode cX7_areOthersGood 2 = .ok (.iload_n 2, 1) := by decide +kernel
theorem dX7_areOthersGood_3 : decode cX7_areOthersGood 3 = .ok (.bipush 20, 2) := by decide +kernel
theorem dX7_areOthersGood_5 : decode cX7_areOthersGood 5 = .ok (.if_icmp .ge 69, 3) := by decide +kernel
theorem dX7_areOthersGood_8 : decode cX7_areOthersGood 8 = .ok (.aload_n 0, 1) := by decide +kernel
theorem dX7_areOthersGood_9 : decode cX7_areOthersGood 9 = .ok (.iload_n 2, 1) := by decide +kernel
theorem dX7_areOthersGood_10 : decode cX7_areOthersGood 10 = .ok (.invokevirtual 97, 3) := by decide +kernel
theorem dX7_areOthersGood_13 : decode cX7_areOthersGood 13 = .ok (.ifCond .eq 55, 3) := by decide +kernel
theorem dX7_areOthersGood_16 : decode cX7_areOthersGood 16 = .ok (.aload_n 0, 1) := by decide +kernel
theorem dX7_areOthersGood_17 : decode cX7_areOthersGood 17 = .ok (.iload_n 2, 1) := by decide +kernel
theorem dX7_areOthersGood_18 : decode cX7_areOthersGood 18 = .ok (.iload_n 1, 1) := by decide +kernel
theorem dX7_areOthersGood_19 : decode cX7_areOthersGood 19 = .ok (.invokevirtual 192, 3) := by decide +kernel
theorem dX7_areOthersGood_22 : decode cX7_areOthersGood 22 = .ok (.ifCond .ne 46, 3) := by decide +kernel
theorem dX7_areOthersGood_25 : decode cX7_areOthersGood 25 = .ok (.aload_n 0, 1) := by decide +kernel
theorem dX7_areOthersGood_26 : decode cX7_areOthersGood 26 = .ok (.iload_n 2, 1) := by decide +kernel
theorem dX7_areOthersGood_27 : decode cX7_areOthersGood 27 = .ok (.invokevirtual 125, 3) := by decide +kernel
theorem dX7_areOthersGood_30 : decode cX7_areOthersGood 30 = .ok (.ifCond .eq 5, 3) := by decide +kernel
theorem dX7_areOthersGood_33 : decode cX7_areOthersGood 33 = .ok (.iconst 0, 1) := by decide +kernel
theorem dX7_areOthersGood_34 : decode cX7_areOthersGood 34 = .ok (.ireturn, 1) := by decide +kernel
theorem dX7_areOthersGood_35 : decode cX7_areOthersGood 35 = .ok (.iconst 0, 1) := by decide +kernel
theorem dX7_areOthersGood_36 : decode cX7_areOthersGood 36 = .ok (.istore_n 3, 1) := by decide +kernel
theorem dX7_areOthersGood_37 : decode cX7_areOthersGood 37 = .ok (.iload_n 3, 1) := by decide +kernel
theorem dX7_areOthersGood_38 : decode cX7_areOthersGood 38 = .ok (.iload_n 2, 1) := by decide +kernel
theorem dX7_areOthersGood_39 : decode cX7_areOthersGood 39 = .ok (.if_icmp .ge 29, 3) := by decide +kernel
theorem dX7_areOthersGood_42 : decode cX7_areOthersGood 42 = .ok (.aload_n 0, 1) := by decide +kernel
theorem dX7_areOthersGood_43 : decode cX7_areOthersGood 43 = .ok (.iload_n 3, 1) := by decide +kernel
theorem dX7_areOthersGood_44 : decode cX7_areOthersGood 44 = .ok (.iload_n 1, 1) := by decide +kernel
theorem dX7_areOthersGood_45 : decode cX7_areOthersGood 45 = .ok (.invokevirtual 192, 3) := by decide +kernel
theorem dX7_areOthersGood_48 : decode cX7_areOthersGood 48 = .ok (.ifCond .ne 14, 3) := by decide +kernel
theorem dX7_areOthersGood_51 : decode cX7_areOthersGood 51 = .ok (.aload_n 0, 1) := by decide +kernel
theorem dX7_areOthersGood_52 : decode cX7_areOthersGood 52 = .ok (.iload_n 2, 1) := by decide +kernel
theorem dX7_areOthersGood_53 : decode cX7_areOthersGood 53 = .ok (.iload_n 3, 1) := by decide +kernel
theorem dX7_areOthersGood_54 : decode cX7_areOthersGood 54 = .ok (.invokevirtual 109, 3) := by decide +kernel
theorem dX7_areOthersGood_57 : decode cX7_areOthersGood 57 = .ok (.ifCond .eq 5, 3) := by decide +kernel
theorem dX7_areOthersGood_60 : decode cX7_areOthersGood 60 = .ok (.iconst 0, 1) := by decide +kernel
theorem dX7_areOthersGood_61 : decode cX7_areOthersGood 61 = .ok (.ireturn, 1) := by decide +kernel
theorem dX7_areOthersGood_62 : decode cX7_areOthersGood 62 = .ok (.iinc 3 1, 3) := by decide +kernel
theorem dX7_areOthersGood_65 : decode cX7_areOthersGood 65 = .ok (.goto (-28), 3) := by decide +kernel
theorem dX7_areOthersGood_68 : decode cX7_areOthersGood 68 = .ok (.iinc 2 1, 3) := by decide +kernel
theorem dX7_areOthersGood_71 : decode cX7_areOthersGood 71 = .ok (.goto (-69), 3) := by decide +kernel
theorem dX7_areOthersGood_74 : decode cX7_areOthersGood 74 = .ok (.iconst 1, 1) := by decide +kernel
theorem dX7_areOthersGood_75 : decode cX7_areOthersGood 75 = .ok (.ireturn, 1) := by decide +kernel
theorem dX7_areMovedGood_0 : decode cX7_areMovedGood 0 = .ok (.iconst 0, 1) := by decide +kernel
theorem dX7_areMovedGood_1 : decode cX7_areMovedGood 1 = .ok (.istore_n 2, 1) := by decide +kernel
theorem dX7_areMovedGood_2 : decode cX7_areMovedGood 2 = .ok (.iload_n 2, 1) := by decide +kernel
theorem dX7_areMovedGood_3 : decode cX7_areMovedGood 3 = .ok (.iload_n 1, 1) := by decide +kernel
theorem dX7_areMovedGood_4 : decode cX7_areMovedGood 4 = .ok (.if_icmp .ge 37, 3) := by decide +kernel
theorem dX7_areMovedGood_7 : decode cX7_areMovedGood 7 = .ok (.aload_n 0, 1) := by decide +kernel
theorem dX7_areMovedGood_8 : decode cX7_areMovedGood 8 = .ok (.aload_n 0, 1) := by decide +kernel
theorem dX7_areMovedGood_9 : decode cX7_areMovedGood 9 = .ok (.getfield 25, 3) := by decide +kernel
theorem dX7_areMovedGood_12 : decode cX7_areMovedGood 12 = .ok (.iload_n 2, 1) := by decide +kernel
theorem dX7_areMovedGood_13 : decode cX7_areMovedGood 13 = .ok (.iaload, 1) := by decide +kernel
theorem dX7_areMovedGood_14 : decode cX7_areMovedGood 14 = .ok (.invokevirtual 125, 3) := by decide +kernel
theorem dX7_areMovedGood_17 : decode cX7_areMovedGood 17 = .ok (.ifCond .ne 16, 3) := by decide +kernel
theorem dX7_areMovedGood_20 : decode cX7_areMovedGood 20 = .ok (.aload_n 0, 1) := by decide +kernel
theorem dX7_areMovedGood_21 : decode cX7_areMovedGood 21 = .ok (.aload_n 0, 1) := by decide +kernel
theorem dX7_areMovedGood_22 : decode cX7_areMovedGood 22 = .ok (.getfield 25, 3) := by decide +kernel
theorem dX7_areMovedGood_25 : decode cX7_areMovedGood 25 = .ok (.iload_n 2, 1) := by decide +kernel
theorem dX7_areMovedGood_26 : decode cX7_areMovedGood 26 = .ok (.iaload, 1) := by decide +kernel
theorem dX7_areMovedGood_27 : decode cX7_areMovedGood 27 = .ok (.invokevirtual 128, 3) := by decide +kernel
theorem dX7_areMovedGood_30 : decode cX7_areMovedGood 30 = .ok (.ifCond .eq 5, 3) := by decide +kernel
theorem dX7_areMovedGood_33 : decode cX7_areMovedGood 33 = .ok (.iconst 0, 1) := by decide +kernel
theorem dX7_areMovedGood_34 : decode cX7_areMovedGood 34 = .ok (.ireturn, 1) := by decide +kernel
theorem dX7_areMovedGood_35 : decode cX7_areMovedGood 35 = .ok (.iinc 2 1, 3) := by decide +kernel
theorem dX7_areMovedGood_38 : decode cX7_areMovedGood 38 = .ok (.goto (-36), 3) := by decide +kernel
theorem dX7_areMovedGood_41 : decode cX7_areMovedGood 41 = .ok (.iconst 1, 1) := by decide +kernel
theorem dX7_areMovedGood_42 : decode cX7_areMovedGood 42 = .ok (.ireturn, 1) := by decide +kernel
theorem dX7_fits_0 : decode cX7_fits 0 = .ok (.iload_n 1, 1) := by decide +kernel
theorem dX7_fits_1 : decode cX7_fits 1 = .ok (.iload_n 2, 1) := by decide +kernel
theorem dX7_fits_2 : decode cX7_fits 2 = .ok (.if_icmp .ne 9, 3) := by decide +kernel
theorem dX7_fits_5 : decode cX7_fits 5 = .ok (.aload_n 0, 1) := by decide +kernel
theorem dX7_fits_6 : decode cX7_fits 6 = .ok (.iload_n 2, 1) := by decide +kernel
theorem dX7_fits_7 : decode cX7_fits 7 = .ok (.invokevirtual 195, 3) := by decide +kernel
theorem dX7_fits_10 : decode cX7_fits 10 = .ok (.ireturn, 1) := by decide +kernel
theorem dX7_fits_11 : decode cX7_fits 11 = .ok (.aload_n 0, 1) := by decide +kernel
theorem dX7_fits_12 : decode cX7_fits 12 = .ok (.aload_n 0, 1) := by decide +kernel
theorem dX7_fits_13 : decode cX7_fits 13 = .ok (.getfield 25, 3) := by decide +kernel
theorem dX7_fits_16 : decode cX7_fits 16 = .ok (.iload_n 1, 1) := by decide +kernel
theorem dX7_fits_17 : decode cX7_fits 17 = .ok (.iaload, 1) := by decide +kernel
theorem dX7_fits_18 : decode cX7_fits 18 = .ok (.invokevirtual 94, 3) := by decide +kernel
theorem dX7_fits_21 : decode cX7_fits 21 = .ok (.istore_n 3, 1) := by decide +kernel
theorem dX7_fits_22 : decode cX7_fits 22 = .ok (.iconst 0, 1) := by decide +kernel
theorem dX7_fits_23 : decode cX7_fits 23 = .ok (.istore 4, 2) := by decide +kernel
theorem dX7_fits_25 : decode cX7_fits 25 = .ok (.iload 4, 2) := by decide +kernel
theorem dX7_fits_27 : decode cX7_fits 27 = .ok (.aload_n 0, 1) := by decide +kernel
theorem dX7_fits_28 : decode cX7_fits 28 = .ok (.getfield 9, 3) := by decide +kernel
theorem dX7_fits_31 : decode cX7_fits 31 = .ok (.iconst 0, 1) := by decide +kernel
theorem dX7_fits_32 : decode cX7_fits 32 = .ok (.iaload, 1) := by decide +kernel
theorem dX7_fits_33 : decode cX7_fits 33 = .ok (.if_icmp .ge 59, 3) := by decide +kernel
theorem dX7_fits_36 : decode cX7_fits 36 = .ok (.iload 4, 2) := by decide +kernel
theorem dX7_fits_38 : decode cX7_fits 38 = .ok (.iload_n 3, 1) := by decide +kernel
theorem dX7_fits_39 : decode cX7_fits 39 = .ok (.if_icmp .eq 47, 3) := by decide +kernel
theorem dX7_fits_42 : decode cX7_fits 42 = .ok (.aload_n 0, 1) := by decide +kernel
theorem dX7_fits_43 : decode cX7_fits 43 = .ok (.aload_n 0, 1) := by decide +kernel
theorem dX7_fits_44 : decode cX7_fits 44 = .ok (.getfield 25, 3) := by decide +kernel
theorem dX7_fits_47 : decode cX7_fits 47 = .ok (.iload_n 1, 1) := by decide +kernel
theorem dX7_fits_48 : decode cX7_fits 48 = .ok (.iaload, 1) := by decide +kernel
theorem dX7_fits_49 : decode cX7_fits 49 = .ok (.iload 4, 2) := by decide +kernel
theorem dX7_fits_51 : decode cX7_fits 51 = .ok (.invokevirtual 141, 3) := by decide +kernel
theorem dX7_fits_54 : decode cX7_fits 54 = .ok (.aload_n 0, 1) := by decide +kernel
theorem dX7_fits_55 : decode cX7_fits 55 = .ok (.getfield 28, 3) := by decide +kernel
theorem dX7_fits_58 : decode cX7_fits 58 = .ok (.iload_n 1, 1) := by decide +kernel
theorem dX7_fits_59 : decode cX7_fits 59 = .ok (.iload 4, 2) := by decide +kernel
theorem dX7_fits_61 : decode cX7_fits 61 = .ok (.iastore, 1) := by decide +kernel
theorem dX7_fits_62 : decode cX7_fits 62 = .ok (.aload_n 0, 1) := by decide +kernel
theorem dX7_fits_63 : decode cX7_fits 63 = .ok (.iload_n 1, 1) := by decide +kernel
theorem dX7_fits_64 : decode cX7_fits 64 = .ok (.iconst 1, 1) := by decide +kernel
theorem dX7_fits_65 : decode cX7_fits 65 = .ok (.iadd, 1) := by decide +kernel
theorem dX7_fits_66 : decode cX7_fits 66 = .ok (.iload_n 2, 1) := by decide +kernel
theorem dX7_fits_67 : decode cX7_fits 67 = .ok (.invokevirtual 198, 3) := by decide +kernel
theorem dX7_fits_70 : decode cX7_fits 70 = .ok (.ifCond .eq 16, 3) := by decide +kernel
theorem dX7_fits_73 : decode cX7_fits 73 = .ok (.aload_n 0, 1) := by decide +kernel
theorem dX7_fits_74 : decode cX7_fits 74 = .ok (.aload_n 0, 1) := by decide +kernel
theorem dX7_fits_75 : decode cX7_fits 75 = .ok (.getfield 25, 3) := by decide +kernel
theorem dX7_fits_78 : decode cX7_fits 78 = .ok (.iload_n 1, 1) := by decide +kernel
theorem dX7_fits_79 : decode cX7_fits 79 = .ok (.iaload, 1) := by decide +kernel
theorem dX7_fits_80 : decode cX7_fits 80 = .ok (.iload_n 3, 1) := by decide +kernel
theorem dX7_fits_81 : decode cX7_fits 81 = .ok (.invokevirtual 141, 3) := by decide +kernel
theorem dX7_fits_84 : decode cX7_fits 84 = .ok (.iconst 1, 1) := by decide +kernel
theorem dX7_fits_85 : decode cX7_fits 85 = .ok (.ireturn, 1) := by decide +kernel
theorem dX7_fits_86 : decode cX7_fits 86 = .ok (.iinc 4 1, 3) := by decide +kernel
theorem dX7_fits_89 : decode cX7_fits 89 = .ok (.goto (-64), 3) := by decide +kernel
theorem dX7_fits_92 : decode cX7_fits 92 = .ok (.aload_n 0, 1) := by decide +kernel
theorem dX7_fits_93 : decode cX7_fits 93 = .ok (.aload_n 0, 1) := by decide +kernel
theorem dX7_fits_94 : decode cX7_fits 94 = .ok (.getfield 25, 3) := by decide +kernel
theorem dX7_fits_97 : decode cX7_fits 97 = .ok (.iload_n 1, 1) := by decide +kernel
theorem dX7_fits_98 : decode cX7_fits 98 = .ok (.iaload, 1) := by decide +kernel
theorem dX7_fits_99 : decode cX7_fits 99 = .ok (.iload_n 3, 1) := by decide +kernel
theorem dX7_fits_100 : decode cX7_fits 100 = .ok (.invokevirtual 141, 3) := by decide +kernel
theorem dX7_fits_103 : decode cX7_fits 103 = .ok (.iconst 0, 1) := by decide +kernel
theorem dX7_fits_104 : decode cX7_fits 104 = .ok (.ireturn, 1) := by decide +kernel
theorem dX7_finds_0 : decode cX7_finds 0 = .ok (.iload_n 1, 1) := by decide +kernel
theorem dX7_finds_1 : decode cX7_finds 1 = .ok (.iload_n 2, 1) := by decide +kernel
theorem dX7_finds_2 : decode cX7_finds 2 = .ok (.if_icmp .ne 26, 3) := by decide +kernel
theorem dX7_finds_5 : decode cX7_finds 5 = .ok (.aload_n 0, 1) := by decide +kernel
theorem dX7_finds_6 : decode cX7_finds 6 = .ok (.iload_n 2, 1) := by decide +kernel
theorem dX7_finds_7 : decode cX7_finds 7 = .ok (.invokevirtual 201, 3) := by decide +kernel
theorem dX7_finds_10 : decode cX7_finds 10 = .ok (.ifCond .eq 16, 3) := by decide +kernel
theorem dX7_finds_13 : decode cX7_finds 13 = .ok (.aload_n 0, 1) := by decide +kernel
theorem dX7_finds_14 : decode cX7_finds 14 = .ok (.iconst 0, 1) := by decide +kernel
theorem dX7_finds_15 : decode cX7_finds 15 = .ok (.iload_n 2, 1) := by decide +kernel
theorem dX7_finds_16 : decode cX7_finds 16 = .ok (.invokevirtual 198, 3) := by decide +kernel
theorem dX7_finds_19 : decode cX7_finds 19 = .ok (.ifCond .eq 7, 3) := by decide +kernel
theorem dX7_finds_22 : decode cX7_finds 22 = .ok (.iconst 1, 1) := by decide +kernel
theorem dX7_finds_23 : decode cX7_finds 23 = .ok (.goto 4, 3) := by decide +kernel
theorem dX7_finds_26 : decode cX7_finds 26 = .ok (.iconst 0, 1) := by decide +kernel
theorem dX7_finds_27 : decode cX7_finds 27 = .ok (.ireturn, 1) := by decide +kernel
theorem dX7_finds_28 : decode cX7_finds 28 = .ok (.iload_n 3, 1) := by decide +kernel
theorem dX7_finds_29 : decode cX7_finds 29 = .ok (.istore 4, 2) := by decide +kernel
theorem dX7_finds_31 : decode cX7_finds 31 = .ok (.iload 4, 2) := by decide +kernel
theorem dX7_finds_33 : decode cX7_finds 33 = .ok (.bipush 20, 2) := by decide +kernel
theorem dX7_finds_35 : decode cX7_finds 35 = .ok (.if_icmp .ge 43, 3) := by decide +kernel
theorem dX7_finds_38 : decode cX7_finds 38 = .ok (.aload_n 0, 1) := by decide +kernel
theorem dX7_finds_39 : decode cX7_finds 39 = .ok (.iload 4, 2) := by decide +kernel
theorem dX7_finds_41 : decode cX7_finds 41 = .ok (.invokevirtual 97, 3) := by decide +kernel
theorem dX7_finds_44 : decode cX7_finds 44 = .ok (.ifCond .eq 28, 3) := by decide +kernel
theorem dX7_finds_47 : decode cX7_finds 47 = .ok (.aload_n 0, 1) := by decide +kernel
theorem dX7_finds_48 : decode cX7_finds 48 = .ok (.getfield 25, 3) := by decide +kernel
theorem dX7_finds_51 : decode cX7_finds 51 = .ok (.iload_n 1, 1) := by decide +kernel
theorem dX7_finds_52 : decode cX7_finds 52 = .ok (.iload 4, 2) := by decide +kernel
theorem dX7_finds_54 : decode cX7_finds 54 = .ok (.iastore, 1) := by decide +kernel
theorem dX7_finds_55 : decode cX7_finds 55 = .ok (.aload_n 0, 1) := by decide +kernel
theorem dX7_finds_56 : decode cX7_finds 56 = .ok (.iload_n 1, 1) := by decide +kernel
theorem dX7_finds_57 : decode cX7_finds 57 = .ok (.iconst 1, 1) := by decide +kernel
theorem dX7_finds_58 : decode cX7_finds 58 = .ok (.iadd, 1) := by decide +kernel
theorem dX7_finds_59 : decode cX7_finds 59 = .ok (.iload_n 2, 1) := by decide +kernel
theorem dX7_finds_60 : decode cX7_finds 60 = .ok (.iload 4, 2) := by decide +kernel
theorem dX7_finds_62 : decode cX7_finds 62 = .ok (.iconst 1, 1) := by decide +kernel
theorem dX7_finds_63 : decode cX7_finds 63 = .ok (.iadd, 1) := by decide +kernel
theorem dX7_finds_64 : decode cX7_finds 64 = .ok (.invokevirtual 204, 3) := by decide +kernel
theorem dX7_finds_67 : decode cX7_finds 67 = .ok (.ifCond .eq 5, 3) := by decide +kernel
theorem dX7_finds_70 : decode cX7_finds 70 = .ok (.iconst 1, 1) := by decide +kernel
theorem dX7_finds_71 : decode cX7_finds 71 = .ok (.ireturn, 1) := by decide +kernel
theorem dX7_finds_72 : decode cX7_finds 72 = .ok (.iinc 4 1, 3) := by decide +kernel
theorem dX7_finds_75 : decode cX7_finds 75 = .ok (.goto (-44), 3) := by decide +kernel
theorem dX7_finds_78 : decode cX7_finds 78 = .ok (.iconst 0, 1) := by decide +kernel
theorem dX7_finds_79 : decode cX7_finds 79 = .ok (.ireturn, 1) := by decide +kernel
theorem dX7_findRepair_0 : decode cX7_findRepair 0 = .ok (.iconst 0, 1) := by decide +kernel
theorem dX7_findRepair_1 : decode cX7_findRepair 1 = .ok (.istore_n 1, 1) := by decide +kernel
theorem dX7_findRepair_2 : decode cX7_findRepair 2 = .ok (.iload_n 1, 1) := by decide +kernel
theorem dX7_findRepair_3 : decode cX7_findRepair 3 = .ok (.iconst 3, 1) := by decide +kernel
theorem dX7_findRepair_4 : decode cX7_findRepair 4 = .ok (.if_icmp .gt 21, 3) := by decide +kernel
theorem dX7_findRepair_7 : decode cX7_findRepair 7 = .ok (.aload_n 0, 1) := by decide +kernel
theorem dX7_findRepair_8 : decode cX7_findRepair 8 = .ok (.iconst 0, 1) := by decide +kernel
theorem dX7_findRepair_9 : decode cX7_findRepair 9 = .ok (.iload_n 1, 1) := by decide +kernel
theorem dX7_findRepair_10 : decode cX7_findRepair 10 = .ok (.iconst 0, 1) := by decide +kernel
theorem dX7_findRepair_11 : decode cX7_findRepair 11 = .ok (.invokevirtual 204, 3) := by decide +kernel
theorem dX7_findRepair_14 : decode cX7_findRepair 14 = .ok (.ifCond .eq 5, 3) := by decide +kernel
theorem dX7_findRepair_17 : decode cX7_findRepair 17 = .ok (.iload_n 1, 1) := by decide +kernel
theorem dX7_findRepair_18 : decode cX7_findRepair 18 = .ok (.ireturn, 1) := by decide +kernel
theorem dX7_findRepair_19 : decode cX7_findRepair 19 = .ok (.iinc 1 1, 3) := by decide +kernel
theorem dX7_findRepair_22 : decode cX7_findRepair 22 = .ok (.goto (-20), 3) := by decide +kernel
theorem dX7_findRepair_25 : decode cX7_findRepair 25 = .ok (.iconst (-1), 1) := by decide +kernel
theorem dX7_findRepair_26 : decode cX7_findRepair 26 = .ok (.ireturn, 1) := by decide +kernel
theorem dX7_leastMoves_0 : decode cX7_leastMoves 0 = .ok (.aload_n 0, 1) := by decide +kernel
theorem dX7_leastMoves_1 : decode cX7_leastMoves 1 = .ok (.invokevirtual 207, 3) := by decide +kernel
theorem dX7_leastMoves_4 : decode cX7_leastMoves 4 = .ok (.istore_n 1, 1) := by decide +kernel
theorem dX7_leastMoves_5 : decode cX7_leastMoves 5 = .ok (.aload_n 0, 1) := by decide +kernel
theorem dX7_leastMoves_6 : decode cX7_leastMoves 6 = .ok (.iload_n 1, 1) := by decide +kernel
theorem dX7_leastMoves_7 : decode cX7_leastMoves 7 = .ok (.ifCond .ge 7, 3) := by decide +kernel
theorem dX7_leastMoves_10 : decode cX7_leastMoves 10 = .ok (.iconst 1, 1) := by decide +kernel
theorem dX7_leastMoves_11 : decode cX7_leastMoves 11 = .ok (.goto 4, 3) := by decide +kernel
theorem dX7_leastMoves_14 : decode cX7_leastMoves 14 = .ok (.iconst 0, 1) := by decide +kernel
theorem dX7_leastMoves_15 : decode cX7_leastMoves 15 = .ok (.putfield 48, 3) := by decide +kernel
theorem dX7_leastMoves_18 : decode cX7_leastMoves 18 = .ok (.aload_n 0, 1) := by decide +kernel
theorem dX7_leastMoves_19 : decode cX7_leastMoves 19 = .ok (.getfield 48, 3) := by decide +kernel
theorem dX7_leastMoves_22 : decode cX7_leastMoves 22 = .ok (.ifCond .le 7, 3) := by decide +kernel
theorem dX7_leastMoves_25 : decode cX7_leastMoves 25 = .ok (.iconst 0, 1) := by decide +kernel
theorem dX7_leastMoves_26 : decode cX7_leastMoves 26 = .ok (.goto 4, 3) := by decide +kernel
theorem dX7_leastMoves_29 : decode cX7_leastMoves 29 = .ok (.iload_n 1, 1) := by decide +kernel
theorem dX7_leastMoves_30 : decode cX7_leastMoves 30 = .ok (.ireturn, 1) := by decide +kernel
theorem dX7_leastAgain_0 : decode cX7_leastAgain 0 = .ok (.aload_n 0, 1) := by decide +kernel
theorem dX7_leastAgain_1 : decode cX7_leastAgain 1 = .ok (.invokevirtual 210, 3) := by decide +kernel
theorem dX7_leastAgain_4 : decode cX7_leastAgain 4 = .ok (.ireturn, 1) := by decide +kernel
theorem dX7_moveOf_0 : decode cX7_moveOf 0 = .ok (.aload_n 0, 1) := by decide +kernel
theorem dX7_moveOf_1 : decode cX7_moveOf 1 = .ok (.invokevirtual 207, 3) := by decide +kernel
theorem dX7_moveOf_4 : decode cX7_moveOf 4 = .ok (.istore_n 3, 1) := by decide +kernel
theorem dX7_moveOf_5 : decode cX7_moveOf 5 = .ok (.aload_n 0, 1) := by decide +kernel
theorem dX7_moveOf_6 : decode cX7_moveOf 6 = .ok (.iload_n 1, 1) := by decide +kernel
theorem dX7_moveOf_7 : decode cX7_moveOf 7 = .ok (.iconst 0, 1) := by decide +kernel
theorem dX7_moveOf_8 : decode cX7_moveOf 8 = .ok (.iload_n 3, 1) := by decide +kernel
theorem dX7_moveOf_9 : decode cX7_moveOf 9 = .ok (.iconst 1, 1) := by decide +kernel
theorem dX7_moveOf_10 : decode cX7_moveOf 10 = .ok (.isub, 1) := by decide +kernel
theorem dX7_moveOf_11 : decode cX7_moveOf 11 = .ok (.invokestatic 51, 3) := by decide +kernel
theorem dX7_moveOf_14 : decode cX7_moveOf 14 = .ok (.ifCond .eq 7, 3) := by decide +kernel
theorem dX7_moveOf_17 : decode cX7_moveOf 17 = .ok (.iconst 0, 1) := by decide +kernel
theorem dX7_moveOf_18 : decode cX7_moveOf 18 = .ok (.goto 4, 3) := by decide +kernel
theorem dX7_moveOf_21 : decode cX7_moveOf 21 = .ok (.iconst 1, 1) := by decide +kernel
theorem dX7_moveOf_22 : decode cX7_moveOf 22 = .ok (.putfield 48, 3) := by decide +kernel
theorem dX7_moveOf_25 : decode cX7_moveOf 25 = .ok (.aload_n 0, 1) := by decide +kernel
theorem dX7_moveOf_26 : decode cX7_moveOf 26 = .ok (.getfield 48, 3) := by decide +kernel
theorem dX7_moveOf_29 : decode cX7_moveOf 29 = .ok (.ifCond .le 7, 3) := by decide +kernel
theorem dX7_moveOf_32 : decode cX7_moveOf 32 = .ok (.iconst 0, 1) := by decide +kernel
theorem dX7_moveOf_33 : decode cX7_moveOf 33 = .ok (.goto 22, 3) := by decide +kernel
theorem dX7_moveOf_36 : decode cX7_moveOf 36 = .ok (.iload_n 2, 1) := by decide +kernel
theorem dX7_moveOf_37 : decode cX7_moveOf 37 = .ok (.ifCond .eq 12, 3) := by decide +kernel
theorem dX7_moveOf_40 : decode cX7_moveOf 40 = .ok (.aload_n 0, 1) := by decide +kernel
theorem dX7_moveOf_41 : decode cX7_moveOf 41 = .ok (.getfield 28, 3) := by decide +kernel
theorem dX7_moveOf_44 : decode cX7_moveOf 44 = .ok (.iload_n 1, 1) := by decide +kernel
theorem dX7_moveOf_45 : decode cX7_moveOf 45 = .ok (.iaload, 1) := by decide +kernel
theorem dX7_moveOf_46 : decode cX7_moveOf 46 = .ok (.goto 9, 3) := by decide +kernel
theorem dX7_moveOf_49 : decode cX7_moveOf 49 = .ok (.aload_n 0, 1) := by decide +kernel
theorem dX7_moveOf_50 : decode cX7_moveOf 50 = .ok (.getfield 25, 3) := by decide +kernel
theorem dX7_moveOf_53 : decode cX7_moveOf 53 = .ok (.iload_n 1, 1) := by decide +kernel
theorem dX7_moveOf_54 : decode cX7_moveOf 54 = .ok (.iaload, 1) := by decide +kernel
theorem dX7_moveOf_55 : decode cX7_moveOf 55 = .ok (.ireturn, 1) := by decide +kernel
theorem dX7_repair_0 : decode cX7_repair 0 = .ok (.aload_n 0, 1) := by decide +kernel
theorem dX7_repair_1 : decode cX7_repair 1 = .ok (.invokevirtual 207, 3) := by decide +kernel
theorem dX7_repair_4 : decode cX7_repair 4 = .ok (.istore_n 1, 1) := by decide +kernel
theorem dX7_repair_5 : decode cX7_repair 5 = .ok (.aload_n 0, 1) := by decide +kernel
theorem dX7_repair_6 : decode cX7_repair 6 = .ok (.iload_n 1, 1) := by decide +kernel
theorem dX7_repair_7 : decode cX7_repair 7 = .ok (.ifCond .ge 7, 3) := by decide +kernel
theorem dX7_repair_10 : decode cX7_repair 10 = .ok (.iconst 1, 1) := by decide +kernel
theorem dX7_repair_11 : decode cX7_repair 11 = .ok (.goto 4, 3) := by decide +kernel
theorem dX7_repair_14 : decode cX7_repair 14 = .ok (.iconst 0, 1) := by decide +kernel
theorem dX7_repair_15 : decode cX7_repair 15 = .ok (.putfield 48, 3) := by decide +kernel
theorem dX7_repair_18 : decode cX7_repair 18 = .ok (.aload_n 0, 1) := by decide +kernel
theorem dX7_repair_19 : decode cX7_repair 19 = .ok (.getfield 48, 3) := by decide +kernel
theorem dX7_repair_22 : decode cX7_repair 22 = .ok (.ifCond .le 5, 3) := by decide +kernel
theorem dX7_repair_25 : decode cX7_repair 25 = .ok (.iconst 0, 1) := by decide +kernel
theorem dX7_repair_26 : decode cX7_repair 26 = .ok (.ireturn, 1) := by decide +kernel
theorem dX7_repair_27 : decode cX7_repair 27 = .ok (.aload_n 0, 1) := by decide +kernel
theorem dX7_repair_28 : decode cX7_repair 28 = .ok (.invokevirtual 70, 3) := by decide +kernel
theorem dX7_repair_31 : decode cX7_repair 31 = .ok (.iconst 0, 1) := by decide +kernel
theorem dX7_repair_32 : decode cX7_repair 32 = .ok (.istore_n 2, 1) := by decide +kernel
theorem dX7_repair_33 : decode cX7_repair 33 = .ok (.iload_n 2, 1) := by decide +kernel
theorem dX7_repair_34 : decode cX7_repair 34 = .ok (.iload_n 1, 1) := by decide +kernel
theorem dX7_repair_35 : decode cX7_repair 35 = .ok (.if_icmp .ge 25, 3) := by decide +kernel
theorem dX7_repair_38 : decode cX7_repair 38 = .ok (.aload_n 0, 1) := by decide +kernel
theorem dX7_repair_39 : decode cX7_repair 39 = .ok (.aload_n 0, 1) := by decide +kernel
theorem dX7_repair_40 : decode cX7_repair 40 = .ok (.getfield 25, 3) := by decide +kernel
theorem dX7_repair_43 : decode cX7_repair 43 = .ok (.iload_n 2, 1) := by decide +kernel
theorem dX7_repair_44 : decode cX7_repair 44 = .ok (.iaload, 1) := by decide +kernel
theorem dX7_repair_45 : decode cX7_repair 45 = .ok (.aload_n 0, 1) := by decide +kernel
theorem dX7_repair_46 : decode cX7_repair 46 = .ok (.getfield 28, 3) := by decide +kernel
theorem dX7_repair_49 : decode cX7_repair 49 = .ok (.iload_n 2, 1) := by decide +kernel
theorem dX7_repair_50 : decode cX7_repair 50 = .ok (.iaload, 1) := by decide +kernel
theorem dX7_repair_51 : decode cX7_repair 51 = .ok (.invokevirtual 141, 3) := by decide +kernel
theorem dX7_repair_54 : decode cX7_repair 54 = .ok (.iinc 2 1, 3) := by decide +kernel
theorem dX7_repair_57 : decode cX7_repair 57 = .ok (.goto (-24), 3) := by decide +kernel
theorem dX7_repair_60 : decode cX7_repair 60 = .ok (.aload_n 0, 1) := by decide +kernel
theorem dX7_repair_61 : decode cX7_repair 61 = .ok (.getfield 9, 3) := by decide +kernel
theorem dX7_repair_64 : decode cX7_repair 64 = .ok (.iconst 3, 1) := by decide +kernel
theorem dX7_repair_65 : decode cX7_repair 65 = .ok (.dup2, 1) := by decide +kernel
theorem dX7_repair_66 : decode cX7_repair 66 = .ok (.iaload, 1) := by decide +kernel
theorem dX7_repair_67 : decode cX7_repair 67 = .ok (.iload_n 1, 1) := by decide +kernel
theorem dX7_repair_68 : decode cX7_repair 68 = .ok (.iadd, 1) := by decide +kernel
theorem dX7_repair_69 : decode cX7_repair 69 = .ok (.iastore, 1) := by decide +kernel
theorem dX7_repair_70 : decode cX7_repair 70 = .ok (.iload_n 1, 1) := by decide +kernel
theorem dX7_repair_71 : decode cX7_repair 71 = .ok (.ireturn, 1) := by decide +kernel
theorem dX7_conflicts_0 : decode cX7_conflicts 0 = .ok (.aload_n 0, 1) := by decide +kernel
theorem dX7_conflicts_1 : decode cX7_conflicts 1 = .ok (.iconst 0, 1) := by decide +kernel
theorem dX7_conflicts_2 : decode cX7_conflicts 2 = .ok (.putfield 48, 3) := by decide +kernel
theorem dX7_conflicts_5 : decode cX7_conflicts 5 = .ok (.iconst 0, 1) := by decide +kernel
theorem dX7_conflicts_6 : decode cX7_conflicts 6 = .ok (.istore_n 1, 1) := by decide +kernel
theorem dX7_conflicts_7 : decode cX7_conflicts 7 = .ok (.iconst 0, 1) := by decide +kernel
theorem dX7_conflicts_8 : decode cX7_conflicts 8 = .ok (.istore_n 2, 1) := by decide +kernel
theorem dX7_conflicts_9 : decode cX7_conflicts 9 = .ok (.iload_n 2, 1) := by decide +kernel
theorem dX7_conflicts_10 : decode cX7_conflicts 10 = .ok (.bipush 20, 2) := by decide +kernel
theorem dX7_conflicts_12 : decode cX7_conflicts 12 = .ok (.if_icmp .ge 39, 3) := by decide +kernel
theorem dX7_conflicts_15 : decode cX7_conflicts 15 = .ok (.iconst 0, 1) := by decide +kernel
theorem dX7_conflicts_16 : decode cX7_conflicts 16 = .ok (.istore_n 3, 1) := by decide +kernel
theorem dX7_conflicts_17 : decode cX7_conflicts 17 = .ok (.iload_n 3, 1) := by decide +kernel
theorem dX7_conflicts_18 : decode cX7_conflicts 18 = .ok (.iload_n 2, 1) := by decide +kernel
theorem dX7_conflicts_19 : decode cX7_conflicts 19 = .ok (.if_icmp .ge 26, 3) := by decide +kernel
theorem dX7_conflicts_22 : decode cX7_conflicts 22 = .ok (.iload_n 1, 1) := by decide +kernel
theorem dX7_conflicts_23 : decode cX7_conflicts 23 = .ok (.aload_n 0, 1) := by decide +kernel
theorem dX7_conflicts_24 : decode cX7_conflicts 24 = .ok (.iload_n 2, 1) := by decide +kernel
theorem dX7_conflicts_25 : decode cX7_conflicts 25 = .ok (.iload_n 3, 1) := by decide +kernel
theorem dX7_conflicts_26 : decode cX7_conflicts 26 = .ok (.invokevirtual 109, 3) := by decide +kernel
theorem dX7_conflicts_29 : decode cX7_conflicts 29 = .ok (.ifCond .eq 7, 3) := by decide +kernel
theorem dX7_conflicts_32 : decode cX7_conflicts 32 = .ok (.iconst 1, 1) := by decide +kernel
theorem dX7_conflicts_33 : decode cX7_conflicts 33 = .ok (.goto 4, 3) := by decide +kernel
theorem dX7_conflicts_36 : decode cX7_conflicts 36 = .ok (.iconst 0, 1) := by decide +kernel
theorem dX7_conflicts_37 : decode cX7_conflicts 37 = .ok (.iadd, 1) := by decide +kernel
theorem dX7_conflicts_38 : decode cX7_conflicts 38 = .ok (.istore_n 1, 1) := by decide +kernel
theorem dX7_conflicts_39 : decode cX7_conflicts 39 = .ok (.iinc 3 1, 3) := by decide +kernel
theorem dX7_conflicts_42 : decode cX7_conflicts 42 = .ok (.goto (-25), 3) := by decide +kernel
theorem dX7_conflicts_45 : decode cX7_conflicts 45 = .ok (.iinc 2 1, 3) := by decide +kernel
theorem dX7_conflicts_48 : decode cX7_conflicts 48 = .ok (.goto (-39), 3) := by decide +kernel
theorem dX7_conflicts_51 : decode cX7_conflicts 51 = .ok (.iload_n 1, 1) := by decide +kernel
theorem dX7_conflicts_52 : decode cX7_conflicts 52 = .ok (.ireturn, 1) := by decide +kernel
theorem dX7_tows_0 : decode cX7_tows 0 = .ok (.iconst 0, 1) := by decide +kernel
theorem dX7_tows_1 : decode cX7_tows 1 = .ok (.istore_n 1, 1) := by decide +kernel
theorem dX7_tows_2 : decode cX7_tows 2 = .ok (.iconst 0, 1) := by decide +kernel
theorem dX7_tows_3 : decode cX7_tows 3 = .ok (.istore_n 2, 1) := by decide +kernel
theorem dX7_tows_4 : decode cX7_tows 4 = .ok (.iload_n 2, 1) := by decide +kernel
theorem dX7_tows_5 : decode cX7_tows 5 = .ok (.aload_n 0, 1) := by decide +kernel
theorem dX7_tows_6 : decode cX7_tows 6 = .ok (.getfield 9, 3) := by decide +kernel
theorem dX7_tows_9 : decode cX7_tows 9 = .ok (.iconst 1, 1) := by decide +kernel
theorem dX7_tows_10 : decode cX7_tows 10 = .ok (.iaload, 1) := by decide +kernel
theorem dX7_tows_11 : decode cX7_tows 11 = .ok (.if_icmp .ge 25, 3) := by decide +kernel
theorem dX7_tows_14 : decode cX7_tows 14 = .ok (.iload_n 1, 1) := by decide +kernel
theorem dX7_tows_15 : decode cX7_tows 15 = .ok (.aload_n 0, 1) := by decide +kernel
theorem dX7_tows_16 : decode cX7_tows 16 = .ok (.iload_n 2, 1) := by decide +kernel
theorem dX7_tows_17 : decode cX7_tows 17 = .ok (.invokevirtual 88, 3) := by decide +kernel
theorem dX7_tows_20 : decode cX7_tows 20 = .ok (.ifCond .lt 7, 3) := by decide +kernel
theorem dX7_tows_23 : decode cX7_tows 23 = .ok (.iconst 1, 1) := by decide +kernel
theorem dX7_tows_24 : decode cX7_tows 24 = .ok (.goto 4, 3) := by decide +kernel
theorem dX7_tows_27 : decode cX7_tows 27 = .ok (.iconst 0, 1) := by decide +kernel
theorem dX7_tows_28 : decode cX7_tows 28 = .ok (.iadd, 1) := by decide +kernel
theorem dX7_tows_29 : decode cX7_tows 29 = .ok (.istore_n 1, 1) := by decide +kernel
theorem dX7_tows_30 : decode cX7_tows 30 = .ok (.iinc 2 1, 3) := by decide +kernel
theorem dX7_tows_33 : decode cX7_tows 33 = .ok (.goto (-29), 3) := by decide +kernel
theorem dX7_tows_36 : decode cX7_tows 36 = .ok (.iload_n 1, 1) := by decide +kernel
theorem dX7_tows_37 : decode cX7_tows 37 = .ok (.ireturn, 1) := by decide +kernel
theorem dX7_isRemote_0 : decode cX7_isRemote 0 = .ok (.aload_n 0, 1) := by decide +kernel
theorem dX7_isRemote_1 : decode cX7_isRemote 1 = .ok (.iload_n 1, 1) := by decide +kernel
theorem dX7_isRemote_2 : decode cX7_isRemote 2 = .ok (.invokevirtual 97, 3) := by decide +kernel
theorem dX7_isRemote_5 : decode cX7_isRemote 5 = .ok (.ifCond .eq 23, 3) := by decide +kernel
theorem dX7_isRemote_8 : decode cX7_isRemote 8 = .ok (.aload_n 0, 1) := by decide +kernel
theorem dX7_isRemote_9 : decode cX7_isRemote 9 = .ok (.getfield 9, 3) := by decide +kernel
theorem dX7_isRemote_12 : decode cX7_isRemote 12 = .ok (.iconst 4, 1) := by decide +kernel
theorem dX7_isRemote_13 : decode cX7_isRemote 13 = .ok (.aload_n 0, 1) := by decide +kernel
theorem dX7_isRemote_14 : decode cX7_isRemote 14 = .ok (.iload_n 1, 1) := by decide +kernel
theorem dX7_isRemote_15 : decode cX7_isRemote 15 = .ok (.invokevirtual 94, 3) := by decide +kernel
theorem dX7_isRemote_18 : decode cX7_isRemote 18 = .ok (.iadd, 1) := by decide +kernel
theorem dX7_isRemote_19 : decode cX7_isRemote 19 = .ok (.iaload, 1) := by decide +kernel
theorem dX7_isRemote_20 : decode cX7_isRemote 20 = .ok (.iconst 2, 1) := by decide +kernel
theorem dX7_isRemote_21 : decode cX7_isRemote 21 = .ok (.if_icmp .ne 7, 3) := by decide +kernel
theorem dX7_isRemote_24 : decode cX7_isRemote 24 = .ok (.iconst 1, 1) := by decide +kernel
theorem dX7_isRemote_25 : decode cX7_isRemote 25 = .ok (.goto 4, 3) := by decide +kernel
theorem dX7_isRemote_28 : decode cX7_isRemote 28 = .ok (.iconst 0, 1) := by decide +kernel
theorem dX7_isRemote_29 : decode cX7_isRemote 29 = .ok (.ireturn, 1) := by decide +kernel
theorem dX7_overStays_0 : decode cX7_overStays 0 = .ok (.iconst 0, 1) := by decide +kernel
theorem dX7_overStays_1 : decode cX7_overStays 1 = .ok (.istore_n 2, 1) := by decide +kernel
theorem dX7_overStays_2 : decode cX7_overStays 2 = .ok (.iconst 0, 1) := by decide +kernel
theorem dX7_overStays_3 : decode cX7_overStays 3 = .ok (.istore_n 3, 1) := by decide +kernel
theorem dX7_overStays_4 : decode cX7_overStays 4 = .ok (.iload_n 3, 1) := by decide +kernel
theorem dX7_overStays_5 : decode cX7_overStays 5 = .ok (.bipush 20, 2) := by decide +kernel
theorem dX7_overStays_7 : decode cX7_overStays 7 = .ok (.if_icmp .ge 89, 3) := by decide +kernel
theorem dX7_overStays_10 : decode cX7_overStays 10 = .ok (.aload_n 0, 1) := by decide +kernel
theorem dX7_overStays_11 : decode cX7_overStays 11 = .ok (.iload_n 3, 1) := by decide +kernel
theorem dX7_overStays_12 : decode cX7_overStays 12 = .ok (.invokevirtual 91, 3) := by decide +kernel
theorem dX7_overStays_15 : decode cX7_overStays 15 = .ok (.ifCond .eq 75, 3) := by decide +kernel
theorem dX7_overStays_18 : decode cX7_overStays 18 = .ok (.aload_n 0, 1) := by decide +kernel
theorem dX7_overStays_19 : decode cX7_overStays 19 = .ok (.iload_n 3, 1) := by decide +kernel
theorem dX7_overStays_20 : decode cX7_overStays 20 = .ok (.invokevirtual 106, 3) := by decide +kernel
theorem dX7_overStays_23 : decode cX7_overStays 23 = .ok (.aload_n 0, 1) := by decide +kernel
theorem dX7_overStays_24 : decode cX7_overStays 24 = .ok (.iload_n 3, 1) := by decide +kernel
theorem dX7_overStays_25 : decode cX7_overStays 25 = .ok (.invokevirtual 103, 3) := by decide +kernel
theorem dX7_overStays_28 : decode cX7_overStays 28 = .ok (.isub, 1) := by decide +kernel
theorem dX7_overStays_29 : decode cX7_overStays 29 = .ok (.istore 4, 2) := by decide +kernel
theorem dX7_overStays_31 : decode cX7_overStays 31 = .ok (.iload_n 2, 1) := by decide +kernel
theorem dX7_overStays_32 : decode cX7_overStays 32 = .ok (.iload_n 1, 1) := by decide +kernel
theorem dX7_overStays_33 : decode cX7_overStays 33 = .ok (.bipush 6, 2) := by decide +kernel
theorem dX7_overStays_35 : decode cX7_overStays 35 = .ok (.if_icmp .ne 8, 3) := by decide +kernel
theorem dX7_overStays_38 : decode cX7_overStays 38 = .ok (.iload 4, 2) := by decide +kernel
theorem dX7_overStays_40 : decode cX7_overStays 40 = .ok (.goto 48, 3) := by decide +kernel
theorem dX7_overStays_43 : decode cX7_overStays 43 = .ok (.aload_n 0, 1) := by decide +kernel
theorem dX7_overStays_44 : decode cX7_overStays 44 = .ok (.iload_n 3, 1) := by decide +kernel
theorem dX7_overStays_45 : decode cX7_overStays 45 = .ok (.invokevirtual 97, 3) := by decide +kernel
theorem dX7_overStays_48 : decode cX7_overStays 48 = .ok (.ifCond .ne 7, 3) := by decide +kernel
theorem dX7_overStays_51 : decode cX7_overStays 51 = .ok (.iconst 0, 1) := by decide +kernel
theorem dX7_overStays_52 : decode cX7_overStays 52 = .ok (.goto 36, 3) := by decide +kernel
theorem dX7_overStays_55 : decode cX7_overStays 55 = .ok (.iload_n 1, 1) := by decide +kernel
theorem dX7_overStays_56 : decode cX7_overStays 56 = .ok (.iconst 3, 1) := by decide +kernel
theorem dX7_overStays_57 : decode cX7_overStays 57 = .ok (.if_icmp .ne 7, 3) := by decide +kernel
theorem dX7_overStays_60 : decode cX7_overStays 60 = .ok (.iconst 1, 1) := by decide +kernel
theorem dX7_overStays_61 : decode cX7_overStays 61 = .ok (.goto 27, 3) := by decide +kernel
theorem dX7_overStays_64 : decode cX7_overStays 64 = .ok (.iload_n 1, 1) := by decide +kernel
theorem dX7_overStays_65 : decode cX7_overStays 65 = .ok (.bipush 7, 2) := by decide +kernel
theorem dX7_overStays_67 : decode cX7_overStays 67 = .ok (.if_icmp .ne 8, 3) := by decide +kernel
theorem dX7_overStays_70 : decode cX7_overStays 70 = .ok (.iload 4, 2) := by decide +kernel
theorem dX7_overStays_72 : decode cX7_overStays 72 = .ok (.goto 16, 3) := by decide +kernel
theorem dX7_overStays_75 : decode cX7_overStays 75 = .ok (.aload_n 0, 1) := by decide +kernel
theorem dX7_overStays_76 : decode cX7_overStays 76 = .ok (.iload_n 3, 1) := by decide +kernel
theorem dX7_overStays_77 : decode cX7_overStays 77 = .ok (.invokevirtual 125, 3) := by decide +kernel
theorem dX7_overStays_80 : decode cX7_overStays 80 = .ok (.ifCond .eq 7, 3) := by decide +kernel
theorem dX7_overStays_83 : decode cX7_overStays 83 = .ok (.iconst 1, 1) := by decide +kernel
theorem dX7_overStays_84 : decode cX7_overStays 84 = .ok (.goto 4, 3) := by decide +kernel
theorem dX7_overStays_87 : decode cX7_overStays 87 = .ok (.iconst 0, 1) := by decide +kernel
theorem dX7_overStays_88 : decode cX7_overStays 88 = .ok (.iadd, 1) := by decide +kernel
theorem dX7_overStays_89 : decode cX7_overStays 89 = .ok (.istore_n 2, 1) := by decide +kernel
theorem dX7_overStays_90 : decode cX7_overStays 90 = .ok (.iinc 3 1, 3) := by decide +kernel
theorem dX7_overStays_93 : decode cX7_overStays 93 = .ok (.goto (-89), 3) := by decide +kernel
theorem dX7_overStays_96 : decode cX7_overStays 96 = .ok (.iload_n 2, 1) := by decide +kernel
theorem dX7_overStays_97 : decode cX7_overStays 97 = .ok (.ireturn, 1) := by decide +kernel
theorem dX7_account_0 : decode cX7_account 0 = .ok (.aload_n 0, 1) := by decide +kernel
theorem dX7_account_1 : decode cX7_account 1 = .ok (.iload_n 1, 1) := by decide +kernel
theorem dX7_account_2 : decode cX7_account 2 = .ok (.iconst 0, 1) := by decide +kernel
theorem dX7_account_3 : decode cX7_account 3 = .ok (.bipush 10, 2) := by decide +kernel
theorem dX7_account_5 : decode cX7_account 5 = .ok (.invokestatic 51, 3) := by decide +kernel
theorem dX7_account_8 : decode cX7_account 8 = .ok (.ifCond .eq 7, 3) := by decide +kernel
theorem dX7_account_11 : decode cX7_account 11 = .ok (.iconst 0, 1) := by decide +kernel
theorem dX7_account_12 : decode cX7_account 12 = .ok (.goto 4, 3) := by decide +kernel
theorem dX7_account_15 : decode cX7_account 15 = .ok (.iconst 1, 1) := by decide +kernel
theorem dX7_account_16 : decode cX7_account 16 = .ok (.putfield 48, 3) := by decide +kernel
theorem dX7_account_19 : decode cX7_account 19 = .ok (.aload_n 0, 1) := by decide +kernel
theorem dX7_account_20 : decode cX7_account 20 = .ok (.getfield 48, 3) := by decide +kernel
theorem dX7_account_23 : decode cX7_account 23 = .ok (.ifCond .le 5, 3) := by decide +kernel
theorem dX7_account_26 : decode cX7_account 26 = .ok (.iconst 0, 1) := by decide +kernel
theorem dX7_account_27 : decode cX7_account 27 = .ok (.ireturn, 1) := by decide +kernel
theorem dX7_account_28 : decode cX7_account 28 = .ok (.iload_n 1, 1) := by decide +kernel
theorem dX7_account_29 : decode cX7_account 29 = .ok (.tableswitch 164 0 10 #[59, 66, 73, 164, 85, 90, 164, 164, 164, 95, 102], 59) := by decide +kernel
theorem dX7_account_88 : decode cX7_account 88 = .ok (.aload_n 0, 1) := by decide +kernel
theorem dX7_account_89 : decode cX7_account 89 = .ok (.getfield 9, 3) := by decide +kernel
theorem dX7_account_92 : decode cX7_account 92 = .ok (.iconst 0, 1) := by decide +kernel
theorem dX7_account_93 : decode cX7_account 93 = .ok (.iaload, 1) := by decide +kernel
theorem dX7_account_94 : decode cX7_account 94 = .ok (.ireturn, 1) := by decide +kernel
theorem dX7_account_95 : decode cX7_account 95 = .ok (.aload_n 0, 1) := by decide +kernel
theorem dX7_account_96 : decode cX7_account 96 = .ok (.getfield 9, 3) := by decide +kernel
theorem dX7_account_99 : decode cX7_account 99 = .ok (.iconst 1, 1) := by decide +kernel
theorem dX7_account_100 : decode cX7_account 100 = .ok (.iaload, 1) := by decide +kernel
theorem dX7_account_101 : decode cX7_account 101 = .ok (.ireturn, 1) := by decide +kernel
theorem dX7_account_102 : decode cX7_account 102 = .ok (.aload_n 0, 1) := by decide +kernel
theorem dX7_account_103 : decode cX7_account 103 = .ok (.getfield 9, 3) := by decide +kernel
theorem dX7_account_106 : decode cX7_account 106 = .ok (.iconst 1, 1) := by decide +kernel
theorem dX7_account_107 : decode cX7_account 107 = .ok (.iaload, 1) := by decide +kernel
theorem dX7_account_108 : decode cX7_account 108 = .ok (.aload_n 0, 1) := by decide +kernel
theorem dX7_account_109 : decode cX7_account 109 = .ok (.invokevirtual 213, 3) := by decide +kernel
theorem dX7_account_112 : decode cX7_account 112 = .ok (.iadd, 1) := by decide +kernel
theorem dX7_account_113 : decode cX7_account 113 = .ok (.ireturn, 1) := by decide +kernel
theorem dX7_account_114 : decode cX7_account 114 = .ok (.aload_n 0, 1) := by decide +kernel
theorem dX7_account_115 : decode cX7_account 115 = .ok (.invokevirtual 186, 3) := by decide +kernel
theorem dX7_account_118 : decode cX7_account 118 = .ok (.ireturn, 1) := by decide +kernel
theorem dX7_account_119 : decode cX7_account 119 = .ok (.aload_n 0, 1) := by decide +kernel
theorem dX7_account_120 : decode cX7_account 120 = .ok (.invokevirtual 213, 3) := by decide +kernel
theorem dX7_account_123 : decode cX7_account 123 = .ok (.ireturn, 1) := by decide +kernel
theorem dX7_account_124 : decode cX7_account 124 = .ok (.aload_n 0, 1) := by decide +kernel
theorem dX7_account_125 : decode cX7_account 125 = .ok (.getfield 9, 3) := by decide +kernel
theorem dX7_account_128 : decode cX7_account 128 = .ok (.iconst 3, 1) := by decide +kernel
theorem dX7_account_129 : decode cX7_account 129 = .ok (.iaload, 1) := by decide +kernel
theorem dX7_account_130 : decode cX7_account 130 = .ok (.ireturn, 1) := by decide +kernel
theorem dX7_account_131 : decode cX7_account 131 = .ok (.iconst 0, 1) := by decide +kernel
theorem dX7_account_132 : decode cX7_account 132 = .ok (.istore_n 2, 1) := by decide +kernel
theorem dX7_account_133 : decode cX7_account 133 = .ok (.iconst 0, 1) := by decide +kernel
theorem dX7_account_134 : decode cX7_account 134 = .ok (.istore_n 3, 1) := by decide +kernel
theorem dX7_account_135 : decode cX7_account 135 = .ok (.iload_n 3, 1) := by decide +kernel
theorem dX7_account_136 : decode cX7_account 136 = .ok (.aload_n 0, 1) := by decide +kernel
theorem dX7_account_137 : decode cX7_account 137 = .ok (.getfield 9, 3) := by decide +kernel
theorem dX7_account_140 : decode cX7_account 140 = .ok (.iconst 1, 1) := by decide +kernel
theorem dX7_account_141 : decode cX7_account 141 = .ok (.iaload, 1) := by decide +kernel
theorem dX7_account_142 : decode cX7_account 142 = .ok (.if_icmp .ge 49, 3) := by decide +kernel
theorem dX7_account_145 : decode cX7_account 145 = .ok (.iload_n 2, 1) := by decide +kernel
theorem dX7_account_146 : decode cX7_account 146 = .ok (.aload_n 0, 1) := by decide +kernel
theorem dX7_account_147 : decode cX7_account 147 = .ok (.iconst 2, 1) := by decide +kernel
theorem dX7_account_148 : decode cX7_account 148 = .ok (.iload_n 3, 1) := by decide +kernel
theorem dX7_account_149 : decode cX7_account 149 = .ok (.imul, 1) := by decide +kernel
theorem dX7_account_150 : decode cX7_account 150 = .ok (.invokevirtual 216, 3) := by decide +kernel
theorem dX7_account_153 : decode cX7_account 153 = .ok (.ifCond .ne 15, 3) := by decide +kernel
theorem dX7_account_156 : decode cX7_account 156 = .ok (.aload_n 0, 1) := by decide +kernel
theorem dX7_account_157 : decode cX7_account 157 = .ok (.iconst 2, 1) := by decide +kernel
theorem dX7_account_158 : decode cX7_account 158 = .ok (.iload_n 3, 1) := by decide +kernel
theorem dX7_account_159 : decode cX7_account 159 = .ok (.imul, 1) := by decide +kernel
theorem dX7_account_160 : decode cX7_account 160 = .ok (.iconst 1, 1) := by decide +kernel
theorem dX7_account_161 : decode cX7_account 161 = .ok (.iadd, 1) := by decide +kernel
theorem dX7_account_162 : decode cX7_account 162 = .ok (.invokevirtual 216, 3) := by decide +kernel
theorem dX7_account_165 : decode cX7_account 165 = .ok (.ifCond .eq 17, 3) := by decide +kernel
theorem dX7_account_168 : decode cX7_account 168 = .ok (.aload_n 0, 1) := by decide +kernel
theorem dX7_account_169 : decode cX7_account 169 = .ok (.getfield 9, 3) := by decide +kernel
theorem dX7_account_172 : decode cX7_account 172 = .ok (.iload_n 3, 1) := by decide +kernel
theorem dX7_account_173 : decode cX7_account 173 = .ok (.invokestatic 81, 3) := by decide +kernel
theorem dX7_account_176 : decode cX7_account 176 = .ok (.iconst 3, 1) := by decide +kernel
theorem dX7_account_177 : decode cX7_account 177 = .ok (.iadd, 1) := by decide +kernel
theorem dX7_account_178 : decode cX7_account 178 = .ok (.iaload, 1) := by decide +kernel
theorem dX7_account_179 : decode cX7_account 179 = .ok (.goto 4, 3) := by decide +kernel
theorem dX7_account_182 : decode cX7_account 182 = .ok (.iconst 0, 1) := by decide +kernel
theorem dX7_account_183 : decode cX7_account 183 = .ok (.iadd, 1) := by decide +kernel
theorem dX7_account_184 : decode cX7_account 184 = .ok (.istore_n 2, 1) := by decide +kernel
theorem dX7_account_185 : decode cX7_account 185 = .ok (.iinc 3 1, 3) := by decide +kernel
theorem dX7_account_188 : decode cX7_account 188 = .ok (.goto (-53), 3) := by decide +kernel
theorem dX7_account_191 : decode cX7_account 191 = .ok (.iload_n 2, 1) := by decide +kernel
theorem dX7_account_192 : decode cX7_account 192 = .ok (.ireturn, 1) := by decide +kernel
theorem dX7_account_193 : decode cX7_account 193 = .ok (.aload_n 0, 1) := by decide +kernel
theorem dX7_account_194 : decode cX7_account 194 = .ok (.iload_n 1, 1) := by decide +kernel
theorem dX7_account_195 : decode cX7_account 195 = .ok (.invokevirtual 219, 3) := by decide +kernel
theorem dX7_account_198 : decode cX7_account 198 = .ok (.ireturn, 1) := by decide +kernel
theorem dX7_staysAt_0 : decode cX7_staysAt 0 = .ok (.iconst 0, 1) := by decide +kernel
theorem dX7_staysAt_1 : decode cX7_staysAt 1 = .ok (.istore_n 2, 1) := by decide +kernel
theorem dX7_staysAt_2 : decode cX7_staysAt 2 = .ok (.iconst 0, 1) := by decide +kernel
theorem dX7_staysAt_3 : decode cX7_staysAt 3 = .ok (.istore_n 3, 1) := by decide +kernel
theorem dX7_staysAt_4 : decode cX7_staysAt 4 = .ok (.iload_n 3, 1) := by decide +kernel
theorem dX7_staysAt_5 : decode cX7_staysAt 5 = .ok (.bipush 20, 2) := by decide +kernel
theorem dX7_staysAt_7 : decode cX7_staysAt 7 = .ok (.if_icmp .ge 44, 3) := by decide +kernel
theorem dX7_staysAt_10 : decode cX7_staysAt 10 = .ok (.iload_n 2, 1) := by decide +kernel
theorem dX7_staysAt_11 : decode cX7_staysAt 11 = .ok (.aload_n 0, 1) := by decide +kernel
theorem dX7_staysAt_12 : decode cX7_staysAt 12 = .ok (.iload_n 3, 1) := by decide +kernel
theorem dX7_staysAt_13 : decode cX7_staysAt 13 = .ok (.invokevirtual 97, 3) := by decide +kernel
theorem dX7_staysAt_16 : decode cX7_staysAt 16 = .ok (.ifCond .eq 26, 3) := by decide +kernel
theorem dX7_staysAt_19 : decode cX7_staysAt 19 = .ok (.iload_n 1, 1) := by decide +kernel
theorem dX7_staysAt_20 : decode cX7_staysAt 20 = .ok (.aload_n 0, 1) := by decide +kernel
theorem dX7_staysAt_21 : decode cX7_staysAt 21 = .ok (.iload_n 3, 1) := by decide +kernel
theorem dX7_staysAt_22 : decode cX7_staysAt 22 = .ok (.invokevirtual 103, 3) := by decide +kernel
theorem dX7_staysAt_25 : decode cX7_staysAt 25 = .ok (.aload_n 0, 1) := by decide +kernel
theorem dX7_staysAt_26 : decode cX7_staysAt 26 = .ok (.iload_n 3, 1) := by decide +kernel
theorem dX7_staysAt_27 : decode cX7_staysAt 27 = .ok (.invokevirtual 106, 3) := by decide +kernel
theorem dX7_staysAt_30 : decode cX7_staysAt 30 = .ok (.iconst 1, 1) := by decide +kernel
theorem dX7_staysAt_31 : decode cX7_staysAt 31 = .ok (.isub, 1) := by decide +kernel
theorem dX7_staysAt_32 : decode cX7_staysAt 32 = .ok (.invokestatic 51, 3) := by decide +kernel
theorem dX7_staysAt_35 : decode cX7_staysAt 35 = .ok (.ifCond .eq 7, 3) := by decide +kernel
theorem dX7_staysAt_38 : decode cX7_staysAt 38 = .ok (.iconst 1, 1) := by decide +kernel
theorem dX7_staysAt_39 : decode cX7_staysAt 39 = .ok (.goto 4, 3) := by decide +kernel
theorem dX7_staysAt_42 : decode cX7_staysAt 42 = .ok (.iconst 0, 1) := by decide +kernel
theorem dX7_staysAt_43 : decode cX7_staysAt 43 = .ok (.iadd, 1) := by decide +kernel
theorem dX7_staysAt_44 : decode cX7_staysAt 44 = .ok (.istore_n 2, 1) := by decide +kernel
theorem dX7_staysAt_45 : decode cX7_staysAt 45 = .ok (.iinc 3 1, 3) := by decide +kernel
theorem dX7_staysAt_48 : decode cX7_staysAt 48 = .ok (.goto (-44), 3) := by decide +kernel
theorem dX7_staysAt_51 : decode cX7_staysAt 51 = .ok (.iload_n 2, 1) := by decide +kernel
theorem dX7_staysAt_52 : decode cX7_staysAt 52 = .ok (.ireturn, 1) := by decide +kernel
theorem dX7_minutes_0 : decode cX7_minutes 0 = .ok (.aload_n 0, 1) := by decide +kernel
theorem dX7_minutes_1 : decode cX7_minutes 1 = .ok (.iconst 0, 1) := by decide +kernel
theorem dX7_minutes_2 : decode cX7_minutes 2 = .ok (.putfield 48, 3) := by decide +kernel
theorem dX7_minutes_5 : decode cX7_minutes 5 = .ok (.iconst 0, 1) := by decide +kernel
theorem dX7_minutes_6 : decode cX7_minutes 6 = .ok (.istore_n 1, 1) := by decide +kernel
theorem dX7_minutes_7 : decode cX7_minutes 7 = .ok (.iconst 0, 1) := by decide +kernel
theorem dX7_minutes_8 : decode cX7_minutes 8 = .ok (.istore_n 2, 1) := by decide +kernel
theorem dX7_minutes_9 : decode cX7_minutes 9 = .ok (.iload_n 2, 1) := by decide +kernel
theorem dX7_minutes_10 : decode cX7_minutes 10 = .ok (.sipush 1440, 3) := by decide +kernel
theorem dX7_minutes_13 : decode cX7_minutes 13 = .ok (.if_icmp .ge 17, 3) := by decide +kernel
theorem dX7_minutes_16 : decode cX7_minutes 16 = .ok (.iload_n 1, 1) := by decide +kernel
theorem dX7_minutes_17 : decode cX7_minutes 17 = .ok (.aload_n 0, 1) := by decide +kernel
theorem dX7_minutes_18 : decode cX7_minutes 18 = .ok (.iload_n 2, 1) := by decide +kernel
theorem dX7_minutes_19 : decode cX7_minutes 19 = .ok (.invokevirtual 222, 3) := by decide +kernel
theorem dX7_minutes_22 : decode cX7_minutes 22 = .ok (.iadd, 1) := by decide +kernel
theorem dX7_minutes_23 : decode cX7_minutes 23 = .ok (.istore_n 1, 1) := by decide +kernel
theorem dX7_minutes_24 : decode cX7_minutes 24 = .ok (.iinc 2 1, 3) := by decide +kernel
theorem dX7_minutes_27 : decode cX7_minutes 27 = .ok (.goto (-18), 3) := by decide +kernel
theorem dX7_minutes_30 : decode cX7_minutes 30 = .ok (.iload_n 1, 1) := by decide +kernel
theorem dX7_minutes_31 : decode cX7_minutes 31 = .ok (.ireturn, 1) := by decide +kernel
theorem dX7_peak_0 : decode cX7_peak 0 = .ok (.aload_n 0, 1) := by decide +kernel
theorem dX7_peak_1 : decode cX7_peak 1 = .ok (.iconst 0, 1) := by decide +kernel
theorem dX7_peak_2 : decode cX7_peak 2 = .ok (.putfield 48, 3) := by decide +kernel
theorem dX7_peak_5 : decode cX7_peak 5 = .ok (.iconst 0, 1) := by decide +kernel
theorem dX7_peak_6 : decode cX7_peak 6 = .ok (.istore_n 2, 1) := by decide +kernel
theorem dX7_peak_7 : decode cX7_peak 7 = .ok (.iconst 0, 1) := by decide +kernel
theorem dX7_peak_8 : decode cX7_peak 8 = .ok (.istore_n 3, 1) := by decide +kernel
theorem dX7_peak_9 : decode cX7_peak 9 = .ok (.iconst 0, 1) := by decide +kernel
theorem dX7_peak_10 : decode cX7_peak 10 = .ok (.istore 4, 2) := by decide +kernel
theorem dX7_peak_12 : decode cX7_peak 12 = .ok (.iload 4, 2) := by decide +kernel
theorem dX7_peak_14 : decode cX7_peak 14 = .ok (.sipush 1440, 3) := by decide +kernel
theorem dX7_peak_17 : decode cX7_peak 17 = .ok (.if_icmp .ge 37, 3) := by decide +kernel
theorem dX7_peak_20 : decode cX7_peak 20 = .ok (.aload_n 0, 1) := by decide +kernel
theorem dX7_peak_21 : decode cX7_peak 21 = .ok (.iload 4, 2) := by decide +kernel
theorem dX7_peak_23 : decode cX7_peak 23 = .ok (.invokevirtual 222, 3) := by decide +kernel
theorem dX7_peak_26 : decode cX7_peak 26 = .ok (.istore 5, 2) := by decide +kernel
theorem dX7_peak_28 : decode cX7_peak 28 = .ok (.iload 5, 2) := by decide +kernel
theorem dX7_peak_30 : decode cX7_peak 30 = .ok (.iload_n 2, 1) := by decide +kernel
theorem dX7_peak_31 : decode cX7_peak 31 = .ok (.if_icmp .le 8, 3) := by decide +kernel
theorem dX7_peak_34 : decode cX7_peak 34 = .ok (.iload 4, 2) := by decide +kernel
theorem dX7_peak_36 : decode cX7_peak 36 = .ok (.goto 4, 3) := by decide +kernel
theorem dX7_peak_39 : decode cX7_peak 39 = .ok (.iload_n 3, 1) := by decide +kernel
theorem dX7_peak_40 : decode cX7_peak 40 = .ok (.istore_n 3, 1) := by decide +kernel
theorem dX7_peak_41 : decode cX7_peak 41 = .ok (.iload_n 2, 1) := by decide +kernel
theorem dX7_peak_42 : decode cX7_peak 42 = .ok (.iload 5, 2) := by decide +kernel
theorem dX7_peak_44 : decode cX7_peak 44 = .ok (.invokestatic 173, 3) := by decide +kernel
theorem dX7_peak_47 : decode cX7_peak 47 = .ok (.istore_n 2, 1) := by decide +kernel
theorem dX7_peak_48 : decode cX7_peak 48 = .ok (.iinc 4 1, 3) := by decide +kernel
theorem dX7_peak_51 : decode cX7_peak 51 = .ok (.goto (-39), 3) := by decide +kernel
theorem dX7_peak_54 : decode cX7_peak 54 = .ok (.iload_n 1, 1) := by decide +kernel
theorem dX7_peak_55 : decode cX7_peak 55 = .ok (.ifCond .eq 7, 3) := by decide +kernel
theorem dX7_peak_58 : decode cX7_peak 58 = .ok (.iload_n 3, 1) := by decide +kernel
theorem dX7_peak_59 : decode cX7_peak 59 = .ok (.goto 4, 3) := by decide +kernel
theorem dX7_peak_62 : decode cX7_peak 62 = .ok (.iload_n 2, 1) := by decide +kernel
theorem dX7_peak_63 : decode cX7_peak 63 = .ok (.ireturn, 1) := by decide +kernel
theorem dX7_meanCost_0 : decode cX7_meanCost 0 = .ok (.aload_n 0, 1) := by decide +kernel
theorem dX7_meanCost_1 : decode cX7_meanCost 1 = .ok (.aload_n 0, 1) := by decide +kernel
theorem dX7_meanCost_2 : decode cX7_meanCost 2 = .ok (.getfield 9, 3) := by decide +kernel
theorem dX7_meanCost_5 : decode cX7_meanCost 5 = .ok (.iconst 1, 1) := by decide +kernel
theorem dX7_meanCost_6 : decode cX7_meanCost 6 = .ok (.iaload, 1) := by decide +kernel
theorem dX7_meanCost_7 : decode cX7_meanCost 7 = .ok (.ifCond .ne 7, 3) := by decide +kernel
theorem dX7_meanCost_10 : decode cX7_meanCost 10 = .ok (.iconst 1, 1) := by decide +kernel
theorem dX7_meanCost_11 : decode cX7_meanCost 11 = .ok (.goto 4, 3) := by decide +kernel
theorem dX7_meanCost_14 : decode cX7_meanCost 14 = .ok (.iconst 0, 1) := by decide +kernel
theorem dX7_meanCost_15 : decode cX7_meanCost 15 = .ok (.putfield 48, 3) := by decide +kernel
theorem dX7_meanCost_18 : decode cX7_meanCost 18 = .ok (.aload_n 0, 1) := by decide +kernel
theorem dX7_meanCost_19 : decode cX7_meanCost 19 = .ok (.getfield 48, 3) := by decide +kernel
theorem dX7_meanCost_22 : decode cX7_meanCost 22 = .ok (.ifCond .le 7, 3) := by decide +kernel
theorem dX7_meanCost_25 : decode cX7_meanCost 25 = .ok (.fconst 0, 1) := by decide +kernel
theorem dX7_meanCost_26 : decode cX7_meanCost 26 = .ok (.goto 16, 3) := by decide +kernel
theorem dX7_meanCost_29 : decode cX7_meanCost 29 = .ok (.aload_n 0, 1) := by decide +kernel
theorem dX7_meanCost_30 : decode cX7_meanCost 30 = .ok (.invokevirtual 186, 3) := by decide +kernel
theorem dX7_meanCost_33 : decode cX7_meanCost 33 = .ok (.i2f, 1) := by decide +kernel
theorem dX7_meanCost_34 : decode cX7_meanCost 34 = .ok (.aload_n 0, 1) := by decide +kernel
theorem dX7_meanCost_35 : decode cX7_meanCost 35 = .ok (.getfield 9, 3) := by decide +kernel
theorem dX7_meanCost_38 : decode cX7_meanCost 38 = .ok (.iconst 1, 1) := by decide +kernel
theorem dX7_meanCost_39 : decode cX7_meanCost 39 = .ok (.iaload, 1) := by decide +kernel
theorem dX7_meanCost_40 : decode cX7_meanCost 40 = .ok (.i2f, 1) := by decide +kernel
theorem dX7_meanCost_41 : decode cX7_meanCost 41 = .ok (.fdiv, 1) := by decide +kernel
theorem dX7_meanCost_42 : decode cX7_meanCost 42 = .ok (.freturn, 1) := by decide +kernel
theorem dX7_append_0 : decode cX7_append 0 = .ok (.aload_n 0, 1) := by decide +kernel
theorem dX7_append_1 : decode cX7_append 1 = .ok (.iload_n 1, 1) := by decide +kernel
theorem dX7_append_2 : decode cX7_append 2 = .ok (.bipush 32, 2) := by decide +kernel
theorem dX7_append_4 : decode cX7_append 4 = .ok (.bipush 126, 2) := by decide +kernel
theorem dX7_append_6 : decode cX7_append 6 = .ok (.invokestatic 51, 3) := by decide +kernel
theorem dX7_append_9 : decode cX7_append 9 = .ok (.ifCond .ne 7, 3) := by decide +kernel
theorem dX7_append_12 : decode cX7_append 12 = .ok (.iconst 1, 1) := by decide +kernel
theorem dX7_append_13 : decode cX7_append 13 = .ok (.goto 17, 3) := by decide +kernel
theorem dX7_append_16 : decode cX7_append 16 = .ok (.aload_n 0, 1) := by decide +kernel
theorem dX7_append_17 : decode cX7_append 17 = .ok (.getfield 225, 3) := by decide +kernel
theorem dX7_append_20 : decode cX7_append 20 = .ok (.bipush 60, 2) := by decide +kernel
theorem dX7_append_22 : decode cX7_append 22 = .ok (.if_icmp .ne 7, 3) := by decide +kernel
theorem dX7_append_25 : decode cX7_append 25 = .ok (.iconst 2, 1) := by decide +kernel
theorem dX7_append_26 : decode cX7_append 26 = .ok (.goto 4, 3) := by decide +kernel
theorem dX7_append_29 : decode cX7_append 29 = .ok (.iconst 0, 1) := by decide +kernel
theorem dX7_append_30 : decode cX7_append 30 = .ok (.putfield 48, 3) := by decide +kernel
theorem dX7_append_33 : decode cX7_append 33 = .ok (.aload_n 0, 1) := by decide +kernel
theorem dX7_append_34 : decode cX7_append 34 = .ok (.getfield 48, 3) := by decide +kernel
theorem dX7_append_37 : decode cX7_append 37 = .ok (.ifCond .le 5, 3) := by decide +kernel
theorem dX7_append_40 : decode cX7_append 40 = .ok (.iconst 0, 1) := by decide +kernel
theorem dX7_append_41 : decode cX7_append 41 = .ok (.ireturn, 1) := by decide +kernel
theorem dX7_append_42 : decode cX7_append 42 = .ok (.aload_n 0, 1) := by decide +kernel
theorem dX7_append_43 : decode cX7_append 43 = .ok (.getfield 31, 3) := by decide +kernel
theorem dX7_append_46 : decode cX7_append 46 = .ok (.aload_n 0, 1) := by decide +kernel
theorem dX7_append_47 : decode cX7_append 47 = .ok (.getfield 225, 3) := by decide +kernel
theorem dX7_append_50 : decode cX7_append 50 = .ok (.iload_n 1, 1) := by decide +kernel
theorem dX7_append_51 : decode cX7_append 51 = .ok (.castore, 1) := by decide +kernel
theorem dX7_append_52 : decode cX7_append 52 = .ok (.aload_n 0, 1) := by decide +kernel
theorem dX7_append_53 : decode cX7_append 53 = .ok (.dup, 1) := by decide +kernel
theorem dX7_append_54 : decode cX7_append 54 = .ok (.getfield 225, 3) := by decide +kernel
theorem dX7_append_57 : decode cX7_append 57 = .ok (.iconst 1, 1) := by decide +kernel
theorem dX7_append_58 : decode cX7_append 58 = .ok (.iadd, 1) := by decide +kernel
theorem dX7_append_59 : decode cX7_append 59 = .ok (.putfield 225, 3) := by decide +kernel
theorem dX7_append_62 : decode cX7_append 62 = .ok (.aload_n 0, 1) := by decide +kernel
theorem dX7_append_63 : decode cX7_append 63 = .ok (.getfield 225, 3) := by decide +kernel
theorem dX7_append_66 : decode cX7_append 66 = .ok (.ireturn, 1) := by decide +kernel
theorem dX7_isHere_0 : decode cX7_isHere 0 = .ok (.aload_n 0, 1) := by decide +kernel
theorem dX7_isHere_1 : decode cX7_isHere 1 = .ok (.getfield 228, 3) := by decide +kernel
theorem dX7_isHere_4 : decode cX7_isHere 4 = .ok (.ifCond .ne 35, 3) := by decide +kernel
theorem dX7_isHere_7 : decode cX7_isHere 7 = .ok (.aload_n 0, 1) := by decide +kernel
theorem dX7_isHere_8 : decode cX7_isHere 8 = .ok (.getfield 232, 3) := by decide +kernel
theorem dX7_isHere_11 : decode cX7_isHere 11 = .ok (.aload_n 0, 1) := by decide +kernel
theorem dX7_isHere_12 : decode cX7_isHere 12 = .ok (.getfield 225, 3) := by decide +kernel
theorem dX7_isHere_15 : decode cX7_isHere 15 = .ok (.if_icmp .ge 24, 3) := by decide +kernel
theorem dX7_isHere_18 : decode cX7_isHere 18 = .ok (.aload_n 0, 1) := by decide +kernel
theorem dX7_isHere_19 : decode cX7_isHere 19 = .ok (.getfield 31, 3) := by decide +kernel
theorem dX7_isHere_22 : decode cX7_isHere 22 = .ok (.aload_n 0, 1) := by decide +kernel
theorem dX7_isHere_23 : decode cX7_isHere 23 = .ok (.getfield 232, 3) := by decide +kernel
theorem dX7_isHere_26 : decode cX7_isHere 26 = .ok (.caload, 1) := by decide +kernel
theorem dX7_isHere_27 : decode cX7_isHere 27 = .ok (.iload_n 1, 1) := by decide +kernel
theorem dX7_isHere_28 : decode cX7_isHere 28 = .ok (.iload_n 2, 1) := by decide +kernel
theorem dX7_isHere_29 : decode cX7_isHere 29 = .ok (.invokestatic 51, 3) := by decide +kernel
theorem dX7_isHere_32 : decode cX7_isHere 32 = .ok (.ifCond .eq 7, 3) := by decide +kernel
theorem dX7_isHere_35 : decode cX7_isHere 35 = .ok (.iconst 1, 1) := by decide +kernel
theorem dX7_isHere_36 : decode cX7_isHere 36 = .ok (.goto 4, 3) := by decide +kernel
theorem dX7_isHere_39 : decode cX7_isHere 39 = .ok (.iconst 0, 1) := by decide +kernel
theorem dX7_isHere_40 : decode cX7_isHere 40 = .ok (.ireturn, 1) := by decide +kernel
theorem dX7_sign_0 : decode cX7_sign 0 = .ok (.aload_n 0, 1) := by decide +kernel
theorem dX7_sign_1 : decode cX7_sign 1 = .ok (.aload_n 0, 1) := by decide +kernel
theorem dX7_sign_2 : decode cX7_sign 2 = .ok (.iload_n 1, 1) := by decide +kernel
theorem dX7_sign_3 : decode cX7_sign 3 = .ok (.iload_n 1, 1) := by decide +kernel
theorem dX7_sign_4 : decode cX7_sign 4 = .ok (.invokevirtual 235, 3) := by decide +kernel
theorem dX7_sign_7 : decode cX7_sign 7 = .ok (.ifCond .ne 7, 3) := by decide +kernel
theorem dX7_sign_10 : decode cX7_sign 10 = .ok (.iconst 1, 1) := by decide +kernel
theorem dX7_sign_11 : decode cX7_sign 11 = .ok (.goto 4, 3) := by decide +kernel
theorem dX7_sign_14 : decode cX7_sign 14 = .ok (.iconst 0, 1) := by decide +kernel
theorem dX7_sign_15 : decode cX7_sign 15 = .ok (.putfield 228, 3) := by decide +kernel
theorem dX7_sign_18 : decode cX7_sign 18 = .ok (.aload_n 0, 1) := by decide +kernel
theorem dX7_sign_19 : decode cX7_sign 19 = .ok (.dup, 1) := by decide +kernel
theorem dX7_sign_20 : decode cX7_sign 20 = .ok (.getfield 232, 3) := by decide +kernel
theorem dX7_sign_23 : decode cX7_sign 23 = .ok (.aload_n 0, 1) := by decide +kernel
theorem dX7_sign_24 : decode cX7_sign 24 = .ok (.getfield 228, 3) := by decide +kernel
theorem dX7_sign_27 : decode cX7_sign 27 = .ok (.ifCond .eq 7, 3) := by decide +kernel
theorem dX7_sign_30 : decode cX7_sign 30 = .ok (.iconst 0, 1) := by decide +kernel
theorem dX7_sign_31 : decode cX7_sign 31 = .ok (.goto 4, 3) := by decide +kernel
theorem dX7_sign_34 : decode cX7_sign 34 = .ok (.iconst 1, 1) := by decide +kernel
theorem dX7_sign_35 : decode cX7_sign 35 = .ok (.iadd, 1) := by decide +kernel
theorem dX7_sign_36 : decode cX7_sign 36 = .ok (.putfield 232, 3) := by decide +kernel
theorem dX7_sign_39 : decode cX7_sign 39 = .ok (.return_, 1) := by decide +kernel
theorem dX7_number_0 : decode cX7_number 0 = .ok (.aload_n 0, 1) := by decide +kernel
theorem dX7_number_1 : decode cX7_number 1 = .ok (.aload_n 0, 1) := by decide +kernel
theorem dX7_number_2 : decode cX7_number 2 = .ok (.bipush 48, 2) := by decide +kernel
theorem dX7_number_4 : decode cX7_number 4 = .ok (.bipush 57, 2) := by decide +kernel
theorem dX7_number_6 : decode cX7_number 6 = .ok (.invokevirtual 235, 3) := by decide +kernel
theorem dX7_number_9 : decode cX7_number 9 = .ok (.ifCond .ne 7, 3) := by decide +kernel
theorem dX7_number_12 : decode cX7_number 12 = .ok (.iconst 1, 1) := by decide +kernel
theorem dX7_number_13 : decode cX7_number 13 = .ok (.goto 4, 3) := by decide +kernel
theorem dX7_number_16 : decode cX7_number 16 = .ok (.iconst 0, 1) := by decide +kernel
theorem dX7_number_17 : decode cX7_number 17 = .ok (.putfield 228, 3) := by decide +kernel
theorem dX7_number_20 : decode cX7_number 20 = .ok (.iconst 0, 1) := by decide +kernel
theorem dX7_number_21 : decode cX7_number 21 = .ok (.istore_n 2, 1) := by decide +kernel
theorem dX7_number_22 : decode cX7_number 22 = .ok (.iconst 0, 1) := by decide +kernel
theorem dX7_number_23 : decode cX7_number 23 = .ok (.istore_n 3, 1) := by decide +kernel
theorem dX7_number_24 : decode cX7_number 24 = .ok (.iload_n 3, 1) := by decide +kernel
theorem dX7_number_25 : decode cX7_number 25 = .ok (.iload_n 1, 1) := by decide +kernel
theorem dX7_number_26 : decode cX7_number 26 = .ok (.if_icmp .ge 48, 3) := by decide +kernel
theorem dX7_number_29 : decode cX7_number 29 = .ok (.aload_n 0, 1) := by decide +kernel
theorem dX7_number_30 : decode cX7_number 30 = .ok (.bipush 48, 2) := by decide +kernel
theorem dX7_number_32 : decode cX7_number 32 = .ok (.bipush 57, 2) := by decide +kernel
theorem dX7_number_34 : decode cX7_number 34 = .ok (.invokevirtual 235, 3) := by decide +kernel
theorem dX7_number_37 : decode cX7_number 37 = .ok (.ifCond .eq 37, 3) := by decide +kernel
theorem dX7_number_40 : decode cX7_number 40 = .ok (.bipush 10, 2) := by decide +kernel
theorem dX7_number_42 : decode cX7_number 42 = .ok (.iload_n 2, 1) := by decide +kernel
theorem dX7_number_43 : decode cX7_number 43 = .ok (.imul, 1) := by decide +kernel
theorem dX7_number_44 : decode cX7_number 44 = .ok (.aload_n 0, 1) := by decide +kernel
theorem dX7_number_45 : decode cX7_number 45 = .ok (.getfield 31, 3) := by decide +kernel
theorem dX7_number_48 : decode cX7_number 48 = .ok (.aload_n 0, 1) := by decide +kernel
theorem dX7_number_49 : decode cX7_number 49 = .ok (.getfield 232, 3) := by decide +kernel
theorem dX7_number_52 : decode cX7_number 52 = .ok (.caload, 1) := by decide +kernel
theorem dX7_number_53 : decode cX7_number 53 = .ok (.iadd, 1) := by decide +kernel
theorem dX7_number_54 : decode cX7_number 54 = .ok (.bipush 48, 2) := by decide +kernel
theorem dX7_number_56 : decode cX7_number 56 = .ok (.isub, 1) := by decide +kernel
theorem dX7_number_57 : decode cX7_number 57 = .ok (.istore_n 2, 1) := by decide +kernel
theorem dX7_number_58 : decode cX7_number 58 = .ok (.aload_n 0, 1) := by decide +kernel
theorem dX7_number_59 : decode cX7_number 59 = .ok (.dup, 1) := by decide +kernel
theorem dX7_number_60 : decode cX7_number 60 = .ok (.getfield 232, 3) := by decide +kernel
theorem dX7_number_63 : decode cX7_number 63 = .ok (.iconst 1, 1) := by decide +kernel
theorem dX7_number_64 : decode cX7_number 64 = .ok (.iadd, 1) := by decide +kernel
theorem dX7_number_65 : decode cX7_number 65 = .ok (.putfield 232, 3) := by decide +kernel
theorem dX7_number_68 : decode cX7_number 68 = .ok (.iinc 3 1, 3) := by decide +kernel
theorem dX7_number_71 : decode cX7_number 71 = .ok (.goto (-47), 3) := by decide +kernel
theorem dX7_number_74 : decode cX7_number 74 = .ok (.iload_n 2, 1) := by decide +kernel
theorem dX7_number_75 : decode cX7_number 75 = .ok (.ireturn, 1) := by decide +kernel
theorem dX7_behind_0 : decode cX7_behind 0 = .ok (.aload_n 0, 1) := by decide +kernel
theorem dX7_behind_1 : decode cX7_behind 1 = .ok (.iload_n 1, 1) := by decide +kernel
theorem dX7_behind_2 : decode cX7_behind 2 = .ok (.invokevirtual 239, 3) := by decide +kernel
theorem dX7_behind_5 : decode cX7_behind 5 = .ok (.aload_n 0, 1) := by decide +kernel
theorem dX7_behind_6 : decode cX7_behind 6 = .ok (.iload_n 2, 1) := by decide +kernel
theorem dX7_behind_7 : decode cX7_behind 7 = .ok (.invokevirtual 243, 3) := by decide +kernel
theorem dX7_behind_10 : decode cX7_behind 10 = .ok (.ireturn, 1) := by decide +kernel
theorem dX7_readEntry_0 : decode cX7_readEntry 0 = .ok (.iconst 3, 1) := by decide +kernel
theorem dX7_readEntry_1 : decode cX7_readEntry 1 = .ok (.aload_n 0, 1) := by decide +kernel
theorem dX7_readEntry_2 : decode cX7_readEntry 2 = .ok (.getfield 246, 3) := by decide +kernel
theorem dX7_readEntry_5 : decode cX7_readEntry 5 = .ok (.imul, 1) := by decide +kernel
theorem dX7_readEntry_6 : decode cX7_readEntry 6 = .ok (.istore_n 1, 1) := by decide +kernel
theorem dX7_readEntry_7 : decode cX7_readEntry 7 = .ok (.aload_n 0, 1) := by decide +kernel
theorem dX7_readEntry_8 : decode cX7_readEntry 8 = .ok (.getfield 232, 3) := by decide +kernel
theorem dX7_readEntry_11 : decode cX7_readEntry 11 = .ok (.aload_n 0, 1) := by decide +kernel
theorem dX7_readEntry_12 : decode cX7_readEntry 12 = .ok (.getfield 225, 3) := by decide +kernel
theorem dX7_readEntry_15 : decode cX7_readEntry 15 = .ok (.if_icmp .ge 15, 3) := by decide +kernel
theorem dX7_readEntry_18 : decode cX7_readEntry 18 = .ok (.aload_n 0, 1) := by decide +kernel
theorem dX7_readEntry_19 : decode cX7_readEntry 19 = .ok (.getfield 31, 3) := by decide +kernel
theorem dX7_readEntry_22 : decode cX7_readEntry 22 = .ok (.aload_n 0, 1) := by decide +kernel
theorem dX7_readEntry_23 : decode cX7_readEntry 23 = .ok (.getfield 232, 3) := by decide +kernel
theorem dX7_readEntry_26 : decode cX7_readEntry 26 = .ok (.caload, 1) := by decide +kernel
theorem dX7_readEntry_27 : decode cX7_readEntry 27 = .ok (.goto 5, 3) := by decide +kernel
theorem dX7_readEntry_30 : decode cX7_readEntry 30 = .ok (.bipush 32, 2) := by decide +kernel
theorem dX7_readEntry_32 : decode cX7_readEntry 32 = .ok (.istore_n 2, 1) := by decide +kernel
theorem dX7_readEntry_33 : decode cX7_readEntry 33 = .ok (.aload_n 0, 1) := by decide +kernel
theorem dX7_readEntry_34 : decode cX7_readEntry 34 = .ok (.getfield 39, 3) := by decide +kernel
theorem dX7_readEntry_37 : decode cX7_readEntry 37 = .ok (.aload_n 0, 1) := by decide +kernel
theorem dX7_readEntry_38 : decode cX7_readEntry 38 = .ok (.getfield 246, 3) := by decide +kernel
theorem dX7_readEntry_41 : decode cX7_readEntry 41 = .ok (.iload_n 2, 1) := by decide +kernel
theorem dX7_readEntry_42 : decode cX7_readEntry 42 = .ok (.castore, 1) := by decide +kernel
theorem dX7_readEntry_43 : decode cX7_readEntry 43 = .ok (.aload_n 0, 1) := by decide +kernel
theorem dX7_readEntry_44 : decode cX7_readEntry 44 = .ok (.iload_n 2, 1) := by decide +kernel
theorem dX7_readEntry_45 : decode cX7_readEntry 45 = .ok (.bipush 112, 2) := by decide +kernel
theorem dX7_readEntry_47 : decode cX7_readEntry 47 = .ok (.if_icmp .eq 31, 3) := by decide +kernel
theorem dX7_readEntry_50 : decode cX7_readEntry 50 = .ok (.iload_n 2, 1) := by decide +kernel
theorem dX7_readEntry_51 : decode cX7_readEntry 51 = .ok (.bipush 108, 2) := by decide +kernel
theorem dX7_readEntry_53 : decode cX7_readEntry 53 = .ok (.if_icmp .eq 25, 3) := by decide +kernel
theorem dX7_readEntry_56 : decode cX7_readEntry 56 = .ok (.iload_n 2, 1) := by decide +kernel
theorem dX7_readEntry_57 : decode cX7_readEntry 57 = .ok (.bipush 100, 2) := by decide +kernel
theorem dX7_readEntry_59 : decode cX7_readEntry 59 = .ok (.if_icmp .eq 19, 3) := by decide +kernel
theorem dX7_readEntry_62 : decode cX7_readEntry 62 = .ok (.iload_n 2, 1) := by decide +kernel
theorem dX7_readEntry_63 : decode cX7_readEntry 63 = .ok (.bipush 116, 2) := by decide +kernel
theorem dX7_readEntry_65 : decode cX7_readEntry 65 = .ok (.if_icmp .eq 13, 3) := by decide +kernel
theorem dX7_readEntry_68 : decode cX7_readEntry 68 = .ok (.iload_n 2, 1) := by decide +kernel
theorem dX7_readEntry_69 : decode cX7_readEntry 69 = .ok (.bipush 97, 2) := by decide +kernel
theorem dX7_readEntry_71 : decode cX7_readEntry 71 = .ok (.if_icmp .eq 7, 3) := by decide +kernel
theorem dX7_readEntry_74 : decode cX7_readEntry 74 = .ok (.iconst 1, 1) := by decide +kernel
theorem dX7_readEntry_75 : decode cX7_readEntry 75 = .ok (.goto 4, 3) := by decide +kernel
theorem dX7_readEntry_78 : decode cX7_readEntry 78 = .ok (.iconst 0, 1) := by decide +kernel
theorem dX7_readEntry_79 : decode cX7_readEntry 79 = .ok (.putfield 228, 3) := by decide +kernel
theorem dX7_readEntry_82 : decode cX7_readEntry 82 = .ok (.aload_n 0, 1) := by decide +kernel
theorem dX7_readEntry_83 : decode cX7_readEntry 83 = .ok (.dup, 1) := by decide +kernel
theorem dX7_readEntry_84 : decode cX7_readEntry 84 = .ok (.getfield 232, 3) := by decide +kernel
theorem dX7_readEntry_87 : decode cX7_readEntry 87 = .ok (.aload_n 0, 1) := by decide +kernel
theorem dX7_readEntry_88 : decode cX7_readEntry 88 = .ok (.getfield 228, 3) := by decide +kernel
theorem dX7_readEntry_91 : decode cX7_readEntry 91 = .ok (.ifCond .eq 7, 3) := by decide +kernel
theorem dX7_readEntry_94 : decode cX7_readEntry 94 = .ok (.iconst 0, 1) := by decide +kernel
theorem dX7_readEntry_95 : decode cX7_readEntry 95 = .ok (.goto 4, 3) := by decide +kernel
theorem dX7_readEntry_98 : decode cX7_readEntry 98 = .ok (.iconst 1, 1) := by decide +kernel
theorem dX7_readEntry_99 : decode cX7_readEntry 99 = .ok (.iadd, 1) := by decide +kernel
theorem dX7_readEntry_100 : decode cX7_readEntry 100 = .ok (.putfield 232, 3) := by decide +kernel
theorem dX7_readEntry_103 : decode cX7_readEntry 103 = .ok (.aload_n 0, 1) := by decide +kernel
theorem dX7_readEntry_104 : decode cX7_readEntry 104 = .ok (.getfield 42, 3) := by decide +kernel
theorem dX7_readEntry_107 : decode cX7_readEntry 107 = .ok (.iload_n 1, 1) := by decide +kernel
theorem dX7_readEntry_108 : decode cX7_readEntry 108 = .ok (.aload_n 0, 1) := by decide +kernel
theorem dX7_readEntry_109 : decode cX7_readEntry 109 = .ok (.getfield 228, 3) := by decide +kernel
theorem dX7_readEntry_112 : decode cX7_readEntry 112 = .ok (.ifCond .ne 9, 3) := by decide +kernel
theorem dX7_readEntry_115 : decode cX7_readEntry 115 = .ok (.iload_n 2, 1) := by decide +kernel
theorem dX7_readEntry_116 : decode cX7_readEntry 116 = .ok (.bipush 97, 2) := by decide +kernel
theorem dX7_readEntry_118 : decode cX7_readEntry 118 = .ok (.if_icmp .ne 7, 3) := by decide +kernel
theorem dX7_readEntry_121 : decode cX7_readEntry 121 = .ok (.iconst 0, 1) := by decide +kernel
theorem dX7_readEntry_122 : decode cX7_readEntry 122 = .ok (.goto 8, 3) := by decide +kernel
theorem dX7_readEntry_125 : decode cX7_readEntry 125 = .ok (.aload_n 0, 1) := by decide +kernel
theorem dX7_readEntry_126 : decode cX7_readEntry 126 = .ok (.iconst 1, 1) := by decide +kernel
theorem dX7_readEntry_127 : decode cX7_readEntry 127 = .ok (.invokevirtual 243, 3) := by decide +kernel
theorem dX7_readEntry_130 : decode cX7_readEntry 130 = .ok (.iastore, 1) := by decide +kernel
theorem dX7_readEntry_131 : decode cX7_readEntry 131 = .ok (.iload_n 2, 1) := by decide +kernel
theorem dX7_readEntry_132 : decode cX7_readEntry 132 = .ok (.bipush 112, 2) := by decide +kernel
theorem dX7_readEntry_134 : decode cX7_readEntry 134 = .ok (.if_icmp .eq 9, 3) := by decide +kernel
theorem dX7_readEntry_137 : decode cX7_readEntry 137 = .ok (.iload_n 2, 1) := by decide +kernel
theorem dX7_readEntry_138 : decode cX7_readEntry 138 = .ok (.bipush 108, 2) := by decide +kernel
theorem dX7_readEntry_140 : decode cX7_readEntry 140 = .ok (.if_icmp .ne 18, 3) := by decide +kernel
theorem dX7_readEntry_143 : decode cX7_readEntry 143 = .ok (.aload_n 0, 1) := by decide +kernel
theorem dX7_readEntry_144 : decode cX7_readEntry 144 = .ok (.getfield 42, 3) := by decide +kernel
theorem dX7_readEntry_147 : decode cX7_readEntry 147 = .ok (.iload_n 1, 1) := by decide +kernel
theorem dX7_readEntry_148 : decode cX7_readEntry 148 = .ok (.iconst 1, 1) := by decide +kernel
theorem dX7_readEntry_149 : decode cX7_readEntry 149 = .ok (.iadd, 1) := by decide +kernel
theorem dX7_readEntry_150 : decode cX7_readEntry 150 = .ok (.aload_n 0, 1) := by decide +kernel
theorem dX7_readEntry_151 : decode cX7_readEntry 151 = .ok (.bipush 46, 2) := by decide +kernel
theorem dX7_readEntry_153 : decode cX7_readEntry 153 = .ok (.iconst 1, 1) := by decide +kernel
theorem dX7_readEntry_154 : decode cX7_readEntry 154 = .ok (.invokevirtual 249, 3) := by decide +kernel
theorem dX7_readEntry_157 : decode cX7_readEntry 157 = .ok (.iastore, 1) := by decide +kernel
theorem dX7_readEntry_158 : decode cX7_readEntry 158 = .ok (.iload_n 2, 1) := by decide +kernel
theorem dX7_readEntry_159 : decode cX7_readEntry 159 = .ok (.bipush 112, 2) := by decide +kernel
theorem dX7_readEntry_161 : decode cX7_readEntry 161 = .ok (.if_icmp .ne 21, 3) := by decide +kernel
theorem dX7_readEntry_164 : decode cX7_readEntry 164 = .ok (.aload_n 0, 1) := by decide +kernel
theorem dX7_readEntry_165 : decode cX7_readEntry 165 = .ok (.getfield 42, 3) := by decide +kernel
theorem dX7_readEntry_168 : decode cX7_readEntry 168 = .ok (.iload_n 1, 1) := by decide +kernel
theorem dX7_readEntry_169 : decode cX7_readEntry 169 = .ok (.iconst 2, 1) := by decide +kernel
theorem dX7_readEntry_170 : decode cX7_readEntry 170 = .ok (.iadd, 1) := by decide +kernel
theorem dX7_readEntry_171 : decode cX7_readEntry 171 = .ok (.aload_n 0, 1) := by decide +kernel
theorem dX7_readEntry_172 : decode cX7_readEntry 172 = .ok (.bipush 64, 2) := by decide +kernel
theorem dX7_readEntry_174 : decode cX7_readEntry 174 = .ok (.iconst 1, 1) := by decide +kernel
theorem dX7_readEntry_175 : decode cX7_readEntry 175 = .ok (.invokevirtual 249, 3) := by decide +kernel
theorem dX7_readEntry_178 : decode cX7_readEntry 178 = .ok (.iastore, 1) := by decide +kernel
theorem dX7_readEntry_179 : decode cX7_readEntry 179 = .ok (.goto 41, 3) := by decide +kernel
theorem dX7_readEntry_182 : decode cX7_readEntry 182 = .ok (.iload_n 2, 1) := by decide +kernel
theorem dX7_readEntry_183 : decode cX7_readEntry 183 = .ok (.bipush 100, 2) := by decide +kernel
theorem dX7_readEntry_185 : decode cX7_readEntry 185 = .ok (.if_icmp .eq 9, 3) := by decide +kernel
theorem dX7_readEntry_188 : decode cX7_readEntry 188 = .ok (.iload_n 2, 1) := by decide +kernel
theorem dX7_readEntry_189 : decode cX7_readEntry 189 = .ok (.bipush 116, 2) := by decide +kernel
theorem dX7_readEntry_191 : decode cX7_readEntry 191 = .ok (.if_icmp .ne 29, 3) := by decide +kernel
theorem dX7_readEntry_194 : decode cX7_readEntry 194 = .ok (.aload_n 0, 1) := by decide +kernel
theorem dX7_readEntry_195 : decode cX7_readEntry 195 = .ok (.getfield 42, 3) := by decide +kernel
theorem dX7_readEntry_198 : decode cX7_readEntry 198 = .ok (.iload_n 1, 1) := by decide +kernel
theorem dX7_readEntry_199 : decode cX7_readEntry 199 = .ok (.iconst 1, 1) := by decide +kernel
theorem dX7_readEntry_200 : decode cX7_readEntry 200 = .ok (.iadd, 1) := by decide +kernel
theorem dX7_readEntry_201 : decode cX7_readEntry 201 = .ok (.aload_n 0, 1) := by decide +kernel
theorem dX7_readEntry_202 : decode cX7_readEntry 202 = .ok (.iload_n 2, 1) := by decide +kernel
theorem dX7_readEntry_203 : decode cX7_readEntry 203 = .ok (.bipush 100, 2) := by decide +kernel
theorem dX7_readEntry_205 : decode cX7_readEntry 205 = .ok (.if_icmp .ne 8, 3) := by decide +kernel
theorem dX7_readEntry_208 : decode cX7_readEntry 208 = .ok (.bipush 43, 2) := by decide +kernel
theorem dX7_readEntry_210 : decode cX7_readEntry 210 = .ok (.goto 5, 3) := by decide +kernel
theorem dX7_readEntry_213 : decode cX7_readEntry 213 = .ok (.bipush 64, 2) := by decide +kernel
theorem dX7_readEntry_215 : decode cX7_readEntry 215 = .ok (.iconst 4, 1) := by decide +kernel
theorem dX7_readEntry_216 : decode cX7_readEntry 216 = .ok (.invokevirtual 249, 3) := by decide +kernel
theorem dX7_readEntry_219 : decode cX7_readEntry 219 = .ok (.iastore, 1) := by decide +kernel
theorem dX7_readEntry_220 : decode cX7_readEntry 220 = .ok (.aload_n 0, 1) := by decide +kernel
theorem dX7_readEntry_221 : decode cX7_readEntry 221 = .ok (.bipush 59, 2) := by decide +kernel
theorem dX7_readEntry_223 : decode cX7_readEntry 223 = .ok (.invokevirtual 239, 3) := by decide +kernel
theorem dX7_readEntry_226 : decode cX7_readEntry 226 = .ok (.aload_n 0, 1) := by decide +kernel
theorem dX7_readEntry_227 : decode cX7_readEntry 227 = .ok (.dup, 1) := by decide +kernel
theorem dX7_readEntry_228 : decode cX7_readEntry 228 = .ok (.getfield 246, 3) := by decide +kernel
theorem dX7_readEntry_231 : decode cX7_readEntry 231 = .ok (.iconst 1, 1) := by decide +kernel
theorem dX7_readEntry_232 : decode cX7_readEntry 232 = .ok (.iadd, 1) := by decide +kernel
theorem dX7_readEntry_233 : decode cX7_readEntry 233 = .ok (.putfield 246, 3) := by decide +kernel
theorem dX7_readEntry_236 : decode cX7_readEntry 236 = .ok (.return_, 1) := by decide +kernel
theorem dX7_fails_0 : decode cX7_fails 0 = .ok (.aload_n 0, 1) := by decide +kernel
theorem dX7_fails_1 : decode cX7_fails 1 = .ok (.getfield 42, 3) := by decide +kernel
theorem dX7_fails_4 : decode cX7_fails 4 = .ok (.iconst 3, 1) := by decide +kernel
theorem dX7_fails_5 : decode cX7_fails 5 = .ok (.iload_n 1, 1) := by decide +kernel
theorem dX7_fails_6 : decode cX7_fails 6 = .ok (.imul, 1) := by decide +kernel
theorem dX7_fails_7 : decode cX7_fails 7 = .ok (.iaload, 1) := by decide +kernel
theorem dX7_fails_8 : decode cX7_fails 8 = .ok (.istore_n 2, 1) := by decide +kernel
theorem dX7_fails_9 : decode cX7_fails 9 = .ok (.aload_n 0, 1) := by decide +kernel
theorem dX7_fails_10 : decode cX7_fails 10 = .ok (.getfield 42, 3) := by decide +kernel
theorem dX7_fails_13 : decode cX7_fails 13 = .ok (.iconst 3, 1) := by decide +kernel
theorem dX7_fails_14 : decode cX7_fails 14 = .ok (.iload_n 1, 1) := by decide +kernel
theorem dX7_fails_15 : decode cX7_fails 15 = .ok (.imul, 1) := by decide +kernel
theorem dX7_fails_16 : decode cX7_fails 16 = .ok (.iconst 1, 1) := by decide +kernel
theorem dX7_fails_17 : decode cX7_fails 17 = .ok (.iadd, 1) := by decide +kernel
theorem dX7_fails_18 : decode cX7_fails 18 = .ok (.iaload, 1) := by decide +kernel
theorem dX7_fails_19 : decode cX7_fails 19 = .ok (.istore_n 3, 1) := by decide +kernel
theorem dX7_fails_20 : decode cX7_fails 20 = .ok (.aload_n 0, 1) := by decide +kernel
theorem dX7_fails_21 : decode cX7_fails 21 = .ok (.getfield 39, 3) := by decide +kernel
theorem dX7_fails_24 : decode cX7_fails 24 = .ok (.iload_n 1, 1) := by decide +kernel
theorem dX7_fails_25 : decode cX7_fails 25 = .ok (.caload, 1) := by decide +kernel
theorem dX7_fails_26 : decode cX7_fails 26 = .ok (.lookupswitch 112 #[(100, 82), (108, 67), (112, 42), (116, 97)], 42) := by decide +kernel
theorem dX7_fails_68 : decode cX7_fails 68 = .ok (.aload_n 0, 1) := by decide +kernel
theorem dX7_fails_69 : decode cX7_fails 69 = .ok (.iload_n 2, 1) := by decide +kernel
theorem dX7_fails_70 : decode cX7_fails 70 = .ok (.iload_n 3, 1) := by decide +kernel
theorem dX7_fails_71 : decode cX7_fails 71 = .ok (.aload_n 0, 1) := by decide +kernel
theorem dX7_fails_72 : decode cX7_fails 72 = .ok (.getfield 42, 3) := by decide +kernel
theorem dX7_fails_75 : decode cX7_fails 75 = .ok (.iconst 3, 1) := by decide +kernel
theorem dX7_fails_76 : decode cX7_fails 76 = .ok (.iload_n 1, 1) := by decide +kernel
theorem dX7_fails_77 : decode cX7_fails 77 = .ok (.imul, 1) := by decide +kernel
theorem dX7_fails_78 : decode cX7_fails 78 = .ok (.iconst 2, 1) := by decide +kernel
theorem dX7_fails_79 : decode cX7_fails 79 = .ok (.iadd, 1) := by decide +kernel
theorem dX7_fails_80 : decode cX7_fails 80 = .ok (.iaload, 1) := by decide +kernel
theorem dX7_fails_81 : decode cX7_fails 81 = .ok (.invokevirtual 154, 3) := by decide +kernel
theorem dX7_fails_84 : decode cX7_fails 84 = .ok (.ifCond .le 7, 3) := by decide +kernel
theorem dX7_fails_87 : decode cX7_fails 87 = .ok (.iconst 1, 1) := by decide +kernel
theorem dX7_fails_88 : decode cX7_fails 88 = .ok (.goto 4, 3) := by decide +kernel
theorem dX7_fails_91 : decode cX7_fails 91 = .ok (.iconst 0, 1) := by decide +kernel
theorem dX7_fails_92 : decode cX7_fails 92 = .ok (.ireturn, 1) := by decide +kernel
theorem dX7_fails_93 : decode cX7_fails 93 = .ok (.aload_n 0, 1) := by decide +kernel
theorem dX7_fails_94 : decode cX7_fails 94 = .ok (.iload_n 2, 1) := by decide +kernel
theorem dX7_fails_95 : decode cX7_fails 95 = .ok (.iload_n 3, 1) := by decide +kernel
theorem dX7_fails_96 : decode cX7_fails 96 = .ok (.invokevirtual 164, 3) := by decide +kernel
theorem dX7_fails_99 : decode cX7_fails 99 = .ok (.ifCond .le 7, 3) := by decide +kernel
theorem dX7_fails_102 : decode cX7_fails 102 = .ok (.iconst 1, 1) := by decide +kernel
theorem dX7_fails_103 : decode cX7_fails 103 = .ok (.goto 4, 3) := by decide +kernel
theorem dX7_fails_106 : decode cX7_fails 106 = .ok (.iconst 0, 1) := by decide +kernel
theorem dX7_fails_107 : decode cX7_fails 107 = .ok (.ireturn, 1) := by decide +kernel
theorem dX7_fails_108 : decode cX7_fails 108 = .ok (.aload_n 0, 1) := by decide +kernel
theorem dX7_fails_109 : decode cX7_fails 109 = .ok (.iload_n 2, 1) := by decide +kernel
theorem dX7_fails_110 : decode cX7_fails 110 = .ok (.iload_n 3, 1) := by decide +kernel
theorem dX7_fails_111 : decode cX7_fails 111 = .ok (.invokevirtual 176, 3) := by decide +kernel
theorem dX7_fails_114 : decode cX7_fails 114 = .ok (.ifCond .le 7, 3) := by decide +kernel
theorem dX7_fails_117 : decode cX7_fails 117 = .ok (.iconst 1, 1) := by decide +kernel
theorem dX7_fails_118 : decode cX7_fails 118 = .ok (.goto 4, 3) := by decide +kernel
theorem dX7_fails_121 : decode cX7_fails 121 = .ok (.iconst 0, 1) := by decide +kernel
theorem dX7_fails_122 : decode cX7_fails 122 = .ok (.ireturn, 1) := by decide +kernel
theorem dX7_fails_123 : decode cX7_fails 123 = .ok (.aload_n 0, 1) := by decide +kernel
theorem dX7_fails_124 : decode cX7_fails 124 = .ok (.iload_n 2, 1) := by decide +kernel
theorem dX7_fails_125 : decode cX7_fails 125 = .ok (.iload_n 3, 1) := by decide +kernel
theorem dX7_fails_126 : decode cX7_fails 126 = .ok (.invokevirtual 170, 3) := by decide +kernel
theorem dX7_fails_129 : decode cX7_fails 129 = .ok (.ifCond .le 7, 3) := by decide +kernel
theorem dX7_fails_132 : decode cX7_fails 132 = .ok (.iconst 1, 1) := by decide +kernel
theorem dX7_fails_133 : decode cX7_fails 133 = .ok (.goto 4, 3) := by decide +kernel
theorem dX7_fails_136 : decode cX7_fails 136 = .ok (.iconst 0, 1) := by decide +kernel
theorem dX7_fails_137 : decode cX7_fails 137 = .ok (.ireturn, 1) := by decide +kernel
theorem dX7_fails_138 : decode cX7_fails 138 = .ok (.aload_n 0, 1) := by decide +kernel
theorem dX7_fails_139 : decode cX7_fails 139 = .ok (.invokevirtual 182, 3) := by decide +kernel
theorem dX7_fails_142 : decode cX7_fails 142 = .ok (.ifCond .ge 7, 3) := by decide +kernel
theorem dX7_fails_145 : decode cX7_fails 145 = .ok (.iconst 1, 1) := by decide +kernel
theorem dX7_fails_146 : decode cX7_fails 146 = .ok (.goto 4, 3) := by decide +kernel
theorem dX7_fails_149 : decode cX7_fails 149 = .ok (.iconst 0, 1) := by decide +kernel
theorem dX7_fails_150 : decode cX7_fails 150 = .ok (.ireturn, 1) := by decide +kernel
theorem dX7_read_0 : decode cX7_read 0 = .ok (.aload_n 0, 1) := by decide +kernel
theorem dX7_read_1 : decode cX7_read 1 = .ok (.iconst 0, 1) := by decide +kernel
theorem dX7_read_2 : decode cX7_read 2 = .ok (.putfield 232, 3) := by decide +kernel
theorem dX7_read_5 : decode cX7_read 5 = .ok (.aload_n 0, 1) := by decide +kernel
theorem dX7_read_6 : decode cX7_read 6 = .ok (.iconst 0, 1) := by decide +kernel
theorem dX7_read_7 : decode cX7_read 7 = .ok (.putfield 228, 3) := by decide +kernel
theorem dX7_read_10 : decode cX7_read 10 = .ok (.aload_n 0, 1) := by decide +kernel
theorem dX7_read_11 : decode cX7_read 11 = .ok (.iconst 0, 1) := by decide +kernel
theorem dX7_read_12 : decode cX7_read 12 = .ok (.putfield 246, 3) := by decide +kernel
theorem dX7_read_15 : decode cX7_read 15 = .ok (.aload_n 0, 1) := by decide +kernel
theorem dX7_read_16 : decode cX7_read 16 = .ok (.invokevirtual 253, 3) := by decide +kernel
theorem dX7_read_19 : decode cX7_read 19 = .ok (.aload_n 0, 1) := by decide +kernel
theorem dX7_read_20 : decode cX7_read 20 = .ok (.getfield 228, 3) := by decide +kernel
theorem dX7_read_23 : decode cX7_read 23 = .ok (.ifCond .ne 21, 3) := by decide +kernel
theorem dX7_read_26 : decode cX7_read 26 = .ok (.aload_n 0, 1) := by decide +kernel
theorem dX7_read_27 : decode cX7_read 27 = .ok (.getfield 232, 3) := by decide +kernel
theorem dX7_read_30 : decode cX7_read 30 = .ok (.aload_n 0, 1) := by decide +kernel
theorem dX7_read_31 : decode cX7_read 31 = .ok (.getfield 225, 3) := by decide +kernel
theorem dX7_read_34 : decode cX7_read 34 = .ok (.if_icmp .ge 10, 3) := by decide +kernel
theorem dX7_read_37 : decode cX7_read 37 = .ok (.aload_n 0, 1) := by decide +kernel
theorem dX7_read_38 : decode cX7_read 38 = .ok (.invokevirtual 253, 3) := by decide +kernel
theorem dX7_read_41 : decode cX7_read 41 = .ok (.goto (-22), 3) := by decide +kernel
theorem dX7_read_44 : decode cX7_read 44 = .ok (.aload_n 0, 1) := by decide +kernel
theorem dX7_read_45 : decode cX7_read 45 = .ok (.iconst 0, 1) := by decide +kernel
theorem dX7_read_46 : decode cX7_read 46 = .ok (.putfield 225, 3) := by decide +kernel
theorem dX7_read_49 : decode cX7_read 49 = .ok (.aload_n 0, 1) := by decide +kernel
theorem dX7_read_50 : decode cX7_read 50 = .ok (.aload_n 0, 1) := by decide +kernel
theorem dX7_read_51 : decode cX7_read 51 = .ok (.getfield 228, 3) := by decide +kernel
theorem dX7_read_54 : decode cX7_read 54 = .ok (.ifCond .eq 10, 3) := by decide +kernel
theorem dX7_read_57 : decode cX7_read 57 = .ok (.aload_n 0, 1) := by decide +kernel
theorem dX7_read_58 : decode cX7_read 58 = .ok (.getfield 232, 3) := by decide +kernel
theorem dX7_read_61 : decode cX7_read 61 = .ok (.goto 7, 3) := by decide +kernel
theorem dX7_read_64 : decode cX7_read 64 = .ok (.aload_n 0, 1) := by decide +kernel
theorem dX7_read_65 : decode cX7_read 65 = .ok (.getfield 35, 3) := by decide +kernel
theorem dX7_read_68 : decode cX7_read 68 = .ok (.putfield 35, 3) := by decide +kernel
theorem dX7_read_71 : decode cX7_read 71 = .ok (.aload_n 0, 1) := by decide +kernel
theorem dX7_read_72 : decode cX7_read 72 = .ok (.aload_n 0, 1) := by decide +kernel
theorem dX7_read_73 : decode cX7_read 73 = .ok (.getfield 228, 3) := by decide +kernel
theorem dX7_read_76 : decode cX7_read 76 = .ok (.ifCond .eq 7, 3) := by decide +kernel
theorem dX7_read_79 : decode cX7_read 79 = .ok (.iconst 1, 1) := by decide +kernel
theorem dX7_read_80 : decode cX7_read 80 = .ok (.goto 4, 3) := by decide +kernel
theorem dX7_read_83 : decode cX7_read 83 = .ok (.iconst 0, 1) := by decide +kernel
theorem dX7_read_84 : decode cX7_read 84 = .ok (.putfield 48, 3) := by decide +kernel
theorem dX7_read_87 : decode cX7_read 87 = .ok (.aload_n 0, 1) := by decide +kernel
theorem dX7_read_88 : decode cX7_read 88 = .ok (.invokevirtual 64, 3) := by decide +kernel
theorem dX7_read_91 : decode cX7_read 91 = .ok (.iconst 0, 1) := by decide +kernel
theorem dX7_read_92 : decode cX7_read 92 = .ok (.istore_n 1, 1) := by decide +kernel
theorem dX7_read_93 : decode cX7_read 93 = .ok (.iload_n 1, 1) := by decide +kernel
theorem dX7_read_94 : decode cX7_read 94 = .ok (.aload_n 0, 1) := by decide +kernel
theorem dX7_read_95 : decode cX7_read 95 = .ok (.getfield 246, 3) := by decide +kernel
theorem dX7_read_98 : decode cX7_read 98 = .ok (.if_icmp .ge 45, 3) := by decide +kernel
theorem dX7_read_101 : decode cX7_read 101 = .ok (.aload_n 0, 1) := by decide +kernel
theorem dX7_read_102 : decode cX7_read 102 = .ok (.getfield 48, 3) := by decide +kernel
theorem dX7_read_105 : decode cX7_read 105 = .ok (.ifCond .ne 38, 3) := by decide +kernel
theorem dX7_read_108 : decode cX7_read 108 = .ok (.aload_n 0, 1) := by decide +kernel
theorem dX7_read_109 : decode cX7_read 109 = .ok (.iload_n 1, 1) := by decide +kernel
theorem dX7_read_110 : decode cX7_read 110 = .ok (.invokevirtual 256, 3) := by decide +kernel
theorem dX7_read_113 : decode cX7_read 113 = .ok (.ifCond .eq 24, 3) := by decide +kernel
theorem dX7_read_116 : decode cX7_read 116 = .ok (.aload_n 0, 1) := by decide +kernel
theorem dX7_read_117 : decode cX7_read 117 = .ok (.iconst 2, 1) := by decide +kernel
theorem dX7_read_118 : decode cX7_read 118 = .ok (.putfield 48, 3) := by decide +kernel
theorem dX7_read_121 : decode cX7_read 121 = .ok (.aload_n 0, 1) := by decide +kernel
theorem dX7_read_122 : decode cX7_read 122 = .ok (.getfield 16, 3) := by decide +kernel
theorem dX7_read_125 : decode cX7_read 125 = .ok (.iconst 0, 1) := by decide +kernel
theorem dX7_read_126 : decode cX7_read 126 = .ok (.aload_n 0, 1) := by decide +kernel
theorem dX7_read_127 : decode cX7_read 127 = .ok (.getfield 9, 3) := by decide +kernel
theorem dX7_read_130 : decode cX7_read 130 = .ok (.iconst 0, 1) := by decide +kernel
theorem dX7_read_131 : decode cX7_read 131 = .ok (.sipush 162, 3) := by decide +kernel
theorem dX7_read_134 : decode cX7_read 134 = .ok (.invokestatic 58, 3) := by decide +kernel
theorem dX7_read_137 : decode cX7_read 137 = .ok (.iinc 1 1, 3) := by decide +kernel
theorem dX7_read_140 : decode cX7_read 140 = .ok (.goto (-47), 3) := by decide +kernel
theorem dX7_read_143 : decode cX7_read 143 = .ok (.aload_n 0, 1) := by decide +kernel
theorem dX7_read_144 : decode cX7_read 144 = .ok (.getfield 48, 3) := by decide +kernel
theorem dX7_read_147 : decode cX7_read 147 = .ok (.ifCond .le 5, 3) := by decide +kernel
theorem dX7_read_150 : decode cX7_read 150 = .ok (.iconst 0, 1) := by decide +kernel
theorem dX7_read_151 : decode cX7_read 151 = .ok (.ireturn, 1) := by decide +kernel
theorem dX7_read_152 : decode cX7_read 152 = .ok (.aload_n 0, 1) := by decide +kernel
theorem dX7_read_153 : decode cX7_read 153 = .ok (.invokevirtual 67, 3) := by decide +kernel
theorem dX7_read_156 : decode cX7_read 156 = .ok (.aload_n 0, 1) := by decide +kernel
theorem dX7_read_157 : decode cX7_read 157 = .ok (.getfield 246, 3) := by decide +kernel
theorem dX7_read_160 : decode cX7_read 160 = .ok (.ireturn, 1) := by decide +kernel
theorem dX7_errorPosition_0 : decode cX7_errorPosition 0 = .ok (.aload_n 0, 1) := by decide +kernel
theorem dX7_errorPosition_1 : decode cX7_errorPosition 1 = .ok (.aload_n 0, 1) := by decide +kernel
theorem dX7_errorPosition_2 : decode cX7_errorPosition 2 = .ok (.getfield 35, 3) := by decide +kernel
theorem dX7_errorPosition_5 : decode cX7_errorPosition 5 = .ok (.ifCond .ge 7, 3) := by decide +kernel
theorem dX7_errorPosition_8 : decode cX7_errorPosition 8 = .ok (.iconst 1, 1) := by decide +kernel
theorem dX7_errorPosition_9 : decode cX7_errorPosition 9 = .ok (.goto 4, 3) := by decide +kernel
theorem dX7_errorPosition_12 : decode cX7_errorPosition 12 = .ok (.iconst 0, 1) := by decide +kernel
theorem dX7_errorPosition_13 : decode cX7_errorPosition 13 = .ok (.putfield 48, 3) := by decide +kernel
theorem dX7_errorPosition_16 : decode cX7_errorPosition 16 = .ok (.aload_n 0, 1) := by decide +kernel
theorem dX7_errorPosition_17 : decode cX7_errorPosition 17 = .ok (.getfield 48, 3) := by decide +kernel
theorem dX7_errorPosition_20 : decode cX7_errorPosition 20 = .ok (.ifCond .le 7, 3) := by decide +kernel
theorem dX7_errorPosition_23 : decode cX7_errorPosition 23 = .ok (.iconst 0, 1) := by decide +kernel
theorem dX7_errorPosition_24 : decode cX7_errorPosition 24 = .ok (.goto 7, 3) := by decide +kernel
theorem dX7_errorPosition_27 : decode cX7_errorPosition 27 = .ok (.aload_n 0, 1) := by decide +kernel
theorem dX7_errorPosition_28 : decode cX7_errorPosition 28 = .ok (.getfield 35, 3) := by decide +kernel
theorem dX7_errorPosition_31 : decode cX7_errorPosition 31 = .ok (.ireturn, 1) := by decide +kernel
theorem dX7_undo_0 : decode cX7_undo 0 = .ok (.aload_n 0, 1) := by decide +kernel
theorem dX7_undo_1 : decode cX7_undo 1 = .ok (.aload_n 0, 1) := by decide +kernel
theorem dX7_undo_2 : decode cX7_undo 2 = .ok (.getfield 55, 3) := by decide +kernel
theorem dX7_undo_5 : decode cX7_undo 5 = .ok (.ifCond .ne 7, 3) := by decide +kernel
theorem dX7_undo_8 : decode cX7_undo 8 = .ok (.iconst 1, 1) := by decide +kernel
theorem dX7_undo_9 : decode cX7_undo 9 = .ok (.goto 4, 3) := by decide +kernel
theorem dX7_undo_12 : decode cX7_undo 12 = .ok (.iconst 0, 1) := by decide +kernel
theorem dX7_undo_13 : decode cX7_undo 13 = .ok (.putfield 48, 3) := by decide +kernel
theorem dX7_undo_16 : decode cX7_undo 16 = .ok (.aload_n 0, 1) := by decide +kernel
theorem dX7_undo_17 : decode cX7_undo 17 = .ok (.getfield 48, 3) := by decide +kernel
theorem dX7_undo_20 : decode cX7_undo 20 = .ok (.ifCond .le 5, 3) := by decide +kernel
theorem dX7_undo_23 : decode cX7_undo 23 = .ok (.iconst 0, 1) := by decide +kernel
theorem dX7_undo_24 : decode cX7_undo 24 = .ok (.ireturn, 1) := by decide +kernel
theorem dX7_undo_25 : decode cX7_undo 25 = .ok (.aload_n 0, 1) := by decide +kernel
theorem dX7_undo_26 : decode cX7_undo 26 = .ok (.dup, 1) := by decide +kernel
theorem dX7_undo_27 : decode cX7_undo 27 = .ok (.getfield 55, 3) := by decide +kernel
theorem dX7_undo_30 : decode cX7_undo 30 = .ok (.iconst 1, 1) := by decide +kernel
theorem dX7_undo_31 : decode cX7_undo 31 = .ok (.isub, 1) := by decide +kernel
theorem dX7_undo_32 : decode cX7_undo 32 = .ok (.putfield 55, 3) := by decide +kernel
theorem dX7_undo_35 : decode cX7_undo 35 = .ok (.aload_n 0, 1) := by decide +kernel
theorem dX7_undo_36 : decode cX7_undo 36 = .ok (.getfield 22, 3) := by decide +kernel
theorem dX7_undo_39 : decode cX7_undo 39 = .ok (.sipush 162, 3) := by decide +kernel
theorem dX7_undo_42 : decode cX7_undo 42 = .ok (.aload_n 0, 1) := by decide +kernel
theorem dX7_undo_43 : decode cX7_undo 43 = .ok (.getfield 55, 3) := by decide +kernel
theorem dX7_undo_46 : decode cX7_undo 46 = .ok (.imul, 1) := by decide +kernel
theorem dX7_undo_47 : decode cX7_undo 47 = .ok (.aload_n 0, 1) := by decide +kernel
theorem dX7_undo_48 : decode cX7_undo 48 = .ok (.getfield 9, 3) := by decide +kernel
theorem dX7_undo_51 : decode cX7_undo 51 = .ok (.iconst 0, 1) := by decide +kernel
theorem dX7_undo_52 : decode cX7_undo 52 = .ok (.sipush 162, 3) := by decide +kernel
theorem dX7_undo_55 : decode cX7_undo 55 = .ok (.invokestatic 58, 3) := by decide +kernel
theorem dX7_undo_58 : decode cX7_undo 58 = .ok (.aload_n 0, 1) := by decide +kernel
theorem dX7_undo_59 : decode cX7_undo 59 = .ok (.getfield 55, 3) := by decide +kernel
theorem dX7_undo_62 : decode cX7_undo 62 = .ok (.ireturn, 1) := by decide +kernel
theorem dX7_save_0 : decode cX7_save 0 = .ok (.aload_n 0, 1) := by decide +kernel
theorem dX7_save_1 : decode cX7_save 1 = .ok (.iconst 0, 1) := by decide +kernel
theorem dX7_save_2 : decode cX7_save 2 = .ok (.putfield 48, 3) := by decide +kernel
theorem dX7_save_5 : decode cX7_save 5 = .ok (.aload_n 0, 1) := by decide +kernel
theorem dX7_save_6 : decode cX7_save 6 = .ok (.getfield 9, 3) := by decide +kernel
theorem dX7_save_9 : decode cX7_save 9 = .ok (.iconst 0, 1) := by decide +kernel
theorem dX7_save_10 : decode cX7_save 10 = .ok (.aload_n 0, 1) := by decide +kernel
theorem dX7_save_11 : decode cX7_save 11 = .ok (.getfield 19, 3) := by decide +kernel
theorem dX7_save_14 : decode cX7_save 14 = .ok (.iconst 0, 1) := by decide +kernel
theorem dX7_save_15 : decode cX7_save 15 = .ok (.sipush 162, 3) := by decide +kernel
theorem dX7_save_18 : decode cX7_save 18 = .ok (.invokestatic 58, 3) := by decide +kernel
theorem dX7_save_21 : decode cX7_save 21 = .ok (.aload_n 0, 1) := by decide +kernel
theorem dX7_save_22 : decode cX7_save 22 = .ok (.iconst 1, 1) := by decide +kernel
theorem dX7_save_23 : decode cX7_save 23 = .ok (.putfield 259, 3) := by decide +kernel
theorem dX7_save_26 : decode cX7_save 26 = .ok (.aload_n 0, 1) := by decide +kernel
theorem dX7_save_27 : decode cX7_save 27 = .ok (.getfield 9, 3) := by decide +kernel
theorem dX7_save_30 : decode cX7_save 30 = .ok (.iconst 1, 1) := by decide +kernel
theorem dX7_save_31 : decode cX7_save 31 = .ok (.iaload, 1) := by decide +kernel
theorem dX7_save_32 : decode cX7_save 32 = .ok (.ireturn, 1) := by decide +kernel
theorem dX7_restore_0 : decode cX7_restore 0 = .ok (.aload_n 0, 1) := by decide +kernel
theorem dX7_restore_1 : decode cX7_restore 1 = .ok (.aload_n 0, 1) := by decide +kernel
theorem dX7_restore_2 : decode cX7_restore 2 = .ok (.getfield 259, 3) := by decide +kernel
theorem dX7_restore_5 : decode cX7_restore 5 = .ok (.ifCond .eq 7, 3) := by decide +kernel
theorem dX7_restore_8 : decode cX7_restore 8 = .ok (.iconst 0, 1) := by decide +kernel
theorem dX7_restore_9 : decode cX7_restore 9 = .ok (.goto 4, 3) := by decide +kernel
theorem dX7_restore_12 : decode cX7_restore 12 = .ok (.iconst 1, 1) := by decide +kernel
theorem dX7_restore_13 : decode cX7_restore 13 = .ok (.putfield 48, 3) := by decide +kernel
theorem dX7_restore_16 : decode cX7_restore 16 = .ok (.aload_n 0, 1) := by decide +kernel
theorem dX7_restore_17 : decode cX7_restore 17 = .ok (.getfield 48, 3) := by decide +kernel
theorem dX7_restore_20 : decode cX7_restore 20 = .ok (.ifCond .le 5, 3) := by decide +kernel
theorem dX7_restore_23 : decode cX7_restore 23 = .ok (.iconst 0, 1) := by decide +kernel
theorem dX7_restore_24 : decode cX7_restore 24 = .ok (.ireturn, 1) := by decide +kernel
theorem dX7_restore_25 : decode cX7_restore 25 = .ok (.aload_n 0, 1) := by decide +kernel
theorem dX7_restore_26 : decode cX7_restore 26 = .ok (.getfield 19, 3) := by decide +kernel
theorem dX7_restore_29 : decode cX7_restore 29 = .ok (.iconst 0, 1) := by decide +kernel
theorem dX7_restore_30 : decode cX7_restore 30 = .ok (.aload_n 0, 1) := by decide +kernel
theorem dX7_restore_31 : decode cX7_restore 31 = .ok (.getfield 9, 3) := by decide +kernel
theorem dX7_restore_34 : decode cX7_restore 34 = .ok (.iconst 0, 1) := by decide +kernel
theorem dX7_restore_35 : decode cX7_restore 35 = .ok (.sipush 162, 3) := by decide +kernel
theorem dX7_restore_38 : decode cX7_restore 38 = .ok (.invokestatic 58, 3) := by decide +kernel
theorem dX7_restore_41 : decode cX7_restore 41 = .ok (.aload_n 0, 1) := by decide +kernel
theorem dX7_restore_42 : decode cX7_restore 42 = .ok (.iconst 0, 1) := by decide +kernel
theorem dX7_restore_43 : decode cX7_restore 43 = .ok (.putfield 55, 3) := by decide +kernel
theorem dX7_restore_46 : decode cX7_restore 46 = .ok (.aload_n 0, 1) := by decide +kernel
theorem dX7_restore_47 : decode cX7_restore 47 = .ok (.getfield 9, 3) := by decide +kernel
theorem dX7_restore_50 : decode cX7_restore 50 = .ok (.iconst 1, 1) := by decide +kernel
theorem dX7_restore_51 : decode cX7_restore 51 = .ok (.iaload, 1) := by decide +kernel
theorem dX7_restore_52 : decode cX7_restore 52 = .ok (.ireturn, 1) := by decide +kernel
theorem dJx00060_init_a7421_0 : decode cJx00060_init_a7421 0 = .ok (.aload_n 0, 1) := by decide +kernel
theorem dJx00060_init_a7421_1 : decode cJx00060_init_a7421 1 = .ok (.aload_n 1, 1) := by decide +kernel
theorem dJx00060_init_a7421_2 : decode cJx00060_init_a7421 2 = .ok (.invokespecial 7, 3) := by decide +kernel
theorem dJx00060_init_a7421_5 : decode cJx00060_init_a7421 5 = .ok (.return_, 1) := by decide +kernel
theorem dJ6_bitCount_0f7a4_0 : decode cJ6_bitCount_0f7a4 0 = .ok (.iload_n 0, 1) := by decide +kernel
theorem dJ6_bitCount_0f7a4_1 : decode cJ6_bitCount_0f7a4 1 = .ok (.iload_n 0, 1) := by decide +kernel
theorem dJ6_bitCount_0f7a4_2 : decode cJ6_bitCount_0f7a4 2 = .ok (.iconst 1, 1) := by decide +kernel
theorem dJ6_bitCount_0f7a4_3 : decode cJ6_bitCount_0f7a4 3 = .ok (.iushr, 1) := by decide +kernel
theorem dJ6_bitCount_0f7a4_4 : decode cJ6_bitCount_0f7a4 4 = .ok (.ldc_w 265, 3) := by decide +kernel
theorem dJ6_bitCount_0f7a4_7 : decode cJ6_bitCount_0f7a4 7 = .ok (.iand, 1) := by decide +kernel
theorem dJ6_bitCount_0f7a4_8 : decode cJ6_bitCount_0f7a4 8 = .ok (.isub, 1) := by decide +kernel
theorem dJ6_bitCount_0f7a4_9 : decode cJ6_bitCount_0f7a4 9 = .ok (.istore_n 0, 1) := by decide +kernel
theorem dJ6_bitCount_0f7a4_10 : decode cJ6_bitCount_0f7a4 10 = .ok (.iload_n 0, 1) := by decide +kernel
theorem dJ6_bitCount_0f7a4_11 : decode cJ6_bitCount_0f7a4 11 = .ok (.ldc_w 266, 3) := by decide +kernel
theorem dJ6_bitCount_0f7a4_14 : decode cJ6_bitCount_0f7a4 14 = .ok (.iand, 1) := by decide +kernel
theorem dJ6_bitCount_0f7a4_15 : decode cJ6_bitCount_0f7a4 15 = .ok (.iload_n 0, 1) := by decide +kernel
theorem dJ6_bitCount_0f7a4_16 : decode cJ6_bitCount_0f7a4 16 = .ok (.iconst 2, 1) := by decide +kernel
theorem dJ6_bitCount_0f7a4_17 : decode cJ6_bitCount_0f7a4 17 = .ok (.iushr, 1) := by decide +kernel
theorem dJ6_bitCount_0f7a4_18 : decode cJ6_bitCount_0f7a4 18 = .ok (.ldc_w 266, 3) := by decide +kernel
theorem dJ6_bitCount_0f7a4_21 : decode cJ6_bitCount_0f7a4 21 = .ok (.iand, 1) := by decide +kernel
theorem dJ6_bitCount_0f7a4_22 : decode cJ6_bitCount_0f7a4 22 = .ok (.iadd, 1) := by decide +kernel
theorem dJ6_bitCount_0f7a4_23 : decode cJ6_bitCount_0f7a4 23 = .ok (.istore_n 0, 1) := by decide +kernel
theorem dJ6_bitCount_0f7a4_24 : decode cJ6_bitCount_0f7a4 24 = .ok (.iload_n 0, 1) := by decide +kernel
theorem dJ6_bitCount_0f7a4_25 : decode cJ6_bitCount_0f7a4 25 = .ok (.iload_n 0, 1) := by decide +kernel
theorem dJ6_bitCount_0f7a4_26 : decode cJ6_bitCount_0f7a4 26 = .ok (.iconst 4, 1) := by decide +kernel
theorem dJ6_bitCount_0f7a4_27 : decode cJ6_bitCount_0f7a4 27 = .ok (.iushr, 1) := by decide +kernel
theorem dJ6_bitCount_0f7a4_28 : decode cJ6_bitCount_0f7a4 28 = .ok (.iadd, 1) := by decide +kernel
theorem dJ6_bitCount_0f7a4_29 : decode cJ6_bitCount_0f7a4 29 = .ok (.ldc_w 267, 3) := by decide +kernel
theorem dJ6_bitCount_0f7a4_32 : decode cJ6_bitCount_0f7a4 32 = .ok (.iand, 1) := by decide +kernel
theorem dJ6_bitCount_0f7a4_33 : decode cJ6_bitCount_0f7a4 33 = .ok (.istore_n 0, 1) := by decide +kernel
theorem dJ6_bitCount_0f7a4_34 : decode cJ6_bitCount_0f7a4 34 = .ok (.iload_n 0, 1) := by decide +kernel
theorem dJ6_bitCount_0f7a4_35 : decode cJ6_bitCount_0f7a4 35 = .ok (.iload_n 0, 1) := by decide +kernel
theorem dJ6_bitCount_0f7a4_36 : decode cJ6_bitCount_0f7a4 36 = .ok (.bipush 8, 2) := by decide +kernel
theorem dJ6_bitCount_0f7a4_38 : decode cJ6_bitCount_0f7a4 38 = .ok (.iushr, 1) := by decide +kernel
theorem dJ6_bitCount_0f7a4_39 : decode cJ6_bitCount_0f7a4 39 = .ok (.iadd, 1) := by decide +kernel
theorem dJ6_bitCount_0f7a4_40 : decode cJ6_bitCount_0f7a4 40 = .ok (.istore_n 0, 1) := by decide +kernel
theorem dJ6_bitCount_0f7a4_41 : decode cJ6_bitCount_0f7a4 41 = .ok (.iload_n 0, 1) := by decide +kernel
theorem dJ6_bitCount_0f7a4_42 : decode cJ6_bitCount_0f7a4 42 = .ok (.iload_n 0, 1) := by decide +kernel
theorem dJ6_bitCount_0f7a4_43 : decode cJ6_bitCount_0f7a4 43 = .ok (.bipush 16, 2) := by decide +kernel
theorem dJ6_bitCount_0f7a4_45 : decode cJ6_bitCount_0f7a4 45 = .ok (.iushr, 1) := by decide +kernel
theorem dJ6_bitCount_0f7a4_46 : decode cJ6_bitCount_0f7a4 46 = .ok (.iadd, 1) := by decide +kernel
theorem dJ6_bitCount_0f7a4_47 : decode cJ6_bitCount_0f7a4 47 = .ok (.istore_n 0, 1) := by decide +kernel
theorem dJ6_bitCount_0f7a4_48 : decode cJ6_bitCount_0f7a4 48 = .ok (.iload_n 0, 1) := by decide +kernel
theorem dJ6_bitCount_0f7a4_49 : decode cJ6_bitCount_0f7a4 49 = .ok (.bipush 63, 2) := by decide +kernel
theorem dJ6_bitCount_0f7a4_51 : decode cJ6_bitCount_0f7a4 51 = .ok (.iand, 1) := by decide +kernel
theorem dJ6_bitCount_0f7a4_52 : decode cJ6_bitCount_0f7a4 52 = .ok (.ireturn, 1) := by decide +kernel
theorem dJ9_max_7cf53_0 : decode cJ9_max_7cf53 0 = .ok (.iload_n 0, 1) := by decide +kernel
theorem dJ9_max_7cf53_1 : decode cJ9_max_7cf53 1 = .ok (.iload_n 1, 1) := by decide +kernel
theorem dJ9_max_7cf53_2 : decode cJ9_max_7cf53 2 = .ok (.if_icmp .lt 7, 3) := by decide +kernel
theorem dJ9_max_7cf53_5 : decode cJ9_max_7cf53 5 = .ok (.iload_n 0, 1) := by decide +kernel
theorem dJ9_max_7cf53_6 : decode cJ9_max_7cf53 6 = .ok (.goto 4, 3) := by decide +kernel
theorem dJ9_max_7cf53_9 : decode cJ9_max_7cf53 9 = .ok (.iload_n 1, 1) := by decide +kernel
theorem dJ9_max_7cf53_10 : decode cJ9_max_7cf53 10 = .ok (.ireturn, 1) := by decide +kernel
theorem dJ9_min_7cf53_0 : decode cJ9_min_7cf53 0 = .ok (.iload_n 0, 1) := by decide +kernel
theorem dJ9_min_7cf53_1 : decode cJ9_min_7cf53 1 = .ok (.iload_n 1, 1) := by decide +kernel
theorem dJ9_min_7cf53_2 : decode cJ9_min_7cf53 2 = .ok (.if_icmp .gt 7, 3) := by decide +kernel
theorem dJ9_min_7cf53_5 : decode cJ9_min_7cf53 5 = .ok (.iload_n 0, 1) := by decide +kernel
theorem dJ9_min_7cf53_6 : decode cJ9_min_7cf53 6 = .ok (.goto 4, 3) := by decide +kernel
theorem dJ9_min_7cf53_9 : decode cJ9_min_7cf53 9 = .ok (.iload_n 1, 1) := by decide +kernel
theorem dJ9_min_7cf53_10 : decode cJ9_min_7cf53 10 = .ok (.ireturn, 1) := by decide +kernel
theorem dJ0_length_8abf5_0 : decode cJ0_length_8abf5 0 = .ok (.aload_n 0, 1) := by decide +kernel
theorem dJ0_length_8abf5_1 : decode cJ0_length_8abf5 1 = .ok (.getfield 9, 3) := by decide +kernel
theorem dJ0_length_8abf5_4 : decode cJ0_length_8abf5 4 = .ok (.arraylength, 1) := by decide +kernel
theorem dJ0_length_8abf5_5 : decode cJ0_length_8abf5 5 = .ok (.aload_n 0, 1) := by decide +kernel
theorem dJ0_length_8abf5_6 : decode cJ0_length_8abf5 6 = .ok (.invokevirtual 335, 3) := by decide +kernel
theorem dJ0_length_8abf5_9 : decode cJ0_length_8abf5 9 = .ok (.ishr, 1) := by decide +kernel
theorem dJ0_length_8abf5_10 : decode cJ0_length_8abf5 10 = .ok (.ireturn, 1) := by decide +kernel
theorem dJ0_isEmpty_aae02_0 : decode cJ0_isEmpty_aae02 0 = .ok (.aload_n 0, 1) := by decide +kernel
theorem dJ0_isEmpty_aae02_1 : decode cJ0_isEmpty_aae02 1 = .ok (.getfield 9, 3) := by decide +kernel
theorem dJ0_isEmpty_aae02_4 : decode cJ0_isEmpty_aae02 4 = .ok (.arraylength, 1) := by decide +kernel
theorem dJ0_isEmpty_aae02_5 : decode cJ0_isEmpty_aae02 5 = .ok (.ifCond .ne 7, 3) := by decide +kernel
theorem dJ0_isEmpty_aae02_8 : decode cJ0_isEmpty_aae02 8 = .ok (.iconst 1, 1) := by decide +kernel
theorem dJ0_isEmpty_aae02_9 : decode cJ0_isEmpty_aae02 9 = .ok (.goto 4, 3) := by decide +kernel
theorem dJ0_isEmpty_aae02_12 : decode cJ0_isEmpty_aae02 12 = .ok (.iconst 0, 1) := by decide +kernel
theorem dJ0_isEmpty_aae02_13 : decode cJ0_isEmpty_aae02 13 = .ok (.ireturn, 1) := by decide +kernel
theorem dJ0_charAt_5068e_0 : decode cJ0_charAt_5068e 0 = .ok (.aload_n 0, 1) := by decide +kernel
theorem dJ0_charAt_5068e_1 : decode cJ0_charAt_5068e 1 = .ok (.invokevirtual 492, 3) := by decide +kernel
theorem dJ0_charAt_5068e_4 : decode cJ0_charAt_5068e 4 = .ok (.ifCond .eq 12, 3) := by decide +kernel
theorem dJ0_charAt_5068e_7 : decode cJ0_charAt_5068e 7 = .ok (.aload_n 0, 1) := by decide +kernel
theorem dJ0_charAt_5068e_8 : decode cJ0_charAt_5068e 8 = .ok (.getfield 9, 3) := by decide +kernel
theorem dJ0_charAt_5068e_11 : decode cJ0_charAt_5068e 11 = .ok (.iload_n 1, 1) := by decide +kernel
theorem dJ0_charAt_5068e_12 : decode cJ0_charAt_5068e 12 = .ok (.invokestatic 495, 3) := by decide +kernel
theorem dJ0_charAt_5068e_15 : decode cJ0_charAt_5068e 15 = .ok (.ireturn, 1) := by decide +kernel
theorem dJ0_charAt_5068e_16 : decode cJ0_charAt_5068e 16 = .ok (.aload_n 0, 1) := by decide +kernel
theorem dJ0_charAt_5068e_17 : decode cJ0_charAt_5068e 17 = .ok (.getfield 9, 3) := by decide +kernel
theorem dJ0_charAt_5068e_20 : decode cJ0_charAt_5068e 20 = .ok (.iload_n 1, 1) := by decide +kernel
theorem dJ0_charAt_5068e_21 : decode cJ0_charAt_5068e 21 = .ok (.invokestatic 498, 3) := by decide +kernel
theorem dJ0_charAt_5068e_24 : decode cJ0_charAt_5068e 24 = .ok (.ireturn, 1) := by decide +kernel
theorem dJ0_coder_7d493_0 : decode cJ0_coder_7d493 0 = .ok (.getstatic 38, 3) := by decide +kernel
theorem dJ0_coder_7d493_3 : decode cJ0_coder_7d493 3 = .ok (.ifCond .eq 10, 3) := by decide +kernel
theorem dJ0_coder_7d493_6 : decode cJ0_coder_7d493 6 = .ok (.aload_n 0, 1) := by decide +kernel
theorem dJ0_coder_7d493_7 : decode cJ0_coder_7d493 7 = .ok (.getfield 15, 3) := by decide +kernel
theorem dJ0_coder_7d493_10 : decode cJ0_coder_7d493 10 = .ok (.goto 4, 3) := by decide +kernel
theorem dJ0_coder_7d493_13 : decode cJ0_coder_7d493 13 = .ok (.iconst 1, 1) := by decide +kernel
theorem dJ0_coder_7d493_14 : decode cJ0_coder_7d493 14 = .ok (.ireturn, 1) := by decide +kernel
theorem dJ0_isLatin1_aae02_0 : decode cJ0_isLatin1_aae02 0 = .ok (.getstatic 38, 3) := by decide +kernel
theorem dJ0_isLatin1_aae02_3 : decode cJ0_isLatin1_aae02 3 = .ok (.ifCond .eq 14, 3) := by decide +kernel
theorem dJ0_isLatin1_aae02_6 : decode cJ0_isLatin1_aae02 6 = .ok (.aload_n 0, 1) := by decide +kernel
theorem dJ0_isLatin1_aae02_7 : decode cJ0_isLatin1_aae02 7 = .ok (.getfield 15, 3) := by decide +kernel
theorem dJ0_isLatin1_aae02_10 : decode cJ0_isLatin1_aae02 10 = .ok (.ifCond .ne 7, 3) := by decide +kernel
theorem dJ0_isLatin1_aae02_13 : decode cJ0_isLatin1_aae02 13 = .ok (.iconst 1, 1) := by decide +kernel
theorem dJ0_isLatin1_aae02_14 : decode cJ0_isLatin1_aae02 14 = .ok (.goto 4, 3) := by decide +kernel
theorem dJ0_isLatin1_aae02_17 : decode cJ0_isLatin1_aae02 17 = .ok (.iconst 0, 1) := by decide +kernel
theorem dJ0_isLatin1_aae02_18 : decode cJ0_isLatin1_aae02 18 = .ok (.ireturn, 1) := by decide +kernel
theorem dJ0_checkIndex_df160_0 : decode cJ0_checkIndex_df160 0 = .ok (.iload_n 0, 1) := by decide +kernel
theorem dJ0_checkIndex_df160_1 : decode cJ0_checkIndex_df160 1 = .ok (.iload_n 1, 1) := by decide +kernel
theorem dJ0_checkIndex_df160_2 : decode cJ0_checkIndex_df160 2 = .ok (.getstatic 1053, 3) := by decide +kernel
theorem dJ0_checkIndex_df160_5 : decode cJ0_checkIndex_df160 5 = .ok (.invokestatic 1059, 3) := by decide +kernel
theorem dJ0_checkIndex_df160_8 : decode cJ0_checkIndex_df160 8 = .ok (.pop, 1) := by decide +kernel
theorem dJ0_checkIndex_df160_9 : decode cJ0_checkIndex_df160 9 = .ok (.return_, 1) := by decide +kernel
theorem dJ1_charAt_3b067_0 : decode cJ1_charAt_3b067 0 = .ok (.iload_n 1, 1) := by decide +kernel
theorem dJ1_charAt_3b067_1 : decode cJ1_charAt_3b067 1 = .ok (.aload_n 0, 1) := by decide +kernel
theorem dJ1_charAt_3b067_2 : decode cJ1_charAt_3b067 2 = .ok (.arraylength, 1) := by decide +kernel
theorem dJ1_charAt_3b067_3 : decode cJ1_charAt_3b067 3 = .ok (.invokestatic 9, 3) := by decide +kernel
theorem dJ1_charAt_3b067_6 : decode cJ1_charAt_3b067 6 = .ok (.aload_n 0, 1) := by decide +kernel
theorem dJ1_charAt_3b067_7 : decode cJ1_charAt_3b067 7 = .ok (.iload_n 1, 1) := by decide +kernel
theorem dJ1_charAt_3b067_8 : decode cJ1_charAt_3b067 8 = .ok (.baload, 1) := by decide +kernel
theorem dJ1_charAt_3b067_9 : decode cJ1_charAt_3b067 9 = .ok (.sipush 255, 3) := by decide +kernel
theorem dJ1_charAt_3b067_12 : decode cJ1_charAt_3b067 12 = .ok (.iand, 1) := by decide +kernel
theorem dJ1_charAt_3b067_13 : decode cJ1_charAt_3b067 13 = .ok (.i2c, 1) := by decide +kernel
theorem dJ1_charAt_3b067_14 : decode cJ1_charAt_3b067 14 = .ok (.ireturn, 1) := by decide +kernel
theorem dJ2_getChar_3b067_0 : decode cJ2_getChar_3b067 0 = .ok (.getstatic 44, 3) := by decide +kernel
theorem dJ2_getChar_3b067_3 : decode cJ2_getChar_3b067 3 = .ok (.ifCond .ne 25, 3) := by decide +kernel
theorem dJ2_getChar_3b067_6 : decode cJ2_getChar_3b067 6 = .ok (.iload_n 1, 1) := by decide +kernel
theorem dJ2_getChar_3b067_7 : decode cJ2_getChar_3b067 7 = .ok (.ifCond .lt 11, 3) := by decide +kernel
theorem dJ2_getChar_3b067_10 : decode cJ2_getChar_3b067 10 = .ok (.iload_n 1, 1) := by decide +kernel
theorem dJ2_getChar_3b067_11 : decode cJ2_getChar_3b067 11 = .ok (.aload_n 0, 1) := by decide +kernel
theorem dJ2_getChar_3b067_12 : decode cJ2_getChar_3b067 12 = .ok (.invokestatic 48, 3) := by decide +kernel
theorem dJ2_getChar_3b067_15 : decode cJ2_getChar_3b067 15 = .ok (.if_icmp .lt 13, 3) := by decide +kernel
theorem dJ2_getChar_3b067_18 : decode cJ2_getChar_3b067 18 = .ok (.new 52, 3) := by decide +kernel
theorem dJ2_getChar_3b067_21 : decode cJ2_getChar_3b067 21 = .ok (.dup, 1) := by decide +kernel
theorem dJ2_getChar_3b067_22 : decode cJ2_getChar_3b067 22 = .ok (.ldc 54, 2) := by decide +kernel
theorem dJ2_getChar_3b067_24 : decode cJ2_getChar_3b067 24 = .ok (.invokespecial 56, 3) := by decide +kernel
theorem dJ2_getChar_3b067_27 : decode cJ2_getChar_3b067 27 = .ok (.athrow, 1) := by decide +kernel
theorem dJ2_getChar_3b067_28 : decode cJ2_getChar_3b067 28 = .ok (.iload_n 1, 1) := by decide +kernel
theorem dJ2_getChar_3b067_29 : decode cJ2_getChar_3b067 29 = .ok (.iconst 1, 1) := by decide +kernel
theorem dJ2_getChar_3b067_30 : decode cJ2_getChar_3b067 30 = .ok (.ishl, 1) := by decide +kernel
theorem dJ2_getChar_3b067_31 : decode cJ2_getChar_3b067 31 = .ok (.istore_n 1, 1) := by decide +kernel
theorem dJ2_getChar_3b067_32 : decode cJ2_getChar_3b067 32 = .ok (.aload_n 0, 1) := by decide +kernel
theorem dJ2_getChar_3b067_33 : decode cJ2_getChar_3b067 33 = .ok (.iload_n 1, 1) := by decide +kernel
theorem dJ2_getChar_3b067_34 : decode cJ2_getChar_3b067 34 = .ok (.iinc 1 1, 3) := by decide +kernel
theorem dJ2_getChar_3b067_37 : decode cJ2_getChar_3b067 37 = .ok (.baload, 1) := by decide +kernel
theorem dJ2_getChar_3b067_38 : decode cJ2_getChar_3b067 38 = .ok (.sipush 255, 3) := by decide +kernel
theorem dJ2_getChar_3b067_41 : decode cJ2_getChar_3b067 41 = .ok (.iand, 1) := by decide +kernel
theorem dJ2_getChar_3b067_42 : decode cJ2_getChar_3b067 42 = .ok (.getstatic 59, 3) := by decide +kernel
theorem dJ2_getChar_3b067_45 : decode cJ2_getChar_3b067 45 = .ok (.ishl, 1) := by decide +kernel
theorem dJ2_getChar_3b067_46 : decode cJ2_getChar_3b067 46 = .ok (.aload_n 0, 1) := by decide +kernel
theorem dJ2_getChar_3b067_47 : decode cJ2_getChar_3b067 47 = .ok (.iload_n 1, 1) := by decide +kernel
theorem dJ2_getChar_3b067_48 : decode cJ2_getChar_3b067 48 = .ok (.baload, 1) := by decide +kernel
theorem dJ2_getChar_3b067_49 : decode cJ2_getChar_3b067 49 = .ok (.sipush 255, 3) := by decide +kernel
theorem dJ2_getChar_3b067_52 : decode cJ2_getChar_3b067 52 = .ok (.iand, 1) := by decide +kernel
theorem dJ2_getChar_3b067_53 : decode cJ2_getChar_3b067 53 = .ok (.getstatic 63, 3) := by decide +kernel
theorem dJ2_getChar_3b067_56 : decode cJ2_getChar_3b067 56 = .ok (.ishl, 1) := by decide +kernel
theorem dJ2_getChar_3b067_57 : decode cJ2_getChar_3b067 57 = .ok (.ior, 1) := by decide +kernel
theorem dJ2_getChar_3b067_58 : decode cJ2_getChar_3b067 58 = .ok (.i2c, 1) := by decide +kernel
theorem dJ2_getChar_3b067_59 : decode cJ2_getChar_3b067 59 = .ok (.ireturn, 1) := by decide +kernel
theorem dJ2_length_9d52b_0 : decode cJ2_length_9d52b 0 = .ok (.aload_n 0, 1) := by decide +kernel
theorem dJ2_length_9d52b_1 : decode cJ2_length_9d52b 1 = .ok (.arraylength, 1) := by decide +kernel
theorem dJ2_length_9d52b_2 : decode cJ2_length_9d52b 2 = .ok (.iconst 1, 1) := by decide +kernel
theorem dJ2_length_9d52b_3 : decode cJ2_length_9d52b 3 = .ok (.ishr, 1) := by decide +kernel
theorem dJ2_length_9d52b_4 : decode cJ2_length_9d52b 4 = .ok (.ireturn, 1) := by decide +kernel
theorem dJ2_charAt_3b067_0 : decode cJ2_charAt_3b067 0 = .ok (.iload_n 1, 1) := by decide +kernel
theorem dJ2_charAt_3b067_1 : decode cJ2_charAt_3b067 1 = .ok (.aload_n 0, 1) := by decide +kernel
theorem dJ2_charAt_3b067_2 : decode cJ2_charAt_3b067 2 = .ok (.invokestatic 67, 3) := by decide +kernel
theorem dJ2_charAt_3b067_5 : decode cJ2_charAt_3b067 5 = .ok (.aload_n 0, 1) := by decide +kernel
theorem dJ2_charAt_3b067_6 : decode cJ2_charAt_3b067 6 = .ok (.iload_n 1, 1) := by decide +kernel
theorem dJ2_charAt_3b067_7 : decode cJ2_charAt_3b067 7 = .ok (.invokestatic 71, 3) := by decide +kernel
theorem dJ2_charAt_3b067_10 : decode cJ2_charAt_3b067 10 = .ok (.ireturn, 1) := by decide +kernel
theorem dJ2_checkIndex_2214a_0 : decode cJ2_checkIndex_2214a 0 = .ok (.iload_n 0, 1) := by decide +kernel
theorem dJ2_checkIndex_2214a_1 : decode cJ2_checkIndex_2214a 1 = .ok (.aload_n 1, 1) := by decide +kernel
theorem dJ2_checkIndex_2214a_2 : decode cJ2_checkIndex_2214a 2 = .ok (.invokestatic 48, 3) := by decide +kernel
theorem dJ2_checkIndex_2214a_5 : decode cJ2_checkIndex_2214a 5 = .ok (.invokestatic 414, 3) := by decide +kernel
theorem dJ2_checkIndex_2214a_8 : decode cJ2_checkIndex_2214a 8 = .ok (.return_, 1) := by decide +kernel
theorem dJ7_fill_53178_0 : decode cJ7_fill_53178 0 = .ok (.iconst 0, 1) := by decide +kernel
theorem dJ7_fill_53178_1 : decode cJ7_fill_53178 1 = .ok (.istore_n 2, 1) := by decide +kernel
theorem dJ7_fill_53178_2 : decode cJ7_fill_53178 2 = .ok (.aload_n 0, 1) := by decide +kernel
theorem dJ7_fill_53178_3 : decode cJ7_fill_53178 3 = .ok (.arraylength, 1) := by decide +kernel
theorem dJ7_fill_53178_4 : decode cJ7_fill_53178 4 = .ok (.istore_n 3, 1) := by decide +kernel
theorem dJ7_fill_53178_5 : decode cJ7_fill_53178 5 = .ok (.iload_n 2, 1) := by decide +kernel
theorem dJ7_fill_53178_6 : decode cJ7_fill_53178 6 = .ok (.iload_n 3, 1) := by decide +kernel
theorem dJ7_fill_53178_7 : decode cJ7_fill_53178 7 = .ok (.if_icmp .ge 13, 3) := by decide +kernel
theorem dJ7_fill_53178_10 : decode cJ7_fill_53178 10 = .ok (.aload_n 0, 1) := by decide +kernel
theorem dJ7_fill_53178_11 : decode cJ7_fill_53178 11 = .ok (.iload_n 2, 1) := by decide +kernel
theorem dJ7_fill_53178_12 : decode cJ7_fill_53178 12 = .ok (.iload_n 1, 1) := by decide +kernel
theorem dJ7_fill_53178_13 : decode cJ7_fill_53178 13 = .ok (.iastore, 1) := by decide +kernel
theorem dJ7_fill_53178_14 : decode cJ7_fill_53178 14 = .ok (.iinc 2 1, 3) := by decide +kernel
theorem dJ7_fill_53178_17 : decode cJ7_fill_53178 17 = .ok (.goto (-12), 3) := by decide +kernel
theorem dJ7_fill_53178_20 : decode cJ7_fill_53178 20 = .ok (.return_, 1) := by decide +kernel
theorem dJ3_checkIndex_8e157_0 : decode cJ3_checkIndex_8e157 0 = .ok (.iload_n 0, 1) := by decide +kernel
theorem dJ3_checkIndex_8e157_1 : decode cJ3_checkIndex_8e157 1 = .ok (.ifCond .lt 8, 3) := by decide +kernel
theorem dJ3_checkIndex_8e157_4 : decode cJ3_checkIndex_8e157 4 = .ok (.iload_n 0, 1) := by decide +kernel
theorem dJ3_checkIndex_8e157_5 : decode cJ3_checkIndex_8e157 5 = .ok (.iload_n 1, 1) := by decide +kernel
theorem dJ3_checkIndex_8e157_6 : decode cJ3_checkIndex_8e157 6 = .ok (.if_icmp .lt 10, 3) := by decide +kernel
theorem dJ3_checkIndex_8e157_9 : decode cJ3_checkIndex_8e157 9 = .ok (.aload_n 2, 1) := by decide +kernel
theorem dJ3_checkIndex_8e157_10 : decode cJ3_checkIndex_8e157 10 = .ok (.iload_n 0, 1) := by decide +kernel
theorem dJ3_checkIndex_8e157_11 : decode cJ3_checkIndex_8e157 11 = .ok (.iload_n 1, 1) := by decide +kernel
theorem dJ3_checkIndex_8e157_12 : decode cJ3_checkIndex_8e157 12 = .ok (.invokestatic 95, 3) := by decide +kernel
theorem dJ3_checkIndex_8e157_15 : decode cJ3_checkIndex_8e157 15 = .ok (.athrow, 1) := by decide +kernel
theorem dJ3_checkIndex_8e157_16 : decode cJ3_checkIndex_8e157 16 = .ok (.iload_n 0, 1) := by decide +kernel
theorem dJ3_checkIndex_8e157_17 : decode cJ3_checkIndex_8e157 17 = .ok (.ireturn, 1) := by decide +kernel
theorem dL_addStand_0 : decode cL_addStand 0 = .ok (.aload_n 3, 1) := by decide +kernel
theorem dL_addStand_1 : decode cL_addStand 1 = .ok (.iconst 0, 1) := by decide +kernel
theorem dL_addStand_2 : decode cL_addStand 2 = .ok (.aload_n 0, 1) := by decide +kernel
theorem dL_addStand_3 : decode cL_addStand 3 = .ok (.iload_n 1, 1) := by decide +kernel
theorem dL_addStand_4 : decode cL_addStand 4 = .ok (.iload_n 2, 1) := by decide +kernel
theorem dL_addStand_5 : decode cL_addStand 5 = .ok (.invokevirtual 7, 3) := by decide +kernel
theorem dL_addStand_8 : decode cL_addStand 8 = .ok (.i2l, 1) := by decide +kernel
theorem dL_addStand_9 : decode cL_addStand 9 = .ok (.lastore, 1) := by decide +kernel
theorem dL_addStand_10 : decode cL_addStand 10 = .ok (.goto 11, 3) := by decide +kernel
theorem dL_addStand_13 : decode cL_addStand 13 = .ok (.astore 4, 2) := by decide +kernel
theorem dL_addStand_15 : decode cL_addStand 15 = .ok (.iconst 1, 1) := by decide +kernel
theorem dL_addStand_16 : decode cL_addStand 16 = .ok (.ireturn, 1) := by decide +kernel
theorem dL_addStand_17 : decode cL_addStand 17 = .ok (.astore 4, 2) := by decide +kernel
theorem dL_addStand_19 : decode cL_addStand 19 = .ok (.iconst 2, 1) := by decide +kernel
theorem dL_addStand_20 : decode cL_addStand 20 = .ok (.ireturn, 1) := by decide +kernel
theorem dL_addStand_21 : decode cL_addStand 21 = .ok (.iconst 0, 1) := by decide +kernel
theorem dL_addStand_22 : decode cL_addStand 22 = .ok (.ireturn, 1) := by decide +kernel
theorem dL_pair_0 : decode cL_pair 0 = .ok (.aload 4, 2) := by decide +kernel
theorem dL_pair_2 : decode cL_pair 2 = .ok (.iconst 0, 1) := by decide +kernel
theorem dL_pair_3 : decode cL_pair 3 = .ok (.aload_n 0, 1) := by decide +kernel
theorem dL_pair_4 : decode cL_pair 4 = .ok (.iload_n 1, 1) := by decide +kernel
theorem dL_pair_5 : decode cL_pair 5 = .ok (.iload_n 2, 1) := by decide +kernel
theorem dL_pair_6 : decode cL_pair 6 = .ok (.iload_n 3, 1) := by decide +kernel
theorem dL_pair_7 : decode cL_pair 7 = .ok (.invokevirtual 17, 3) := by decide +kernel
theorem dL_pair_10 : decode cL_pair 10 = .ok (.i2l, 1) := by decide +kernel
theorem dL_pair_11 : decode cL_pair 11 = .ok (.lastore, 1) := by decide +kernel
theorem dL_pair_12 : decode cL_pair 12 = .ok (.goto 11, 3) := by decide +kernel
theorem dL_pair_15 : decode cL_pair 15 = .ok (.astore 5, 2) := by decide +kernel
theorem dL_pair_17 : decode cL_pair 17 = .ok (.iconst 1, 1) := by decide +kernel
theorem dL_pair_18 : decode cL_pair 18 = .ok (.ireturn, 1) := by decide +kernel
theorem dL_pair_19 : decode cL_pair 19 = .ok (.astore 5, 2) := by decide +kernel
theorem dL_pair_21 : decode cL_pair 21 = .ok (.iconst 2, 1) := by decide +kernel
theorem dL_pair_22 : decode cL_pair 22 = .ok (.ireturn, 1) := by decide +kernel
theorem dL_pair_23 : decode cL_pair 23 = .ok (.iconst 0, 1) := by decide +kernel
theorem dL_pair_24 : decode cL_pair 24 = .ok (.ireturn, 1) := by decide +kernel
theorem dL_setOpen_0 : decode cL_setOpen 0 = .ok (.aload_n 3, 1) := by decide +kernel
theorem dL_setOpen_1 : decode cL_setOpen 1 = .ok (.iconst 0, 1) := by decide +kernel
theorem dL_setOpen_2 : decode cL_setOpen 2 = .ok (.aload_n 0, 1) := by decide +kernel
theorem dL_setOpen_3 : decode cL_setOpen 3 = .ok (.iload_n 1, 1) := by decide +kernel
theorem dL_setOpen_4 : decode cL_setOpen 4 = .ok (.iload_n 2, 1) := by decide +kernel
theorem dL_setOpen_5 : decode cL_setOpen 5 = .ok (.invokevirtual 23, 3) := by decide +kernel
theorem dL_setOpen_8 : decode cL_setOpen 8 = .ok (.ifCond .eq 7, 3) := by decide +kernel
theorem dL_setOpen_11 : decode cL_setOpen 11 = .ok (.lconst 1, 1) := by decide +kernel
theorem dL_setOpen_12 : decode cL_setOpen 12 = .ok (.goto 4, 3) := by decide +kernel
theorem dL_setOpen_15 : decode cL_setOpen 15 = .ok (.lconst 0, 1) := by decide +kernel
theorem dL_setOpen_16 : decode cL_setOpen 16 = .ok (.lastore, 1) := by decide +kernel
theorem dL_setOpen_17 : decode cL_setOpen 17 = .ok (.goto 7, 3) := by decide +kernel
theorem dL_setOpen_20 : decode cL_setOpen 20 = .ok (.astore 4, 2) := by decide +kernel
theorem dL_setOpen_22 : decode cL_setOpen 22 = .ok (.iconst 1, 1) := by decide +kernel
theorem dL_setOpen_23 : decode cL_setOpen 23 = .ok (.ireturn, 1) := by decide +kernel
theorem dL_setOpen_24 : decode cL_setOpen 24 = .ok (.iconst 0, 1) := by decide +kernel
theorem dL_setOpen_25 : decode cL_setOpen 25 = .ok (.ireturn, 1) := by decide +kernel
theorem dL_setBuffer_0 : decode cL_setBuffer 0 = .ok (.aload_n 2, 1) := by decide +kernel
theorem dL_setBuffer_1 : decode cL_setBuffer 1 = .ok (.iconst 0, 1) := by decide +kernel
theorem dL_setBuffer_2 : decode cL_setBuffer 2 = .ok (.aload_n 0, 1) := by decide +kernel
theorem dL_setBuffer_3 : decode cL_setBuffer 3 = .ok (.iload_n 1, 1) := by decide +kernel
theorem dL_setBuffer_4 : decode cL_setBuffer 4 = .ok (.invokevirtual 27, 3) := by decide +kernel
theorem dL_setBuffer_7 : decode cL_setBuffer 7 = .ok (.i2l, 1) := by decide +kernel
theorem dL_setBuffer_8 : decode cL_setBuffer 8 = .ok (.lastore, 1) := by decide +kernel
theorem dL_setBuffer_9 : decode cL_setBuffer 9 = .ok (.goto 6, 3) := by decide +kernel
theorem dL_setBuffer_12 : decode cL_setBuffer 12 = .ok (.astore_n 3, 1) := by decide +kernel
theorem dL_setBuffer_13 : decode cL_setBuffer 13 = .ok (.iconst 1, 1) := by decide +kernel
theorem dL_setBuffer_14 : decode cL_setBuffer 14 = .ok (.ireturn, 1) := by decide +kernel
theorem dL_setBuffer_15 : decode cL_setBuffer 15 = .ok (.iconst 0, 1) := by decide +kernel
theorem dL_setBuffer_16 : decode cL_setBuffer 16 = .ok (.ireturn, 1) := by decide +kernel
theorem dL_stand_0 : decode cL_stand 0 = .ok (.aload_n 3, 1) := by decide +kernel
theorem dL_stand_1 : decode cL_stand 1 = .ok (.iconst 0, 1) := by decide +kernel
theorem dL_stand_2 : decode cL_stand 2 = .ok (.aload_n 0, 1) := by decide +kernel
theorem dL_stand_3 : decode cL_stand 3 = .ok (.iload_n 1, 1) := by decide +kernel
theorem dL_stand_4 : decode cL_stand 4 = .ok (.iload_n 2, 1) := by decide +kernel
theorem dL_stand_5 : decode cL_stand 5 = .ok (.invokevirtual 31, 3) := by decide +kernel
theorem dL_stand_8 : decode cL_stand 8 = .ok (.i2l, 1) := by decide +kernel
theorem dL_stand_9 : decode cL_stand 9 = .ok (.lastore, 1) := by decide +kernel
theorem dL_stand_10 : decode cL_stand 10 = .ok (.goto 11, 3) := by decide +kernel
theorem dL_stand_13 : decode cL_stand 13 = .ok (.astore 4, 2) := by decide +kernel
theorem dL_stand_15 : decode cL_stand 15 = .ok (.iconst 1, 1) := by decide +kernel
theorem dL_stand_16 : decode cL_stand 16 = .ok (.ireturn, 1) := by decide +kernel
theorem dL_stand_17 : decode cL_stand 17 = .ok (.astore 4, 2) := by decide +kernel
theorem dL_stand_19 : decode cL_stand 19 = .ok (.iconst 2, 1) := by decide +kernel
theorem dL_stand_20 : decode cL_stand 20 = .ok (.ireturn, 1) := by decide +kernel
theorem dL_stand_21 : decode cL_stand 21 = .ok (.iconst 0, 1) := by decide +kernel
theorem dL_stand_22 : decode cL_stand 22 = .ok (.ireturn, 1) := by decide +kernel
theorem dL_at_0 : decode cL_at 0 = .ok (.aload_n 3, 1) := by decide +kernel
theorem dL_at_1 : decode cL_at 1 = .ok (.iconst 0, 1) := by decide +kernel
theorem dL_at_2 : decode cL_at 2 = .ok (.aload_n 0, 1) := by decide +kernel
theorem dL_at_3 : decode cL_at 3 = .ok (.iload_n 1, 1) := by decide +kernel
theorem dL_at_4 : decode cL_at 4 = .ok (.iload_n 2, 1) := by decide +kernel
theorem dL_at_5 : decode cL_at 5 = .ok (.invokevirtual 34, 3) := by decide +kernel
theorem dL_at_8 : decode cL_at 8 = .ok (.i2l, 1) := by decide +kernel
theorem dL_at_9 : decode cL_at 9 = .ok (.lastore, 1) := by decide +kernel
theorem dL_at_10 : decode cL_at 10 = .ok (.goto 15, 3) := by decide +kernel
theorem dL_at_13 : decode cL_at 13 = .ok (.astore 4, 2) := by decide +kernel
theorem dL_at_15 : decode cL_at 15 = .ok (.iconst 1, 1) := by decide +kernel
theorem dL_at_16 : decode cL_at 16 = .ok (.ireturn, 1) := by decide +kernel
theorem dL_at_17 : decode cL_at 17 = .ok (.astore 4, 2) := by decide +kernel
theorem dL_at_19 : decode cL_at 19 = .ok (.iconst 2, 1) := by decide +kernel
theorem dL_at_20 : decode cL_at 20 = .ok (.ireturn, 1) := by decide +kernel
theorem dL_at_21 : decode cL_at 21 = .ok (.astore 4, 2) := by decide +kernel
theorem dL_at_23 : decode cL_at 23 = .ok (.iconst 3, 1) := by decide +kernel
theorem dL_at_24 : decode cL_at 24 = .ok (.ireturn, 1) := by decide +kernel
theorem dL_at_25 : decode cL_at 25 = .ok (.iconst 0, 1) := by decide +kernel
theorem dL_at_26 : decode cL_at 26 = .ok (.ireturn, 1) := by decide +kernel
theorem dL_gap_0 : decode cL_gap 0 = .ok (.aload_n 3, 1) := by decide +kernel
theorem dL_gap_1 : decode cL_gap 1 = .ok (.iconst 0, 1) := by decide +kernel
theorem dL_gap_2 : decode cL_gap 2 = .ok (.aload_n 0, 1) := by decide +kernel
theorem dL_gap_3 : decode cL_gap 3 = .ok (.iload_n 1, 1) := by decide +kernel
theorem dL_gap_4 : decode cL_gap 4 = .ok (.iload_n 2, 1) := by decide +kernel
theorem dL_gap_5 : decode cL_gap 5 = .ok (.invokevirtual 39, 3) := by decide +kernel
theorem dL_gap_8 : decode cL_gap 8 = .ok (.i2l, 1) := by decide +kernel
theorem dL_gap_9 : decode cL_gap 9 = .ok (.lastore, 1) := by decide +kernel
theorem dL_gap_10 : decode cL_gap 10 = .ok (.goto 11, 3) := by decide +kernel
theorem dL_gap_13 : decode cL_gap 13 = .ok (.astore 4, 2) := by decide +kernel
theorem dL_gap_15 : decode cL_gap 15 = .ok (.iconst 1, 1) := by decide +kernel
theorem dL_gap_16 : decode cL_gap 16 = .ok (.ireturn, 1) := by decide +kernel
theorem dL_gap_17 : decode cL_gap 17 = .ok (.astore 4, 2) := by decide +kernel
theorem dL_gap_19 : decode cL_gap 19 = .ok (.iconst 2, 1) := by decide +kernel
theorem dL_gap_20 : decode cL_gap 20 = .ok (.ireturn, 1) := by decide +kernel
theorem dL_gap_21 : decode cL_gap 21 = .ok (.iconst 0, 1) := by decide +kernel
theorem dL_gap_22 : decode cL_gap 22 = .ok (.ireturn, 1) := by decide +kernel
theorem dL_addTurn_0 : decode cL_addTurn 0 = .ok (.aload 5, 2) := by decide +kernel
theorem dL_addTurn_2 : decode cL_addTurn 2 = .ok (.iconst 0, 1) := by decide +kernel
theorem dL_addTurn_3 : decode cL_addTurn 3 = .ok (.aload_n 0, 1) := by decide +kernel
theorem dL_addTurn_4 : decode cL_addTurn 4 = .ok (.iload_n 1, 1) := by decide +kernel
theorem dL_addTurn_5 : decode cL_addTurn 5 = .ok (.iload_n 2, 1) := by decide +kernel
theorem dL_addTurn_6 : decode cL_addTurn 6 = .ok (.iload_n 3, 1) := by decide +kernel
theorem dL_addTurn_7 : decode cL_addTurn 7 = .ok (.iload 4, 2) := by decide +kernel
theorem dL_addTurn_9 : decode cL_addTurn 9 = .ok (.invokevirtual 42, 3) := by decide +kernel
theorem dL_addTurn_12 : decode cL_addTurn 12 = .ok (.i2l, 1) := by decide +kernel
theorem dL_addTurn_13 : decode cL_addTurn 13 = .ok (.lastore, 1) := by decide +kernel
theorem dL_addTurn_14 : decode cL_addTurn 14 = .ok (.goto 11, 3) := by decide +kernel
theorem dL_addTurn_17 : decode cL_addTurn 17 = .ok (.astore 6, 2) := by decide +kernel
theorem dL_addTurn_19 : decode cL_addTurn 19 = .ok (.iconst 1, 1) := by decide +kernel
theorem dL_addTurn_20 : decode cL_addTurn 20 = .ok (.ireturn, 1) := by decide +kernel
theorem dL_addTurn_21 : decode cL_addTurn 21 = .ok (.astore 6, 2) := by decide +kernel
theorem dL_addTurn_23 : decode cL_addTurn 23 = .ok (.iconst 2, 1) := by decide +kernel
theorem dL_addTurn_24 : decode cL_addTurn 24 = .ok (.ireturn, 1) := by decide +kernel
theorem dL_addTurn_25 : decode cL_addTurn 25 = .ok (.iconst 0, 1) := by decide +kernel
theorem dL_addTurn_26 : decode cL_addTurn 26 = .ok (.ireturn, 1) := by decide +kernel
theorem dL_turn_0 : decode cL_turn 0 = .ok (.aload_n 3, 1) := by decide +kernel
theorem dL_turn_1 : decode cL_turn 1 = .ok (.iconst 0, 1) := by decide +kernel
theorem dL_turn_2 : decode cL_turn 2 = .ok (.aload_n 0, 1) := by decide +kernel
theorem dL_turn_3 : decode cL_turn 3 = .ok (.iload_n 1, 1) := by decide +kernel
theorem dL_turn_4 : decode cL_turn 4 = .ok (.iload_n 2, 1) := by decide +kernel
theorem dL_turn_5 : decode cL_turn 5 = .ok (.invokevirtual 46, 3) := by decide +kernel
theorem dL_turn_8 : decode cL_turn 8 = .ok (.i2l, 1) := by decide +kernel
theorem dL_turn_9 : decode cL_turn 9 = .ok (.lastore, 1) := by decide +kernel
theorem dL_turn_10 : decode cL_turn 10 = .ok (.goto 11, 3) := by decide +kernel
theorem dL_turn_13 : decode cL_turn 13 = .ok (.astore 4, 2) := by decide +kernel
theorem dL_turn_15 : decode cL_turn 15 = .ok (.iconst 1, 1) := by decide +kernel
theorem dL_turn_16 : decode cL_turn 16 = .ok (.ireturn, 1) := by decide +kernel
theorem dL_turn_17 : decode cL_turn 17 = .ok (.astore 4, 2) := by decide +kernel
theorem dL_turn_19 : decode cL_turn 19 = .ok (.iconst 2, 1) := by decide +kernel
theorem dL_turn_20 : decode cL_turn 20 = .ok (.ireturn, 1) := by decide +kernel
theorem dL_turn_21 : decode cL_turn 21 = .ok (.iconst 0, 1) := by decide +kernel
theorem dL_turn_22 : decode cL_turn 22 = .ok (.ireturn, 1) := by decide +kernel
theorem dL_ofStay_0 : decode cL_ofStay 0 = .ok (.aload 4, 2) := by decide +kernel
theorem dL_ofStay_2 : decode cL_ofStay 2 = .ok (.iconst 0, 1) := by decide +kernel
theorem dL_ofStay_3 : decode cL_ofStay 3 = .ok (.aload_n 0, 1) := by decide +kernel
theorem dL_ofStay_4 : decode cL_ofStay 4 = .ok (.iload_n 1, 1) := by decide +kernel
theorem dL_ofStay_5 : decode cL_ofStay 5 = .ok (.iload_n 2, 1) := by decide +kernel
theorem dL_ofStay_6 : decode cL_ofStay 6 = .ok (.iload_n 3, 1) := by decide +kernel
theorem dL_ofStay_7 : decode cL_ofStay 7 = .ok (.invokevirtual 49, 3) := by decide +kernel
theorem dL_ofStay_10 : decode cL_ofStay 10 = .ok (.i2l, 1) := by decide +kernel
theorem dL_ofStay_11 : decode cL_ofStay 11 = .ok (.lastore, 1) := by decide +kernel
theorem dL_ofStay_12 : decode cL_ofStay 12 = .ok (.goto 11, 3) := by decide +kernel
theorem dL_ofStay_15 : decode cL_ofStay 15 = .ok (.astore 5, 2) := by decide +kernel
theorem dL_ofStay_17 : decode cL_ofStay 17 = .ok (.iconst 1, 1) := by decide +kernel
theorem dL_ofStay_18 : decode cL_ofStay 18 = .ok (.ireturn, 1) := by decide +kernel
theorem dL_ofStay_19 : decode cL_ofStay 19 = .ok (.astore 5, 2) := by decide +kernel
theorem dL_ofStay_21 : decode cL_ofStay 21 = .ok (.iconst 2, 1) := by decide +kernel
theorem dL_ofStay_22 : decode cL_ofStay 22 = .ok (.ireturn, 1) := by decide +kernel
theorem dL_ofStay_23 : decode cL_ofStay 23 = .ok (.iconst 0, 1) := by decide +kernel
theorem dL_ofStay_24 : decode cL_ofStay 24 = .ok (.ireturn, 1) := by decide +kernel
theorem dL_place_0 : decode cL_place 0 = .ok (.aload 4, 2) := by decide +kernel
theorem dL_place_2 : decode cL_place 2 = .ok (.iconst 0, 1) := by decide +kernel
theorem dL_place_3 : decode cL_place 3 = .ok (.aload_n 0, 1) := by decide +kernel
theorem dL_place_4 : decode cL_place 4 = .ok (.iload_n 1, 1) := by decide +kernel
theorem dL_place_5 : decode cL_place 5 = .ok (.iload_n 2, 1) := by decide +kernel
theorem dL_place_6 : decode cL_place 6 = .ok (.iload_n 3, 1) := by decide +kernel
theorem dL_place_7 : decode cL_place 7 = .ok (.invokevirtual 52, 3) := by decide +kernel
theorem dL_place_10 : decode cL_place 10 = .ok (.i2l, 1) := by decide +kernel
theorem dL_place_11 : decode cL_place 11 = .ok (.lastore, 1) := by decide +kernel
theorem dL_place_12 : decode cL_place 12 = .ok (.goto 11, 3) := by decide +kernel
theorem dL_place_15 : decode cL_place 15 = .ok (.astore 5, 2) := by decide +kernel
theorem dL_place_17 : decode cL_place 17 = .ok (.iconst 1, 1) := by decide +kernel
theorem dL_place_18 : decode cL_place 18 = .ok (.ireturn, 1) := by decide +kernel
theorem dL_place_19 : decode cL_place 19 = .ok (.astore 5, 2) := by decide +kernel
theorem dL_place_21 : decode cL_place 21 = .ok (.iconst 2, 1) := by decide +kernel
theorem dL_place_22 : decode cL_place 22 = .ok (.ireturn, 1) := by decide +kernel
theorem dL_place_23 : decode cL_place 23 = .ok (.iconst 0, 1) := by decide +kernel
theorem dL_place_24 : decode cL_place 24 = .ok (.ireturn, 1) := by decide +kernel
theorem dL_whyNot_0 : decode cL_whyNot 0 = .ok (.aload 4, 2) := by decide +kernel
theorem dL_whyNot_2 : decode cL_whyNot 2 = .ok (.iconst 0, 1) := by decide +kernel
theorem dL_whyNot_3 : decode cL_whyNot 3 = .ok (.aload_n 0, 1) := by decide +kernel
theorem dL_whyNot_4 : decode cL_whyNot 4 = .ok (.iload_n 1, 1) := by decide +kernel
theorem dL_whyNot_5 : decode cL_whyNot 5 = .ok (.iload_n 2, 1) := by decide +kernel
theorem dL_whyNot_6 : decode cL_whyNot 6 = .ok (.iload_n 3, 1) := by decide +kernel
theorem dL_whyNot_7 : decode cL_whyNot 7 = .ok (.invokevirtual 57, 3) := by decide +kernel
theorem dL_whyNot_10 : decode cL_whyNot 10 = .ok (.i2l, 1) := by decide +kernel
theorem dL_whyNot_11 : decode cL_whyNot 11 = .ok (.lastore, 1) := by decide +kernel
theorem dL_whyNot_12 : decode cL_whyNot 12 = .ok (.goto 7, 3) := by decide +kernel
theorem dL_whyNot_15 : decode cL_whyNot 15 = .ok (.astore 5, 2) := by decide +kernel
theorem dL_whyNot_17 : decode cL_whyNot 17 = .ok (.iconst 1, 1) := by decide +kernel
theorem dL_whyNot_18 : decode cL_whyNot 18 = .ok (.ireturn, 1) := by decide +kernel
theorem dL_whyNot_19 : decode cL_whyNot 19 = .ok (.iconst 0, 1) := by decide +kernel
theorem dL_whyNot_20 : decode cL_whyNot 20 = .ok (.ireturn, 1) := by decide +kernel
theorem dL_options_0 : decode cL_options 0 = .ok (.aload_n 3, 1) := by decide +kernel
theorem dL_options_1 : decode cL_options 1 = .ok (.iconst 0, 1) := by decide +kernel
theorem dL_options_2 : decode cL_options 2 = .ok (.aload_n 0, 1) := by decide +kernel
theorem dL_options_3 : decode cL_options 3 = .ok (.iload_n 1, 1) := by decide +kernel
theorem dL_options_4 : decode cL_options 4 = .ok (.iload_n 2, 1) := by decide +kernel
theorem dL_options_5 : decode cL_options 5 = .ok (.invokevirtual 60, 3) := by decide +kernel
theorem dL_options_8 : decode cL_options 8 = .ok (.i2l, 1) := by decide +kernel
theorem dL_options_9 : decode cL_options 9 = .ok (.lastore, 1) := by decide +kernel
theorem dL_options_10 : decode cL_options 10 = .ok (.goto 7, 3) := by decide +kernel
theorem dL_options_13 : decode cL_options 13 = .ok (.astore 4, 2) := by decide +kernel
theorem dL_options_15 : decode cL_options 15 = .ok (.iconst 1, 1) := by decide +kernel
theorem dL_options_16 : decode cL_options 16 = .ok (.ireturn, 1) := by decide +kernel
theorem dL_options_17 : decode cL_options 17 = .ok (.iconst 0, 1) := by decide +kernel
theorem dL_options_18 : decode cL_options 18 = .ok (.ireturn, 1) := by decide +kernel
theorem dL_cheapest_0 : decode cL_cheapest 0 = .ok (.aload_n 3, 1) := by decide +kernel
theorem dL_cheapest_1 : decode cL_cheapest 1 = .ok (.iconst 0, 1) := by decide +kernel
theorem dL_cheapest_2 : decode cL_cheapest 2 = .ok (.aload_n 0, 1) := by decide +kernel
theorem dL_cheapest_3 : decode cL_cheapest 3 = .ok (.iload_n 1, 1) := by decide +kernel
theorem dL_cheapest_4 : decode cL_cheapest 4 = .ok (.iload_n 2, 1) := by decide +kernel
theorem dL_cheapest_5 : decode cL_cheapest 5 = .ok (.invokevirtual 63, 3) := by decide +kernel
theorem dL_cheapest_8 : decode cL_cheapest 8 = .ok (.i2l, 1) := by decide +kernel
theorem dL_cheapest_9 : decode cL_cheapest 9 = .ok (.lastore, 1) := by decide +kernel
theorem dL_cheapest_10 : decode cL_cheapest 10 = .ok (.goto 11, 3) := by decide +kernel
theorem dL_cheapest_13 : decode cL_cheapest 13 = .ok (.astore 4, 2) := by decide +kernel
theorem dL_cheapest_15 : decode cL_cheapest 15 = .ok (.iconst 1, 1) := by decide +kernel
theorem dL_cheapest_16 : decode cL_cheapest 16 = .ok (.ireturn, 1) := by decide +kernel
theorem dL_cheapest_17 : decode cL_cheapest 17 = .ok (.astore 4, 2) := by decide +kernel
theorem dL_cheapest_19 : decode cL_cheapest 19 = .ok (.iconst 2, 1) := by decide +kernel
theorem dL_cheapest_20 : decode cL_cheapest 20 = .ok (.ireturn, 1) := by decide +kernel
theorem dL_cheapest_21 : decode cL_cheapest 21 = .ok (.iconst 0, 1) := by decide +kernel
theorem dL_cheapest_22 : decode cL_cheapest 22 = .ok (.ireturn, 1) := by decide +kernel
theorem dL_lift_0 : decode cL_lift 0 = .ok (.aload_n 3, 1) := by decide +kernel
theorem dL_lift_1 : decode cL_lift 1 = .ok (.iconst 0, 1) := by decide +kernel
theorem dL_lift_2 : decode cL_lift 2 = .ok (.aload_n 0, 1) := by decide +kernel
theorem dL_lift_3 : decode cL_lift 3 = .ok (.iload_n 1, 1) := by decide +kernel
theorem dL_lift_4 : decode cL_lift 4 = .ok (.iload_n 2, 1) := by decide +kernel
theorem dL_lift_5 : decode cL_lift 5 = .ok (.invokevirtual 66, 3) := by decide +kernel
theorem dL_lift_8 : decode cL_lift 8 = .ok (.i2l, 1) := by decide +kernel
theorem dL_lift_9 : decode cL_lift 9 = .ok (.lastore, 1) := by decide +kernel
theorem dL_lift_10 : decode cL_lift 10 = .ok (.goto 11, 3) := by decide +kernel
theorem dL_lift_13 : decode cL_lift 13 = .ok (.astore 4, 2) := by decide +kernel
theorem dL_lift_15 : decode cL_lift 15 = .ok (.iconst 1, 1) := by decide +kernel
theorem dL_lift_16 : decode cL_lift 16 = .ok (.ireturn, 1) := by decide +kernel
theorem dL_lift_17 : decode cL_lift 17 = .ok (.astore 4, 2) := by decide +kernel
theorem dL_lift_19 : decode cL_lift 19 = .ok (.iconst 2, 1) := by decide +kernel
theorem dL_lift_20 : decode cL_lift 20 = .ok (.ireturn, 1) := by decide +kernel
theorem dL_lift_21 : decode cL_lift 21 = .ok (.iconst 0, 1) := by decide +kernel
theorem dL_lift_22 : decode cL_lift 22 = .ok (.ireturn, 1) := by decide +kernel
theorem dL_reason_0 : decode cL_reason 0 = .ok (.aload_n 1, 1) := by decide +kernel
theorem dL_reason_1 : decode cL_reason 1 = .ok (.iconst 0, 1) := by decide +kernel
theorem dL_reason_2 : decode cL_reason 2 = .ok (.aload_n 0, 1) := by decide +kernel
theorem dL_reason_3 : decode cL_reason 3 = .ok (.invokevirtual 69, 3) := by decide +kernel
theorem dL_reason_6 : decode cL_reason 6 = .ok (.i2l, 1) := by decide +kernel
theorem dL_reason_7 : decode cL_reason 7 = .ok (.lastore, 1) := by decide +kernel
theorem dL_reason_8 : decode cL_reason 8 = .ok (.goto 6, 3) := by decide +kernel
theorem dL_reason_11 : decode cL_reason 11 = .ok (.astore_n 2, 1) := by decide +kernel
theorem dL_reason_12 : decode cL_reason 12 = .ok (.iconst 1, 1) := by decide +kernel
theorem dL_reason_13 : decode cL_reason 13 = .ok (.ireturn, 1) := by decide +kernel
theorem dL_reason_14 : decode cL_reason 14 = .ok (.iconst 0, 1) := by decide +kernel
theorem dL_reason_15 : decode cL_reason 15 = .ok (.ireturn, 1) := by decide +kernel
theorem dL_tow_0 : decode cL_tow 0 = .ok (.aload_n 3, 1) := by decide +kernel
theorem dL_tow_1 : decode cL_tow 1 = .ok (.iconst 0, 1) := by decide +kernel
theorem dL_tow_2 : decode cL_tow 2 = .ok (.aload_n 0, 1) := by decide +kernel
theorem dL_tow_3 : decode cL_tow 3 = .ok (.iload_n 1, 1) := by decide +kernel
theorem dL_tow_4 : decode cL_tow 4 = .ok (.iload_n 2, 1) := by decide +kernel
theorem dL_tow_5 : decode cL_tow 5 = .ok (.invokevirtual 73, 3) := by decide +kernel
theorem dL_tow_8 : decode cL_tow 8 = .ok (.i2l, 1) := by decide +kernel
theorem dL_tow_9 : decode cL_tow 9 = .ok (.lastore, 1) := by decide +kernel
theorem dL_tow_10 : decode cL_tow 10 = .ok (.goto 15, 3) := by decide +kernel
theorem dL_tow_13 : decode cL_tow 13 = .ok (.astore 4, 2) := by decide +kernel
theorem dL_tow_15 : decode cL_tow 15 = .ok (.iconst 1, 1) := by decide +kernel
theorem dL_tow_16 : decode cL_tow 16 = .ok (.ireturn, 1) := by decide +kernel
theorem dL_tow_17 : decode cL_tow 17 = .ok (.astore 4, 2) := by decide +kernel
theorem dL_tow_19 : decode cL_tow 19 = .ok (.iconst 2, 1) := by decide +kernel
theorem dL_tow_20 : decode cL_tow 20 = .ok (.ireturn, 1) := by decide +kernel
theorem dL_tow_21 : decode cL_tow 21 = .ok (.astore 4, 2) := by decide +kernel
theorem dL_tow_23 : decode cL_tow 23 = .ok (.iconst 3, 1) := by decide +kernel
theorem dL_tow_24 : decode cL_tow 24 = .ok (.ireturn, 1) := by decide +kernel
theorem dL_tow_25 : decode cL_tow 25 = .ok (.iconst 0, 1) := by decide +kernel
theorem dL_tow_26 : decode cL_tow 26 = .ok (.ireturn, 1) := by decide +kernel
theorem dL_untow_0 : decode cL_untow 0 = .ok (.aload_n 2, 1) := by decide +kernel
theorem dL_untow_1 : decode cL_untow 1 = .ok (.iconst 0, 1) := by decide +kernel
theorem dL_untow_2 : decode cL_untow 2 = .ok (.aload_n 0, 1) := by decide +kernel
theorem dL_untow_3 : decode cL_untow 3 = .ok (.iload_n 1, 1) := by decide +kernel
theorem dL_untow_4 : decode cL_untow 4 = .ok (.invokevirtual 76, 3) := by decide +kernel
theorem dL_untow_7 : decode cL_untow 7 = .ok (.i2l, 1) := by decide +kernel
theorem dL_untow_8 : decode cL_untow 8 = .ok (.lastore, 1) := by decide +kernel
theorem dL_untow_9 : decode cL_untow 9 = .ok (.goto 9, 3) := by decide +kernel
theorem dL_untow_12 : decode cL_untow 12 = .ok (.astore_n 3, 1) := by decide +kernel
theorem dL_untow_13 : decode cL_untow 13 = .ok (.iconst 1, 1) := by decide +kernel
theorem dL_untow_14 : decode cL_untow 14 = .ok (.ireturn, 1) := by decide +kernel
theorem dL_untow_15 : decode cL_untow 15 = .ok (.astore_n 3, 1) := by decide +kernel
theorem dL_untow_16 : decode cL_untow 16 = .ok (.iconst 2, 1) := by decide +kernel
theorem dL_untow_17 : decode cL_untow 17 = .ok (.ireturn, 1) := by decide +kernel
theorem dL_untow_18 : decode cL_untow 18 = .ok (.iconst 0, 1) := by decide +kernel
theorem dL_untow_19 : decode cL_untow 19 = .ok (.ireturn, 1) := by decide +kernel
theorem dL_delay_0 : decode cL_delay 0 = .ok (.aload_n 3, 1) := by decide +kernel
theorem dL_delay_1 : decode cL_delay 1 = .ok (.iconst 0, 1) := by decide +kernel
theorem dL_delay_2 : decode cL_delay 2 = .ok (.aload_n 0, 1) := by decide +kernel
theorem dL_delay_3 : decode cL_delay 3 = .ok (.iload_n 1, 1) := by decide +kernel
theorem dL_delay_4 : decode cL_delay 4 = .ok (.iload_n 2, 1) := by decide +kernel
theorem dL_delay_5 : decode cL_delay 5 = .ok (.invokevirtual 79, 3) := by decide +kernel
theorem dL_delay_8 : decode cL_delay 8 = .ok (.i2l, 1) := by decide +kernel
theorem dL_delay_9 : decode cL_delay 9 = .ok (.lastore, 1) := by decide +kernel
theorem dL_delay_10 : decode cL_delay 10 = .ok (.goto 15, 3) := by decide +kernel
theorem dL_delay_13 : decode cL_delay 13 = .ok (.astore 4, 2) := by decide +kernel
theorem dL_delay_15 : decode cL_delay 15 = .ok (.iconst 1, 1) := by decide +kernel
theorem dL_delay_16 : decode cL_delay 16 = .ok (.ireturn, 1) := by decide +kernel
theorem dL_delay_17 : decode cL_delay 17 = .ok (.astore 4, 2) := by decide +kernel
theorem dL_delay_19 : decode cL_delay 19 = .ok (.iconst 2, 1) := by decide +kernel
theorem dL_delay_20 : decode cL_delay 20 = .ok (.ireturn, 1) := by decide +kernel
theorem dL_delay_21 : decode cL_delay 21 = .ok (.astore 4, 2) := by decide +kernel
theorem dL_delay_23 : decode cL_delay 23 = .ok (.iconst 3, 1) := by decide +kernel
theorem dL_delay_24 : decode cL_delay 24 = .ok (.ireturn, 1) := by decide +kernel
theorem dL_delay_25 : decode cL_delay 25 = .ok (.iconst 0, 1) := by decide +kernel
theorem dL_delay_26 : decode cL_delay 26 = .ok (.ireturn, 1) := by decide +kernel
theorem dL_towGain_0 : decode cL_towGain 0 = .ok (.aload_n 3, 1) := by decide +kernel
theorem dL_towGain_1 : decode cL_towGain 1 = .ok (.iconst 0, 1) := by decide +kernel
theorem dL_towGain_2 : decode cL_towGain 2 = .ok (.aload_n 0, 1) := by decide +kernel
theorem dL_towGain_3 : decode cL_towGain 3 = .ok (.iload_n 1, 1) := by decide +kernel
theorem dL_towGain_4 : decode cL_towGain 4 = .ok (.iload_n 2, 1) := by decide +kernel
theorem dL_towGain_5 : decode cL_towGain 5 = .ok (.invokevirtual 82, 3) := by decide +kernel
theorem dL_towGain_8 : decode cL_towGain 8 = .ok (.i2l, 1) := by decide +kernel
theorem dL_towGain_9 : decode cL_towGain 9 = .ok (.lastore, 1) := by decide +kernel
theorem dL_towGain_10 : decode cL_towGain 10 = .ok (.goto 15, 3) := by decide +kernel
theorem dL_towGain_13 : decode cL_towGain 13 = .ok (.astore 4, 2) := by decide +kernel
theorem dL_towGain_15 : decode cL_towGain 15 = .ok (.iconst 1, 1) := by decide +kernel
theorem dL_towGain_16 : decode cL_towGain 16 = .ok (.ireturn, 1) := by decide +kernel
theorem dL_towGain_17 : decode cL_towGain 17 = .ok (.astore 4, 2) := by decide +kernel
theorem dL_towGain_19 : decode cL_towGain 19 = .ok (.iconst 2, 1) := by decide +kernel
theorem dL_towGain_20 : decode cL_towGain 20 = .ok (.ireturn, 1) := by decide +kernel
theorem dL_towGain_21 : decode cL_towGain 21 = .ok (.astore 4, 2) := by decide +kernel
theorem dL_towGain_23 : decode cL_towGain 23 = .ok (.iconst 3, 1) := by decide +kernel
theorem dL_towGain_24 : decode cL_towGain 24 = .ok (.ireturn, 1) := by decide +kernel
theorem dL_towGain_25 : decode cL_towGain 25 = .ok (.iconst 0, 1) := by decide +kernel
theorem dL_towGain_26 : decode cL_towGain 26 = .ok (.ireturn, 1) := by decide +kernel
theorem dL_leastMoves_0 : decode cL_leastMoves 0 = .ok (.aload_n 1, 1) := by decide +kernel
theorem dL_leastMoves_1 : decode cL_leastMoves 1 = .ok (.iconst 0, 1) := by decide +kernel
theorem dL_leastMoves_2 : decode cL_leastMoves 2 = .ok (.aload_n 0, 1) := by decide +kernel
theorem dL_leastMoves_3 : decode cL_leastMoves 3 = .ok (.invokevirtual 85, 3) := by decide +kernel
theorem dL_leastMoves_6 : decode cL_leastMoves 6 = .ok (.i2l, 1) := by decide +kernel
theorem dL_leastMoves_7 : decode cL_leastMoves 7 = .ok (.lastore, 1) := by decide +kernel
theorem dL_leastMoves_8 : decode cL_leastMoves 8 = .ok (.goto 6, 3) := by decide +kernel
theorem dL_leastMoves_11 : decode cL_leastMoves 11 = .ok (.astore_n 2, 1) := by decide +kernel
theorem dL_leastMoves_12 : decode cL_leastMoves 12 = .ok (.iconst 1, 1) := by decide +kernel
theorem dL_leastMoves_13 : decode cL_leastMoves 13 = .ok (.ireturn, 1) := by decide +kernel
theorem dL_leastMoves_14 : decode cL_leastMoves 14 = .ok (.iconst 0, 1) := by decide +kernel
theorem dL_leastMoves_15 : decode cL_leastMoves 15 = .ok (.ireturn, 1) := by decide +kernel
theorem dL_leastAgain_0 : decode cL_leastAgain 0 = .ok (.aload_n 1, 1) := by decide +kernel
theorem dL_leastAgain_1 : decode cL_leastAgain 1 = .ok (.iconst 0, 1) := by decide +kernel
theorem dL_leastAgain_2 : decode cL_leastAgain 2 = .ok (.aload_n 0, 1) := by decide +kernel
theorem dL_leastAgain_3 : decode cL_leastAgain 3 = .ok (.invokevirtual 88, 3) := by decide +kernel
theorem dL_leastAgain_6 : decode cL_leastAgain 6 = .ok (.i2l, 1) := by decide +kernel
theorem dL_leastAgain_7 : decode cL_leastAgain 7 = .ok (.lastore, 1) := by decide +kernel
theorem dL_leastAgain_8 : decode cL_leastAgain 8 = .ok (.goto 6, 3) := by decide +kernel
theorem dL_leastAgain_11 : decode cL_leastAgain 11 = .ok (.astore_n 2, 1) := by decide +kernel
theorem dL_leastAgain_12 : decode cL_leastAgain 12 = .ok (.iconst 1, 1) := by decide +kernel
theorem dL_leastAgain_13 : decode cL_leastAgain 13 = .ok (.ireturn, 1) := by decide +kernel
theorem dL_leastAgain_14 : decode cL_leastAgain 14 = .ok (.iconst 0, 1) := by decide +kernel
theorem dL_leastAgain_15 : decode cL_leastAgain 15 = .ok (.ireturn, 1) := by decide +kernel
theorem dL_moveOf_0 : decode cL_moveOf 0 = .ok (.aload_n 3, 1) := by decide +kernel
theorem dL_moveOf_1 : decode cL_moveOf 1 = .ok (.iconst 0, 1) := by decide +kernel
theorem dL_moveOf_2 : decode cL_moveOf 2 = .ok (.aload_n 0, 1) := by decide +kernel
theorem dL_moveOf_3 : decode cL_moveOf 3 = .ok (.iload_n 1, 1) := by decide +kernel
theorem dL_moveOf_4 : decode cL_moveOf 4 = .ok (.iload_n 2, 1) := by decide +kernel
theorem dL_moveOf_5 : decode cL_moveOf 5 = .ok (.invokevirtual 91, 3) := by decide +kernel
theorem dL_moveOf_8 : decode cL_moveOf 8 = .ok (.i2l, 1) := by decide +kernel
theorem dL_moveOf_9 : decode cL_moveOf 9 = .ok (.lastore, 1) := by decide +kernel
theorem dL_moveOf_10 : decode cL_moveOf 10 = .ok (.goto 7, 3) := by decide +kernel
theorem dL_moveOf_13 : decode cL_moveOf 13 = .ok (.astore 4, 2) := by decide +kernel
theorem dL_moveOf_15 : decode cL_moveOf 15 = .ok (.iconst 1, 1) := by decide +kernel
theorem dL_moveOf_16 : decode cL_moveOf 16 = .ok (.ireturn, 1) := by decide +kernel
theorem dL_moveOf_17 : decode cL_moveOf 17 = .ok (.iconst 0, 1) := by decide +kernel
theorem dL_moveOf_18 : decode cL_moveOf 18 = .ok (.ireturn, 1) := by decide +kernel
theorem dL_repair_0 : decode cL_repair 0 = .ok (.aload_n 1, 1) := by decide +kernel
theorem dL_repair_1 : decode cL_repair 1 = .ok (.iconst 0, 1) := by decide +kernel
theorem dL_repair_2 : decode cL_repair 2 = .ok (.aload_n 0, 1) := by decide +kernel
theorem dL_repair_3 : decode cL_repair 3 = .ok (.invokevirtual 95, 3) := by decide +kernel
theorem dL_repair_6 : decode cL_repair 6 = .ok (.i2l, 1) := by decide +kernel
theorem dL_repair_7 : decode cL_repair 7 = .ok (.lastore, 1) := by decide +kernel
theorem dL_repair_8 : decode cL_repair 8 = .ok (.goto 6, 3) := by decide +kernel
theorem dL_repair_11 : decode cL_repair 11 = .ok (.astore_n 2, 1) := by decide +kernel
theorem dL_repair_12 : decode cL_repair 12 = .ok (.iconst 1, 1) := by decide +kernel
theorem dL_repair_13 : decode cL_repair 13 = .ok (.ireturn, 1) := by decide +kernel
theorem dL_repair_14 : decode cL_repair 14 = .ok (.iconst 0, 1) := by decide +kernel
theorem dL_repair_15 : decode cL_repair 15 = .ok (.ireturn, 1) := by decide +kernel
theorem dL_account_0 : decode cL_account 0 = .ok (.aload_n 2, 1) := by decide +kernel
theorem dL_account_1 : decode cL_account 1 = .ok (.iconst 0, 1) := by decide +kernel
theorem dL_account_2 : decode cL_account 2 = .ok (.aload_n 0, 1) := by decide +kernel
theorem dL_account_3 : decode cL_account 3 = .ok (.iload_n 1, 1) := by decide +kernel
theorem dL_account_4 : decode cL_account 4 = .ok (.invokevirtual 98, 3) := by decide +kernel
theorem dL_account_7 : decode cL_account 7 = .ok (.i2l, 1) := by decide +kernel
theorem dL_account_8 : decode cL_account 8 = .ok (.lastore, 1) := by decide +kernel
theorem dL_account_9 : decode cL_account 9 = .ok (.goto 6, 3) := by decide +kernel
theorem dL_account_12 : decode cL_account 12 = .ok (.astore_n 3, 1) := by decide +kernel
theorem dL_account_13 : decode cL_account 13 = .ok (.iconst 1, 1) := by decide +kernel
theorem dL_account_14 : decode cL_account 14 = .ok (.ireturn, 1) := by decide +kernel
theorem dL_account_15 : decode cL_account 15 = .ok (.iconst 0, 1) := by decide +kernel
theorem dL_account_16 : decode cL_account 16 = .ok (.ireturn, 1) := by decide +kernel
theorem dL_meanCost_0 : decode cL_meanCost 0 = .ok (.aload_n 1, 1) := by decide +kernel
theorem dL_meanCost_1 : decode cL_meanCost 1 = .ok (.iconst 0, 1) := by decide +kernel
theorem dL_meanCost_2 : decode cL_meanCost 2 = .ok (.aload_n 0, 1) := by decide +kernel
theorem dL_meanCost_3 : decode cL_meanCost 3 = .ok (.invokevirtual 101, 3) := by decide +kernel
theorem dL_meanCost_6 : decode cL_meanCost 6 = .ok (.f2d, 1) := by decide +kernel
theorem dL_meanCost_7 : decode cL_meanCost 7 = .ok (.dastore, 1) := by decide +kernel
theorem dL_meanCost_8 : decode cL_meanCost 8 = .ok (.goto 6, 3) := by decide +kernel
theorem dL_meanCost_11 : decode cL_meanCost 11 = .ok (.astore_n 2, 1) := by decide +kernel
theorem dL_meanCost_12 : decode cL_meanCost 12 = .ok (.iconst 1, 1) := by decide +kernel
theorem dL_meanCost_13 : decode cL_meanCost 13 = .ok (.ireturn, 1) := by decide +kernel
theorem dL_meanCost_14 : decode cL_meanCost 14 = .ok (.iconst 0, 1) := by decide +kernel
theorem dL_meanCost_15 : decode cL_meanCost 15 = .ok (.ireturn, 1) := by decide +kernel
theorem dL_append_0 : decode cL_append 0 = .ok (.aload_n 2, 1) := by decide +kernel
theorem dL_append_1 : decode cL_append 1 = .ok (.iconst 0, 1) := by decide +kernel
theorem dL_append_2 : decode cL_append 2 = .ok (.aload_n 0, 1) := by decide +kernel
theorem dL_append_3 : decode cL_append 3 = .ok (.iload_n 1, 1) := by decide +kernel
theorem dL_append_4 : decode cL_append 4 = .ok (.invokevirtual 107, 3) := by decide +kernel
theorem dL_append_7 : decode cL_append 7 = .ok (.i2l, 1) := by decide +kernel
theorem dL_append_8 : decode cL_append 8 = .ok (.lastore, 1) := by decide +kernel
theorem dL_append_9 : decode cL_append 9 = .ok (.goto 9, 3) := by decide +kernel
theorem dL_append_12 : decode cL_append 12 = .ok (.astore_n 3, 1) := by decide +kernel
theorem dL_append_13 : decode cL_append 13 = .ok (.iconst 1, 1) := by decide +kernel
theorem dL_append_14 : decode cL_append 14 = .ok (.ireturn, 1) := by decide +kernel
theorem dL_append_15 : decode cL_append 15 = .ok (.astore_n 3, 1) := by decide +kernel
theorem dL_append_16 : decode cL_append 16 = .ok (.iconst 2, 1) := by decide +kernel
theorem dL_append_17 : decode cL_append 17 = .ok (.ireturn, 1) := by decide +kernel
theorem dL_append_18 : decode cL_append 18 = .ok (.iconst 0, 1) := by decide +kernel
theorem dL_append_19 : decode cL_append 19 = .ok (.ireturn, 1) := by decide +kernel
theorem dL_read_0 : decode cL_read 0 = .ok (.aload_n 1, 1) := by decide +kernel
theorem dL_read_1 : decode cL_read 1 = .ok (.iconst 0, 1) := by decide +kernel
theorem dL_read_2 : decode cL_read 2 = .ok (.aload_n 0, 1) := by decide +kernel
theorem dL_read_3 : decode cL_read 3 = .ok (.invokevirtual 111, 3) := by decide +kernel
theorem dL_read_6 : decode cL_read 6 = .ok (.i2l, 1) := by decide +kernel
theorem dL_read_7 : decode cL_read 7 = .ok (.lastore, 1) := by decide +kernel
theorem dL_read_8 : decode cL_read 8 = .ok (.goto 9, 3) := by decide +kernel
theorem dL_read_11 : decode cL_read 11 = .ok (.astore_n 2, 1) := by decide +kernel
theorem dL_read_12 : decode cL_read 12 = .ok (.iconst 1, 1) := by decide +kernel
theorem dL_read_13 : decode cL_read 13 = .ok (.ireturn, 1) := by decide +kernel
theorem dL_read_14 : decode cL_read 14 = .ok (.astore_n 2, 1) := by decide +kernel
theorem dL_read_15 : decode cL_read 15 = .ok (.iconst 2, 1) := by decide +kernel
theorem dL_read_16 : decode cL_read 16 = .ok (.ireturn, 1) := by decide +kernel
theorem dL_read_17 : decode cL_read 17 = .ok (.iconst 0, 1) := by decide +kernel
theorem dL_read_18 : decode cL_read 18 = .ok (.ireturn, 1) := by decide +kernel
theorem dL_errorPosition_0 : decode cL_errorPosition 0 = .ok (.aload_n 1, 1) := by decide +kernel
theorem dL_errorPosition_1 : decode cL_errorPosition 1 = .ok (.iconst 0, 1) := by decide +kernel
theorem dL_errorPosition_2 : decode cL_errorPosition 2 = .ok (.aload_n 0, 1) := by decide +kernel
theorem dL_errorPosition_3 : decode cL_errorPosition 3 = .ok (.invokevirtual 114, 3) := by decide +kernel
theorem dL_errorPosition_6 : decode cL_errorPosition 6 = .ok (.i2l, 1) := by decide +kernel
theorem dL_errorPosition_7 : decode cL_errorPosition 7 = .ok (.lastore, 1) := by decide +kernel
theorem dL_errorPosition_8 : decode cL_errorPosition 8 = .ok (.goto 6, 3) := by decide +kernel
theorem dL_errorPosition_11 : decode cL_errorPosition 11 = .ok (.astore_n 2, 1) := by decide +kernel
theorem dL_errorPosition_12 : decode cL_errorPosition 12 = .ok (.iconst 1, 1) := by decide +kernel
theorem dL_errorPosition_13 : decode cL_errorPosition 13 = .ok (.ireturn, 1) := by decide +kernel
theorem dL_errorPosition_14 : decode cL_errorPosition 14 = .ok (.iconst 0, 1) := by decide +kernel
theorem dL_errorPosition_15 : decode cL_errorPosition 15 = .ok (.ireturn, 1) := by decide +kernel
theorem dL_undo_0 : decode cL_undo 0 = .ok (.aload_n 1, 1) := by decide +kernel
theorem dL_undo_1 : decode cL_undo 1 = .ok (.iconst 0, 1) := by decide +kernel
theorem dL_undo_2 : decode cL_undo 2 = .ok (.aload_n 0, 1) := by decide +kernel
theorem dL_undo_3 : decode cL_undo 3 = .ok (.invokevirtual 117, 3) := by decide +kernel
theorem dL_undo_6 : decode cL_undo 6 = .ok (.i2l, 1) := by decide +kernel
theorem dL_undo_7 : decode cL_undo 7 = .ok (.lastore, 1) := by decide +kernel
theorem dL_undo_8 : decode cL_undo 8 = .ok (.goto 6, 3) := by decide +kernel
theorem dL_undo_11 : decode cL_undo 11 = .ok (.astore_n 2, 1) := by decide +kernel
theorem dL_undo_12 : decode cL_undo 12 = .ok (.iconst 1, 1) := by decide +kernel
theorem dL_undo_13 : decode cL_undo 13 = .ok (.ireturn, 1) := by decide +kernel
theorem dL_undo_14 : decode cL_undo 14 = .ok (.iconst 0, 1) := by decide +kernel
theorem dL_undo_15 : decode cL_undo 15 = .ok (.ireturn, 1) := by decide +kernel
theorem dL_restore_0 : decode cL_restore 0 = .ok (.aload_n 1, 1) := by decide +kernel
theorem dL_restore_1 : decode cL_restore 1 = .ok (.iconst 0, 1) := by decide +kernel
theorem dL_restore_2 : decode cL_restore 2 = .ok (.aload_n 0, 1) := by decide +kernel
theorem dL_restore_3 : decode cL_restore 3 = .ok (.invokevirtual 120, 3) := by decide +kernel
theorem dL_restore_6 : decode cL_restore 6 = .ok (.i2l, 1) := by decide +kernel
theorem dL_restore_7 : decode cL_restore 7 = .ok (.lastore, 1) := by decide +kernel
theorem dL_restore_8 : decode cL_restore 8 = .ok (.goto 6, 3) := by decide +kernel
theorem dL_restore_11 : decode cL_restore 11 = .ok (.astore_n 2, 1) := by decide +kernel
theorem dL_restore_12 : decode cL_restore 12 = .ok (.iconst 1, 1) := by decide +kernel
theorem dL_restore_13 : decode cL_restore 13 = .ok (.ireturn, 1) := by decide +kernel
theorem dL_restore_14 : decode cL_restore 14 = .ok (.iconst 0, 1) := by decide +kernel
theorem dL_restore_15 : decode cL_restore 15 = .ok (.ireturn, 1) := by decide +kernel
theorem dL_law_0 : decode cL_law 0 = .ok (.new 8, 3) := by decide +kernel
theorem dL_law_3 : decode cL_law 3 = .ok (.dup, 1) := by decide +kernel
theorem dL_law_4 : decode cL_law 4 = .ok (.invokespecial 123, 3) := by decide +kernel
theorem dL_law_7 : decode cL_law 7 = .ok (.astore_n 1, 1) := by decide +kernel
theorem dL_law_8 : decode cL_law 8 = .ok (.new 124, 3) := by decide +kernel
theorem dL_law_11 : decode cL_law 11 = .ok (.dup, 1) := by decide +kernel
theorem dL_law_12 : decode cL_law 12 = .ok (.invokespecial 126, 3) := by decide +kernel
theorem dL_law_15 : decode cL_law 15 = .ok (.astore_n 2, 1) := by decide +kernel
theorem dL_law_16 : decode cL_law 16 = .ok (.iconst 1, 1) := by decide +kernel
theorem dL_law_17 : decode cL_law 17 = .ok (.newarray .long, 2) := by decide +kernel
theorem dL_law_19 : decode cL_law 19 = .ok (.astore_n 3, 1) := by decide +kernel
theorem dL_law_20 : decode cL_law 20 = .ok (.iconst 1, 1) := by decide +kernel
theorem dL_law_21 : decode cL_law 21 = .ok (.newarray .double, 2) := by decide +kernel
theorem dL_law_23 : decode cL_law 23 = .ok (.astore 4, 2) := by decide +kernel
theorem dL_law_25 : decode cL_law 25 = .ok (.iconst 0, 1) := by decide +kernel
theorem dL_law_26 : decode cL_law 26 = .ok (.istore 5, 2) := by decide +kernel
theorem dL_law_28 : decode cL_law 28 = .ok (.iload 5, 2) := by decide +kernel
theorem dL_law_30 : decode cL_law 30 = .ok (.aload_n 0, 1) := by decide +kernel
theorem dL_law_31 : decode cL_law 31 = .ok (.arraylength, 1) := by decide +kernel
theorem dL_law_32 : decode cL_law 32 = .ok (.iconst 5, 1) := by decide +kernel
theorem dL_law_33 : decode cL_law 33 = .ok (.isub, 1) := by decide +kernel
theorem dL_law_34 : decode cL_law 34 = .ok (.if_icmp .gt 2265, 3) := by decide +kernel
theorem dL_law_37 : decode cL_law 37 = .ok (.aload_n 0, 1) := by decide +kernel
theorem dL_law_38 : decode cL_law 38 = .ok (.iload 5, 2) := by decide +kernel
theorem dL_law_40 : decode cL_law 40 = .ok (.iaload, 1) := by decide +kernel
theorem dL_law_41 : decode cL_law 41 = .ok (.bipush 63, 2) := by decide +kernel
theorem dL_law_43 : decode cL_law 43 = .ok (.iand, 1) := by decide +kernel
theorem dL_law_44 : decode cL_law 44 = .ok (.tableswitch 2249 0 36 #[164, 177, 245, 325, 416, 472, 540, 608, 676, 768, 836, 916, 996, 1076, 1144, 1212, 1280, 1324, 1392, 1448, 1516, 1529, 1597, 1641, 1685, 1769, 1813, 1826, 1882, 1895, 1936, 2002, 2060, 2104, 2148, 2192, 2205], 164) := by decide +kernel
theorem dL_law_208 : decode cL_law 208 = .ok (.aload_n 1, 1) := by decide +kernel
theorem dL_law_209 : decode cL_law 209 = .ok (.invokevirtual 127, 3) := by decide +kernel
theorem dL_law_212 : decode cL_law 212 = .ok (.aload_n 2, 1) := by decide +kernel
theorem dL_law_213 : decode cL_law 213 = .ok (.invokevirtual 130, 3) := by decide +kernel
theorem dL_law_216 : decode cL_law 216 = .ok (.if_icmp .eq 2077, 3) := by decide +kernel
theorem dL_law_219 : decode cL_law 219 = .ok (.iconst 0, 1) := by decide +kernel
theorem dL_law_220 : decode cL_law 220 = .ok (.ireturn, 1) := by decide +kernel
theorem dL_law_221 : decode cL_law 221 = .ok (.aload_n 1, 1) := by decide +kernel
theorem dL_law_222 : decode cL_law 222 = .ok (.aload_n 0, 1) := by decide +kernel
theorem dL_law_223 : decode cL_law 223 = .ok (.iload 5, 2) := by decide +kernel
theorem dL_law_225 : decode cL_law 225 = .ok (.iconst 1, 1) := by decide +kernel
theorem dL_law_226 : decode cL_law 226 = .ok (.iadd, 1) := by decide +kernel
theorem dL_law_227 : decode cL_law 227 = .ok (.iaload, 1) := by decide +kernel
theorem dL_law_228 : decode cL_law 228 = .ok (.aload_n 0, 1) := by decide +kernel
theorem dL_law_229 : decode cL_law 229 = .ok (.iload 5, 2) := by decide +kernel
theorem dL_law_231 : decode cL_law 231 = .ok (.iconst 2, 1) := by decide +kernel
theorem dL_law_232 : decode cL_law 232 = .ok (.iadd, 1) := by decide +kernel
theorem dL_law_233 : decode cL_law 233 = .ok (.iaload, 1) := by decide +kernel
theorem dL_law_234 : decode cL_law 234 = .ok (.aload_n 3, 1) := by decide +kernel
theorem dL_law_235 : decode cL_law 235 = .ok (.invokestatic 131, 3) := by decide +kernel
theorem dL_law_238 : decode cL_law 238 = .ok (.istore 6, 2) := by decide +kernel
theorem dL_law_240 : decode cL_law 240 = .ok (.aload_n 2, 1) := by decide +kernel
theorem dL_law_241 : decode cL_law 241 = .ok (.aload_n 0, 1) := by decide +kernel
theorem dL_law_242 : decode cL_law 242 = .ok (.iload 5, 2) := by decide +kernel
theorem dL_law_244 : decode cL_law 244 = .ok (.iconst 1, 1) := by decide +kernel
theorem dL_law_245 : decode cL_law 245 = .ok (.iadd, 1) := by decide +kernel
theorem dL_law_246 : decode cL_law 246 = .ok (.iaload, 1) := by decide +kernel
theorem dL_law_247 : decode cL_law 247 = .ok (.aload_n 0, 1) := by decide +kernel
theorem dL_law_248 : decode cL_law 248 = .ok (.iload 5, 2) := by decide +kernel
theorem dL_law_250 : decode cL_law 250 = .ok (.iconst 2, 1) := by decide +kernel
theorem dL_law_251 : decode cL_law 251 = .ok (.iadd, 1) := by decide +kernel
theorem dL_law_252 : decode cL_law 252 = .ok (.iaload, 1) := by decide +kernel
theorem dL_law_253 : decode cL_law 253 = .ok (.invokevirtual 136, 3) := by decide +kernel
theorem dL_law_256 : decode cL_law 256 = .ok (.istore 7, 2) := by decide +kernel
theorem dL_law_258 : decode cL_law 258 = .ok (.aload_n 2, 1) := by decide +kernel
theorem dL_law_259 : decode cL_law 259 = .ok (.invokevirtual 137, 3) := by decide +kernel
theorem dL_law_262 : decode cL_law 262 = .ok (.iload 6, 2) := by decide +kernel
theorem dL_law_264 : decode cL_law 264 = .ok (.if_icmp .eq 5, 3) := by decide +kernel
theorem dL_law_267 : decode cL_law 267 = .ok (.iconst 0, 1) := by decide +kernel
theorem dL_law_268 : decode cL_law 268 = .ok (.ireturn, 1) := by decide +kernel
theorem dL_law_269 : decode cL_law 269 = .ok (.iload 6, 2) := by decide +kernel
theorem dL_law_271 : decode cL_law 271 = .ok (.ifCond .ne 15, 3) := by decide +kernel
theorem dL_law_274 : decode cL_law 274 = .ok (.aload_n 3, 1) := by decide +kernel
theorem dL_law_275 : decode cL_law 275 = .ok (.iconst 0, 1) := by decide +kernel
theorem dL_law_276 : decode cL_law 276 = .ok (.laload, 1) := by decide +kernel
theorem dL_law_277 : decode cL_law 277 = .ok (.iload 7, 2) := by decide +kernel
theorem dL_law_279 : decode cL_law 279 = .ok (.i2l, 1) := by decide +kernel
theorem dL_law_280 : decode cL_law 280 = .ok (.lcmp, 1) := by decide +kernel
theorem dL_law_281 : decode cL_law 281 = .ok (.ifCond .eq 5, 3) := by decide +kernel
theorem dL_law_284 : decode cL_law 284 = .ok (.iconst 0, 1) := by decide +kernel
theorem dL_law_285 : decode cL_law 285 = .ok (.ireturn, 1) := by decide +kernel
theorem dL_law_286 : decode cL_law 286 = .ok (.goto 2007, 3) := by decide +kernel
theorem dL_law_289 : decode cL_law 289 = .ok (.aload_n 1, 1) := by decide +kernel
theorem dL_law_290 : decode cL_law 290 = .ok (.aload_n 0, 1) := by decide +kernel
theorem dL_law_291 : decode cL_law 291 = .ok (.iload 5, 2) := by decide +kernel
theorem dL_law_293 : decode cL_law 293 = .ok (.iconst 1, 1) := by decide +kernel
theorem dL_law_294 : decode cL_law 294 = .ok (.iadd, 1) := by decide +kernel
theorem dL_law_295 : decode cL_law 295 = .ok (.iaload, 1) := by decide +kernel
theorem dL_law_296 : decode cL_law 296 = .ok (.aload_n 0, 1) := by decide +kernel
theorem dL_law_297 : decode cL_law 297 = .ok (.iload 5, 2) := by decide +kernel
theorem dL_law_299 : decode cL_law 299 = .ok (.iconst 2, 1) := by decide +kernel
theorem dL_law_300 : decode cL_law 300 = .ok (.iadd, 1) := by decide +kernel
theorem dL_law_301 : decode cL_law 301 = .ok (.iaload, 1) := by decide +kernel
theorem dL_law_302 : decode cL_law 302 = .ok (.aload_n 0, 1) := by decide +kernel
theorem dL_law_303 : decode cL_law 303 = .ok (.iload 5, 2) := by decide +kernel
theorem dL_law_305 : decode cL_law 305 = .ok (.iconst 3, 1) := by decide +kernel
theorem dL_law_306 : decode cL_law 306 = .ok (.iadd, 1) := by decide +kernel
theorem dL_law_307 : decode cL_law 307 = .ok (.iaload, 1) := by decide +kernel
theorem dL_law_308 : decode cL_law 308 = .ok (.aload_n 3, 1) := by decide +kernel
theorem dL_law_309 : decode cL_law 309 = .ok (.invokestatic 140, 3) := by decide +kernel
theorem dL_law_312 : decode cL_law 312 = .ok (.istore 6, 2) := by decide +kernel
theorem dL_law_314 : decode cL_law 314 = .ok (.aload_n 2, 1) := by decide +kernel
theorem dL_law_315 : decode cL_law 315 = .ok (.aload_n 0, 1) := by decide +kernel
theorem dL_law_316 : decode cL_law 316 = .ok (.iload 5, 2) := by decide +kernel
theorem dL_law_318 : decode cL_law 318 = .ok (.iconst 1, 1) := by decide +kernel
theorem dL_law_319 : decode cL_law 319 = .ok (.iadd, 1) := by decide +kernel
theorem dL_law_320 : decode cL_law 320 = .ok (.iaload, 1) := by decide +kernel
theorem dL_law_321 : decode cL_law 321 = .ok (.aload_n 0, 1) := by decide +kernel
theorem dL_law_322 : decode cL_law 322 = .ok (.iload 5, 2) := by decide +kernel
theorem dL_law_324 : decode cL_law 324 = .ok (.iconst 2, 1) := by decide +kernel
theorem dL_law_325 : decode cL_law 325 = .ok (.iadd, 1) := by decide +kernel
theorem dL_law_326 : decode cL_law 326 = .ok (.iaload, 1) := by decide +kernel
theorem dL_law_327 : decode cL_law 327 = .ok (.aload_n 0, 1) := by decide +kernel
theorem dL_law_328 : decode cL_law 328 = .ok (.iload 5, 2) := by decide +kernel
theorem dL_law_330 : decode cL_law 330 = .ok (.iconst 3, 1) := by decide +kernel
theorem dL_law_331 : decode cL_law 331 = .ok (.iadd, 1) := by decide +kernel
theorem dL_law_332 : decode cL_law 332 = .ok (.iaload, 1) := by decide +kernel
theorem dL_law_333 : decode cL_law 333 = .ok (.invokevirtual 143, 3) := by decide +kernel
theorem dL_law_336 : decode cL_law 336 = .ok (.istore 7, 2) := by decide +kernel
theorem dL_law_338 : decode cL_law 338 = .ok (.aload_n 2, 1) := by decide +kernel
theorem dL_law_339 : decode cL_law 339 = .ok (.invokevirtual 137, 3) := by decide +kernel
theorem dL_law_342 : decode cL_law 342 = .ok (.iload 6, 2) := by decide +kernel
theorem dL_law_344 : decode cL_law 344 = .ok (.if_icmp .eq 5, 3) := by decide +kernel
theorem dL_law_347 : decode cL_law 347 = .ok (.iconst 0, 1) := by decide +kernel
theorem dL_law_348 : decode cL_law 348 = .ok (.ireturn, 1) := by decide +kernel
theorem dL_law_349 : decode cL_law 349 = .ok (.iload 6, 2) := by decide +kernel
theorem dL_law_351 : decode cL_law 351 = .ok (.ifCond .ne 15, 3) := by decide +kernel
theorem dL_law_354 : decode cL_law 354 = .ok (.aload_n 3, 1) := by decide +kernel
theorem dL_law_355 : decode cL_law 355 = .ok (.iconst 0, 1) := by decide +kernel
theorem dL_law_356 : decode cL_law 356 = .ok (.laload, 1) := by decide +kernel
theorem dL_law_357 : decode cL_law 357 = .ok (.iload 7, 2) := by decide +kernel
theorem dL_law_359 : decode cL_law 359 = .ok (.i2l, 1) := by decide +kernel
theorem dL_law_360 : decode cL_law 360 = .ok (.lcmp, 1) := by decide +kernel
theorem dL_law_361 : decode cL_law 361 = .ok (.ifCond .eq 5, 3) := by decide +kernel
theorem dL_law_364 : decode cL_law 364 = .ok (.iconst 0, 1) := by decide +kernel
theorem dL_law_365 : decode cL_law 365 = .ok (.ireturn, 1) := by decide +kernel
theorem dL_law_366 : decode cL_law 366 = .ok (.goto 1927, 3) := by decide +kernel
theorem dL_law_369 : decode cL_law 369 = .ok (.aload_n 1, 1) := by decide +kernel
theorem dL_law_370 : decode cL_law 370 = .ok (.aload_n 0, 1) := by decide +kernel
theorem dL_law_371 : decode cL_law 371 = .ok (.iload 5, 2) := by decide +kernel
theorem dL_law_373 : decode cL_law 373 = .ok (.iconst 1, 1) := by decide +kernel
theorem dL_law_374 : decode cL_law 374 = .ok (.iadd, 1) := by decide +kernel
theorem dL_law_375 : decode cL_law 375 = .ok (.iaload, 1) := by decide +kernel
theorem dL_law_376 : decode cL_law 376 = .ok (.aload_n 0, 1) := by decide +kernel
theorem dL_law_377 : decode cL_law 377 = .ok (.iload 5, 2) := by decide +kernel
theorem dL_law_379 : decode cL_law 379 = .ok (.iconst 2, 1) := by decide +kernel
theorem dL_law_380 : decode cL_law 380 = .ok (.iadd, 1) := by decide +kernel
theorem dL_law_381 : decode cL_law 381 = .ok (.iaload, 1) := by decide +kernel
theorem dL_law_382 : decode cL_law 382 = .ok (.ifCond .eq 7, 3) := by decide +kernel
theorem dL_law_385 : decode cL_law 385 = .ok (.iconst 1, 1) := by decide +kernel
theorem dL_law_386 : decode cL_law 386 = .ok (.goto 4, 3) := by decide +kernel
theorem dL_law_389 : decode cL_law 389 = .ok (.iconst 0, 1) := by decide +kernel
theorem dL_law_390 : decode cL_law 390 = .ok (.aload_n 3, 1) := by decide +kernel
theorem dL_law_391 : decode cL_law 391 = .ok (.invokestatic 144, 3) := by decide +kernel
theorem dL_law_394 : decode cL_law 394 = .ok (.istore 6, 2) := by decide +kernel
theorem dL_law_396 : decode cL_law 396 = .ok (.aload_n 2, 1) := by decide +kernel
theorem dL_law_397 : decode cL_law 397 = .ok (.aload_n 0, 1) := by decide +kernel
theorem dL_law_398 : decode cL_law 398 = .ok (.iload 5, 2) := by decide +kernel
theorem dL_law_400 : decode cL_law 400 = .ok (.iconst 1, 1) := by decide +kernel
theorem dL_law_401 : decode cL_law 401 = .ok (.iadd, 1) := by decide +kernel
theorem dL_law_402 : decode cL_law 402 = .ok (.iaload, 1) := by decide +kernel
theorem dL_law_403 : decode cL_law 403 = .ok (.aload_n 0, 1) := by decide +kernel
theorem dL_law_404 : decode cL_law 404 = .ok (.iload 5, 2) := by decide +kernel
theorem dL_law_406 : decode cL_law 406 = .ok (.iconst 2, 1) := by decide +kernel
theorem dL_law_407 : decode cL_law 407 = .ok (.iadd, 1) := by decide +kernel
theorem dL_law_408 : decode cL_law 408 = .ok (.iaload, 1) := by decide +kernel
theorem dL_law_409 : decode cL_law 409 = .ok (.ifCond .eq 7, 3) := by decide +kernel
theorem dL_law_412 : decode cL_law 412 = .ok (.iconst 1, 1) := by decide +kernel
theorem dL_law_413 : decode cL_law 413 = .ok (.goto 4, 3) := by decide +kernel
theorem dL_law_416 : decode cL_law 416 = .ok (.iconst 0, 1) := by decide +kernel
theorem dL_law_417 : decode cL_law 417 = .ok (.invokevirtual 147, 3) := by decide +kernel
theorem dL_law_420 : decode cL_law 420 = .ok (.istore 7, 2) := by decide +kernel
theorem dL_law_422 : decode cL_law 422 = .ok (.aload_n 2, 1) := by decide +kernel
theorem dL_law_423 : decode cL_law 423 = .ok (.invokevirtual 137, 3) := by decide +kernel
theorem dL_law_426 : decode cL_law 426 = .ok (.iload 6, 2) := by decide +kernel
theorem dL_law_428 : decode cL_law 428 = .ok (.if_icmp .eq 5, 3) := by decide +kernel
theorem dL_law_431 : decode cL_law 431 = .ok (.iconst 0, 1) := by decide +kernel
theorem dL_law_432 : decode cL_law 432 = .ok (.ireturn, 1) := by decide +kernel
theorem dL_law_433 : decode cL_law 433 = .ok (.iload 6, 2) := by decide +kernel
theorem dL_law_435 : decode cL_law 435 = .ok (.ifCond .ne 22, 3) := by decide +kernel
theorem dL_law_438 : decode cL_law 438 = .ok (.aload_n 3, 1) := by decide +kernel
theorem dL_law_439 : decode cL_law 439 = .ok (.iconst 0, 1) := by decide +kernel
theorem dL_law_440 : decode cL_law 440 = .ok (.laload, 1) := by decide +kernel
theorem dL_law_441 : decode cL_law 441 = .ok (.iload 7, 2) := by decide +kernel
theorem dL_law_443 : decode cL_law 443 = .ok (.ifCond .eq 7, 3) := by decide +kernel
theorem dL_law_446 : decode cL_law 446 = .ok (.lconst 1, 1) := by decide +kernel
theorem dL_law_447 : decode cL_law 447 = .ok (.goto 4, 3) := by decide +kernel
theorem dL_law_450 : decode cL_law 450 = .ok (.lconst 0, 1) := by decide +kernel
theorem dL_law_451 : decode cL_law 451 = .ok (.lcmp, 1) := by decide +kernel
theorem dL_law_452 : decode cL_law 452 = .ok (.ifCond .eq 5, 3) := by decide +kernel
theorem dL_law_455 : decode cL_law 455 = .ok (.iconst 0, 1) := by decide +kernel
theorem dL_law_456 : decode cL_law 456 = .ok (.ireturn, 1) := by decide +kernel
theorem dL_law_457 : decode cL_law 457 = .ok (.goto 1836, 3) := by decide +kernel
theorem dL_law_460 : decode cL_law 460 = .ok (.aload_n 1, 1) := by decide +kernel
theorem dL_law_461 : decode cL_law 461 = .ok (.aload_n 0, 1) := by decide +kernel
theorem dL_law_462 : decode cL_law 462 = .ok (.iload 5, 2) := by decide +kernel
theorem dL_law_464 : decode cL_law 464 = .ok (.iconst 1, 1) := by decide +kernel
theorem dL_law_465 : decode cL_law 465 = .ok (.iadd, 1) := by decide +kernel
theorem dL_law_466 : decode cL_law 466 = .ok (.iaload, 1) := by decide +kernel
theorem dL_law_467 : decode cL_law 467 = .ok (.aload_n 3, 1) := by decide +kernel
theorem dL_law_468 : decode cL_law 468 = .ok (.invokestatic 148, 3) := by decide +kernel
theorem dL_law_471 : decode cL_law 471 = .ok (.istore 6, 2) := by decide +kernel
theorem dL_law_473 : decode cL_law 473 = .ok (.aload_n 2, 1) := by decide +kernel
theorem dL_law_474 : decode cL_law 474 = .ok (.aload_n 0, 1) := by decide +kernel
theorem dL_law_475 : decode cL_law 475 = .ok (.iload 5, 2) := by decide +kernel
theorem dL_law_477 : decode cL_law 477 = .ok (.iconst 1, 1) := by decide +kernel
theorem dL_law_478 : decode cL_law 478 = .ok (.iadd, 1) := by decide +kernel
theorem dL_law_479 : decode cL_law 479 = .ok (.iaload, 1) := by decide +kernel
theorem dL_law_480 : decode cL_law 480 = .ok (.invokevirtual 151, 3) := by decide +kernel
theorem dL_law_483 : decode cL_law 483 = .ok (.istore 7, 2) := by decide +kernel
theorem dL_law_485 : decode cL_law 485 = .ok (.aload_n 2, 1) := by decide +kernel
theorem dL_law_486 : decode cL_law 486 = .ok (.invokevirtual 137, 3) := by decide +kernel
theorem dL_law_489 : decode cL_law 489 = .ok (.iload 6, 2) := by decide +kernel
theorem dL_law_491 : decode cL_law 491 = .ok (.if_icmp .eq 5, 3) := by decide +kernel
theorem dL_law_494 : decode cL_law 494 = .ok (.iconst 0, 1) := by decide +kernel
theorem dL_law_495 : decode cL_law 495 = .ok (.ireturn, 1) := by decide +kernel
theorem dL_law_496 : decode cL_law 496 = .ok (.iload 6, 2) := by decide +kernel
theorem dL_law_498 : decode cL_law 498 = .ok (.ifCond .ne 15, 3) := by decide +kernel
theorem dL_law_501 : decode cL_law 501 = .ok (.aload_n 3, 1) := by decide +kernel
theorem dL_law_502 : decode cL_law 502 = .ok (.iconst 0, 1) := by decide +kernel
theorem dL_law_503 : decode cL_law 503 = .ok (.laload, 1) := by decide +kernel
theorem dL_law_504 : decode cL_law 504 = .ok (.iload 7, 2) := by decide +kernel
theorem dL_law_506 : decode cL_law 506 = .ok (.i2l, 1) := by decide +kernel
theorem dL_law_507 : decode cL_law 507 = .ok (.lcmp, 1) := by decide +kernel
theorem dL_law_508 : decode cL_law 508 = .ok (.ifCond .eq 5, 3) := by decide +kernel
theorem dL_law_511 : decode cL_law 511 = .ok (.iconst 0, 1) := by decide +kernel
theorem dL_law_512 : decode cL_law 512 = .ok (.ireturn, 1) := by decide +kernel
theorem dL_law_513 : decode cL_law 513 = .ok (.goto 1780, 3) := by decide +kernel
theorem dL_law_516 : decode cL_law 516 = .ok (.aload_n 1, 1) := by decide +kernel
theorem dL_law_517 : decode cL_law 517 = .ok (.aload_n 0, 1) := by decide +kernel
theorem dL_law_518 : decode cL_law 518 = .ok (.iload 5, 2) := by decide +kernel
theorem dL_law_520 : decode cL_law 520 = .ok (.iconst 1, 1) := by decide +kernel
theorem dL_law_521 : decode cL_law 521 = .ok (.iadd, 1) := by decide +kernel
theorem dL_law_522 : decode cL_law 522 = .ok (.iaload, 1) := by decide +kernel
theorem dL_law_523 : decode cL_law 523 = .ok (.aload_n 0, 1) := by decide +kernel
theorem dL_law_524 : decode cL_law 524 = .ok (.iload 5, 2) := by decide +kernel
theorem dL_law_526 : decode cL_law 526 = .ok (.iconst 2, 1) := by decide +kernel
theorem dL_law_527 : decode cL_law 527 = .ok (.iadd, 1) := by decide +kernel
theorem dL_law_528 : decode cL_law 528 = .ok (.iaload, 1) := by decide +kernel
theorem dL_law_529 : decode cL_law 529 = .ok (.aload_n 3, 1) := by decide +kernel
theorem dL_law_530 : decode cL_law 530 = .ok (.invokestatic 152, 3) := by decide +kernel
theorem dL_law_533 : decode cL_law 533 = .ok (.istore 6, 2) := by decide +kernel
theorem dL_law_535 : decode cL_law 535 = .ok (.aload_n 2, 1) := by decide +kernel
theorem dL_law_536 : decode cL_law 536 = .ok (.aload_n 0, 1) := by decide +kernel
theorem dL_law_537 : decode cL_law 537 = .ok (.iload 5, 2) := by decide +kernel
theorem dL_law_539 : decode cL_law 539 = .ok (.iconst 1, 1) := by decide +kernel
theorem dL_law_540 : decode cL_law 540 = .ok (.iadd, 1) := by decide +kernel
theorem dL_law_541 : decode cL_law 541 = .ok (.iaload, 1) := by decide +kernel
theorem dL_law_542 : decode cL_law 542 = .ok (.aload_n 0, 1) := by decide +kernel
theorem dL_law_543 : decode cL_law 543 = .ok (.iload 5, 2) := by decide +kernel
theorem dL_law_545 : decode cL_law 545 = .ok (.iconst 2, 1) := by decide +kernel
theorem dL_law_546 : decode cL_law 546 = .ok (.iadd, 1) := by decide +kernel
theorem dL_law_547 : decode cL_law 547 = .ok (.iaload, 1) := by decide +kernel
theorem dL_law_548 : decode cL_law 548 = .ok (.invokevirtual 154, 3) := by decide +kernel
theorem dL_law_551 : decode cL_law 551 = .ok (.istore 7, 2) := by decide +kernel
theorem dL_law_553 : decode cL_law 553 = .ok (.aload_n 2, 1) := by decide +kernel
theorem dL_law_554 : decode cL_law 554 = .ok (.invokevirtual 137, 3) := by decide +kernel
theorem dL_law_557 : decode cL_law 557 = .ok (.iload 6, 2) := by decide +kernel
theorem dL_law_559 : decode cL_law 559 = .ok (.if_icmp .eq 5, 3) := by decide +kernel
theorem dL_law_562 : decode cL_law 562 = .ok (.iconst 0, 1) := by decide +kernel
theorem dL_law_563 : decode cL_law 563 = .ok (.ireturn, 1) := by decide +kernel
theorem dL_law_564 : decode cL_law 564 = .ok (.iload 6, 2) := by decide +kernel
theorem dL_law_566 : decode cL_law 566 = .ok (.ifCond .ne 15, 3) := by decide +kernel
theorem dL_law_569 : decode cL_law 569 = .ok (.aload_n 3, 1) := by decide +kernel
theorem dL_law_570 : decode cL_law 570 = .ok (.iconst 0, 1) := by decide +kernel
theorem dL_law_571 : decode cL_law 571 = .ok (.laload, 1) := by decide +kernel
theorem dL_law_572 : decode cL_law 572 = .ok (.iload 7, 2) := by decide +kernel
theorem dL_law_574 : decode cL_law 574 = .ok (.i2l, 1) := by decide +kernel
theorem dL_law_575 : decode cL_law 575 = .ok (.lcmp, 1) := by decide +kernel
theorem dL_law_576 : decode cL_law 576 = .ok (.ifCond .eq 5, 3) := by decide +kernel
theorem dL_law_579 : decode cL_law 579 = .ok (.iconst 0, 1) := by decide +kernel
theorem dL_law_580 : decode cL_law 580 = .ok (.ireturn, 1) := by decide +kernel
theorem dL_law_581 : decode cL_law 581 = .ok (.goto 1712, 3) := by decide +kernel
theorem dL_law_584 : decode cL_law 584 = .ok (.aload_n 1, 1) := by decide +kernel
theorem dL_law_585 : decode cL_law 585 = .ok (.aload_n 0, 1) := by decide +kernel
theorem dL_law_586 : decode cL_law 586 = .ok (.iload 5, 2) := by decide +kernel
theorem dL_law_588 : decode cL_law 588 = .ok (.iconst 1, 1) := by decide +kernel
theorem dL_law_589 : decode cL_law 589 = .ok (.iadd, 1) := by decide +kernel
theorem dL_law_590 : decode cL_law 590 = .ok (.iaload, 1) := by decide +kernel
theorem dL_law_591 : decode cL_law 591 = .ok (.aload_n 0, 1) := by decide +kernel
theorem dL_law_592 : decode cL_law 592 = .ok (.iload 5, 2) := by decide +kernel
theorem dL_law_594 : decode cL_law 594 = .ok (.iconst 2, 1) := by decide +kernel
theorem dL_law_595 : decode cL_law 595 = .ok (.iadd, 1) := by decide +kernel
theorem dL_law_596 : decode cL_law 596 = .ok (.iaload, 1) := by decide +kernel
theorem dL_law_597 : decode cL_law 597 = .ok (.aload_n 3, 1) := by decide +kernel
theorem dL_law_598 : decode cL_law 598 = .ok (.invokestatic 155, 3) := by decide +kernel
theorem dL_law_601 : decode cL_law 601 = .ok (.istore 6, 2) := by decide +kernel
theorem dL_law_603 : decode cL_law 603 = .ok (.aload_n 2, 1) := by decide +kernel
theorem dL_law_604 : decode cL_law 604 = .ok (.aload_n 0, 1) := by decide +kernel
theorem dL_law_605 : decode cL_law 605 = .ok (.iload 5, 2) := by decide +kernel
theorem dL_law_607 : decode cL_law 607 = .ok (.iconst 1, 1) := by decide +kernel
theorem dL_law_608 : decode cL_law 608 = .ok (.iadd, 1) := by decide +kernel
theorem dL_law_609 : decode cL_law 609 = .ok (.iaload, 1) := by decide +kernel
theorem dL_law_610 : decode cL_law 610 = .ok (.aload_n 0, 1) := by decide +kernel
theorem dL_law_611 : decode cL_law 611 = .ok (.iload 5, 2) := by decide +kernel
theorem dL_law_613 : decode cL_law 613 = .ok (.iconst 2, 1) := by decide +kernel
theorem dL_law_614 : decode cL_law 614 = .ok (.iadd, 1) := by decide +kernel
theorem dL_law_615 : decode cL_law 615 = .ok (.iaload, 1) := by decide +kernel
theorem dL_law_616 : decode cL_law 616 = .ok (.invokevirtual 157, 3) := by decide +kernel
theorem dL_law_619 : decode cL_law 619 = .ok (.istore 7, 2) := by decide +kernel
theorem dL_law_621 : decode cL_law 621 = .ok (.aload_n 2, 1) := by decide +kernel
theorem dL_law_622 : decode cL_law 622 = .ok (.invokevirtual 137, 3) := by decide +kernel
theorem dL_law_625 : decode cL_law 625 = .ok (.iload 6, 2) := by decide +kernel
theorem dL_law_627 : decode cL_law 627 = .ok (.if_icmp .eq 5, 3) := by decide +kernel
theorem dL_law_630 : decode cL_law 630 = .ok (.iconst 0, 1) := by decide +kernel
theorem dL_law_631 : decode cL_law 631 = .ok (.ireturn, 1) := by decide +kernel
theorem dL_law_632 : decode cL_law 632 = .ok (.iload 6, 2) := by decide +kernel
theorem dL_law_634 : decode cL_law 634 = .ok (.ifCond .ne 15, 3) := by decide +kernel
theorem dL_law_637 : decode cL_law 637 = .ok (.aload_n 3, 1) := by decide +kernel
theorem dL_law_638 : decode cL_law 638 = .ok (.iconst 0, 1) := by decide +kernel
theorem dL_law_639 : decode cL_law 639 = .ok (.laload, 1) := by decide +kernel
theorem dL_law_640 : decode cL_law 640 = .ok (.iload 7, 2) := by decide +kernel
theorem dL_law_642 : decode cL_law 642 = .ok (.i2l, 1) := by decide +kernel
theorem dL_law_643 : decode cL_law 643 = .ok (.lcmp, 1) := by decide +kernel
theorem dL_law_644 : decode cL_law 644 = .ok (.ifCond .eq 5, 3) := by decide +kernel
theorem dL_law_647 : decode cL_law 647 = .ok (.iconst 0, 1) := by decide +kernel
theorem dL_law_648 : decode cL_law 648 = .ok (.ireturn, 1) := by decide +kernel
theorem dL_law_649 : decode cL_law 649 = .ok (.goto 1644, 3) := by decide +kernel
theorem dL_law_652 : decode cL_law 652 = .ok (.aload_n 1, 1) := by decide +kernel
theorem dL_law_653 : decode cL_law 653 = .ok (.aload_n 0, 1) := by decide +kernel
theorem dL_law_654 : decode cL_law 654 = .ok (.iload 5, 2) := by decide +kernel
theorem dL_law_656 : decode cL_law 656 = .ok (.iconst 1, 1) := by decide +kernel
theorem dL_law_657 : decode cL_law 657 = .ok (.iadd, 1) := by decide +kernel
theorem dL_law_658 : decode cL_law 658 = .ok (.iaload, 1) := by decide +kernel
theorem dL_law_659 : decode cL_law 659 = .ok (.aload_n 0, 1) := by decide +kernel
theorem dL_law_660 : decode cL_law 660 = .ok (.iload 5, 2) := by decide +kernel
theorem dL_law_662 : decode cL_law 662 = .ok (.iconst 2, 1) := by decide +kernel
theorem dL_law_663 : decode cL_law 663 = .ok (.iadd, 1) := by decide +kernel
theorem dL_law_664 : decode cL_law 664 = .ok (.iaload, 1) := by decide +kernel
theorem dL_law_665 : decode cL_law 665 = .ok (.aload_n 3, 1) := by decide +kernel
theorem dL_law_666 : decode cL_law 666 = .ok (.invokestatic 158, 3) := by decide +kernel
theorem dL_law_669 : decode cL_law 669 = .ok (.istore 6, 2) := by decide +kernel
theorem dL_law_671 : decode cL_law 671 = .ok (.aload_n 2, 1) := by decide +kernel
theorem dL_law_672 : decode cL_law 672 = .ok (.aload_n 0, 1) := by decide +kernel
theorem dL_law_673 : decode cL_law 673 = .ok (.iload 5, 2) := by decide +kernel
theorem dL_law_675 : decode cL_law 675 = .ok (.iconst 1, 1) := by decide +kernel
theorem dL_law_676 : decode cL_law 676 = .ok (.iadd, 1) := by decide +kernel
theorem dL_law_677 : decode cL_law 677 = .ok (.iaload, 1) := by decide +kernel
theorem dL_law_678 : decode cL_law 678 = .ok (.aload_n 0, 1) := by decide +kernel
theorem dL_law_679 : decode cL_law 679 = .ok (.iload 5, 2) := by decide +kernel
theorem dL_law_681 : decode cL_law 681 = .ok (.iconst 2, 1) := by decide +kernel
theorem dL_law_682 : decode cL_law 682 = .ok (.iadd, 1) := by decide +kernel
theorem dL_law_683 : decode cL_law 683 = .ok (.iaload, 1) := by decide +kernel
theorem dL_law_684 : decode cL_law 684 = .ok (.invokevirtual 160, 3) := by decide +kernel
theorem dL_law_687 : decode cL_law 687 = .ok (.istore 7, 2) := by decide +kernel
theorem dL_law_689 : decode cL_law 689 = .ok (.aload_n 2, 1) := by decide +kernel
theorem dL_law_690 : decode cL_law 690 = .ok (.invokevirtual 137, 3) := by decide +kernel
theorem dL_law_693 : decode cL_law 693 = .ok (.iload 6, 2) := by decide +kernel
theorem dL_law_695 : decode cL_law 695 = .ok (.if_icmp .eq 5, 3) := by decide +kernel
theorem dL_law_698 : decode cL_law 698 = .ok (.iconst 0, 1) := by decide +kernel
theorem dL_law_699 : decode cL_law 699 = .ok (.ireturn, 1) := by decide +kernel
theorem dL_law_700 : decode cL_law 700 = .ok (.iload 6, 2) := by decide +kernel
theorem dL_law_702 : decode cL_law 702 = .ok (.ifCond .ne 15, 3) := by decide +kernel
theorem dL_law_705 : decode cL_law 705 = .ok (.aload_n 3, 1) := by decide +kernel
theorem dL_law_706 : decode cL_law 706 = .ok (.iconst 0, 1) := by decide +kernel
theorem dL_law_707 : decode cL_law 707 = .ok (.laload, 1) := by decide +kernel
theorem dL_law_708 : decode cL_law 708 = .ok (.iload 7, 2) := by decide +kernel
theorem dL_law_710 : decode cL_law 710 = .ok (.i2l, 1) := by decide +kernel
theorem dL_law_711 : decode cL_law 711 = .ok (.lcmp, 1) := by decide +kernel
theorem dL_law_712 : decode cL_law 712 = .ok (.ifCond .eq 5, 3) := by decide +kernel
theorem dL_law_715 : decode cL_law 715 = .ok (.iconst 0, 1) := by decide +kernel
theorem dL_law_716 : decode cL_law 716 = .ok (.ireturn, 1) := by decide +kernel
theorem dL_law_717 : decode cL_law 717 = .ok (.goto 1576, 3) := by decide +kernel
theorem dL_law_720 : decode cL_law 720 = .ok (.aload_n 1, 1) := by decide +kernel
theorem dL_law_721 : decode cL_law 721 = .ok (.aload_n 0, 1) := by decide +kernel
theorem dL_law_722 : decode cL_law 722 = .ok (.iload 5, 2) := by decide +kernel
theorem dL_law_724 : decode cL_law 724 = .ok (.iconst 1, 1) := by decide +kernel
theorem dL_law_725 : decode cL_law 725 = .ok (.iadd, 1) := by decide +kernel
theorem dL_law_726 : decode cL_law 726 = .ok (.iaload, 1) := by decide +kernel
theorem dL_law_727 : decode cL_law 727 = .ok (.aload_n 0, 1) := by decide +kernel
theorem dL_law_728 : decode cL_law 728 = .ok (.iload 5, 2) := by decide +kernel
theorem dL_law_730 : decode cL_law 730 = .ok (.iconst 2, 1) := by decide +kernel
theorem dL_law_731 : decode cL_law 731 = .ok (.iadd, 1) := by decide +kernel
theorem dL_law_732 : decode cL_law 732 = .ok (.iaload, 1) := by decide +kernel
theorem dL_law_733 : decode cL_law 733 = .ok (.aload_n 0, 1) := by decide +kernel
theorem dL_law_734 : decode cL_law 734 = .ok (.iload 5, 2) := by decide +kernel
theorem dL_law_736 : decode cL_law 736 = .ok (.iconst 3, 1) := by decide +kernel
theorem dL_law_737 : decode cL_law 737 = .ok (.iadd, 1) := by decide +kernel
theorem dL_law_738 : decode cL_law 738 = .ok (.iaload, 1) := by decide +kernel
theorem dL_law_739 : decode cL_law 739 = .ok (.aload_n 0, 1) := by decide +kernel
theorem dL_law_740 : decode cL_law 740 = .ok (.iload 5, 2) := by decide +kernel
theorem dL_law_742 : decode cL_law 742 = .ok (.iconst 4, 1) := by decide +kernel
theorem dL_law_743 : decode cL_law 743 = .ok (.iadd, 1) := by decide +kernel
theorem dL_law_744 : decode cL_law 744 = .ok (.iaload, 1) := by decide +kernel
theorem dL_law_745 : decode cL_law 745 = .ok (.aload_n 3, 1) := by decide +kernel
theorem dL_law_746 : decode cL_law 746 = .ok (.invokestatic 161, 3) := by decide +kernel
theorem dL_law_749 : decode cL_law 749 = .ok (.istore 6, 2) := by decide +kernel
theorem dL_law_751 : decode cL_law 751 = .ok (.aload_n 2, 1) := by decide +kernel
theorem dL_law_752 : decode cL_law 752 = .ok (.aload_n 0, 1) := by decide +kernel
theorem dL_law_753 : decode cL_law 753 = .ok (.iload 5, 2) := by decide +kernel
theorem dL_law_755 : decode cL_law 755 = .ok (.iconst 1, 1) := by decide +kernel
theorem dL_law_756 : decode cL_law 756 = .ok (.iadd, 1) := by decide +kernel
theorem dL_law_757 : decode cL_law 757 = .ok (.iaload, 1) := by decide +kernel
theorem dL_law_758 : decode cL_law 758 = .ok (.aload_n 0, 1) := by decide +kernel
theorem dL_law_759 : decode cL_law 759 = .ok (.iload 5, 2) := by decide +kernel
theorem dL_law_761 : decode cL_law 761 = .ok (.iconst 2, 1) := by decide +kernel
theorem dL_law_762 : decode cL_law 762 = .ok (.iadd, 1) := by decide +kernel
theorem dL_law_763 : decode cL_law 763 = .ok (.iaload, 1) := by decide +kernel
theorem dL_law_764 : decode cL_law 764 = .ok (.aload_n 0, 1) := by decide +kernel
theorem dL_law_765 : decode cL_law 765 = .ok (.iload 5, 2) := by decide +kernel
theorem dL_law_767 : decode cL_law 767 = .ok (.iconst 3, 1) := by decide +kernel
theorem dL_law_768 : decode cL_law 768 = .ok (.iadd, 1) := by decide +kernel
theorem dL_law_769 : decode cL_law 769 = .ok (.iaload, 1) := by decide +kernel
theorem dL_law_770 : decode cL_law 770 = .ok (.aload_n 0, 1) := by decide +kernel
theorem dL_law_771 : decode cL_law 771 = .ok (.iload 5, 2) := by decide +kernel
theorem dL_law_773 : decode cL_law 773 = .ok (.iconst 4, 1) := by decide +kernel
theorem dL_law_774 : decode cL_law 774 = .ok (.iadd, 1) := by decide +kernel
theorem dL_law_775 : decode cL_law 775 = .ok (.iaload, 1) := by decide +kernel
theorem dL_law_776 : decode cL_law 776 = .ok (.invokevirtual 164, 3) := by decide +kernel
theorem dL_law_779 : decode cL_law 779 = .ok (.istore 7, 2) := by decide +kernel
theorem dL_law_781 : decode cL_law 781 = .ok (.aload_n 2, 1) := by decide +kernel
theorem dL_law_782 : decode cL_law 782 = .ok (.invokevirtual 137, 3) := by decide +kernel
theorem dL_law_785 : decode cL_law 785 = .ok (.iload 6, 2) := by decide +kernel
theorem dL_law_787 : decode cL_law 787 = .ok (.if_icmp .eq 5, 3) := by decide +kernel
theorem dL_law_790 : decode cL_law 790 = .ok (.iconst 0, 1) := by decide +kernel
theorem dL_law_791 : decode cL_law 791 = .ok (.ireturn, 1) := by decide +kernel
theorem dL_law_792 : decode cL_law 792 = .ok (.iload 6, 2) := by decide +kernel
theorem dL_law_794 : decode cL_law 794 = .ok (.ifCond .ne 15, 3) := by decide +kernel
theorem dL_law_797 : decode cL_law 797 = .ok (.aload_n 3, 1) := by decide +kernel
theorem dL_law_798 : decode cL_law 798 = .ok (.iconst 0, 1) := by decide +kernel
theorem dL_law_799 : decode cL_law 799 = .ok (.laload, 1) := by decide +kernel
theorem dL_law_800 : decode cL_law 800 = .ok (.iload 7, 2) := by decide +kernel
theorem dL_law_802 : decode cL_law 802 = .ok (.i2l, 1) := by decide +kernel
theorem dL_law_803 : decode cL_law 803 = .ok (.lcmp, 1) := by decide +kernel
theorem dL_law_804 : decode cL_law 804 = .ok (.ifCond .eq 5, 3) := by decide +kernel
theorem dL_law_807 : decode cL_law 807 = .ok (.iconst 0, 1) := by decide +kernel
theorem dL_law_808 : decode cL_law 808 = .ok (.ireturn, 1) := by decide +kernel
theorem dL_law_809 : decode cL_law 809 = .ok (.goto 1484, 3) := by decide +kernel
theorem dL_law_812 : decode cL_law 812 = .ok (.aload_n 1, 1) := by decide +kernel
theorem dL_law_813 : decode cL_law 813 = .ok (.aload_n 0, 1) := by decide +kernel
theorem dL_law_814 : decode cL_law 814 = .ok (.iload 5, 2) := by decide +kernel
theorem dL_law_816 : decode cL_law 816 = .ok (.iconst 1, 1) := by decide +kernel
theorem dL_law_817 : decode cL_law 817 = .ok (.iadd, 1) := by decide +kernel
theorem dL_law_818 : decode cL_law 818 = .ok (.iaload, 1) := by decide +kernel
theorem dL_law_819 : decode cL_law 819 = .ok (.aload_n 0, 1) := by decide +kernel
theorem dL_law_820 : decode cL_law 820 = .ok (.iload 5, 2) := by decide +kernel
theorem dL_law_822 : decode cL_law 822 = .ok (.iconst 2, 1) := by decide +kernel
theorem dL_law_823 : decode cL_law 823 = .ok (.iadd, 1) := by decide +kernel
theorem dL_law_824 : decode cL_law 824 = .ok (.iaload, 1) := by decide +kernel
theorem dL_law_825 : decode cL_law 825 = .ok (.aload_n 3, 1) := by decide +kernel
theorem dL_law_826 : decode cL_law 826 = .ok (.invokestatic 165, 3) := by decide +kernel
theorem dL_law_829 : decode cL_law 829 = .ok (.istore 6, 2) := by decide +kernel
theorem dL_law_831 : decode cL_law 831 = .ok (.aload_n 2, 1) := by decide +kernel
theorem dL_law_832 : decode cL_law 832 = .ok (.aload_n 0, 1) := by decide +kernel
theorem dL_law_833 : decode cL_law 833 = .ok (.iload 5, 2) := by decide +kernel
theorem dL_law_835 : decode cL_law 835 = .ok (.iconst 1, 1) := by decide +kernel
theorem dL_law_836 : decode cL_law 836 = .ok (.iadd, 1) := by decide +kernel
theorem dL_law_837 : decode cL_law 837 = .ok (.iaload, 1) := by decide +kernel
theorem dL_law_838 : decode cL_law 838 = .ok (.aload_n 0, 1) := by decide +kernel
theorem dL_law_839 : decode cL_law 839 = .ok (.iload 5, 2) := by decide +kernel
theorem dL_law_841 : decode cL_law 841 = .ok (.iconst 2, 1) := by decide +kernel
theorem dL_law_842 : decode cL_law 842 = .ok (.iadd, 1) := by decide +kernel
theorem dL_law_843 : decode cL_law 843 = .ok (.iaload, 1) := by decide +kernel
theorem dL_law_844 : decode cL_law 844 = .ok (.invokevirtual 167, 3) := by decide +kernel
theorem dL_law_847 : decode cL_law 847 = .ok (.istore 7, 2) := by decide +kernel
theorem dL_law_849 : decode cL_law 849 = .ok (.aload_n 2, 1) := by decide +kernel
theorem dL_law_850 : decode cL_law 850 = .ok (.invokevirtual 137, 3) := by decide +kernel
theorem dL_law_853 : decode cL_law 853 = .ok (.iload 6, 2) := by decide +kernel
theorem dL_law_855 : decode cL_law 855 = .ok (.if_icmp .eq 5, 3) := by decide +kernel
theorem dL_law_858 : decode cL_law 858 = .ok (.iconst 0, 1) := by decide +kernel
theorem dL_law_859 : decode cL_law 859 = .ok (.ireturn, 1) := by decide +kernel
theorem dL_law_860 : decode cL_law 860 = .ok (.iload 6, 2) := by decide +kernel
theorem dL_law_862 : decode cL_law 862 = .ok (.ifCond .ne 15, 3) := by decide +kernel
theorem dL_law_865 : decode cL_law 865 = .ok (.aload_n 3, 1) := by decide +kernel
theorem dL_law_866 : decode cL_law 866 = .ok (.iconst 0, 1) := by decide +kernel
theorem dL_law_867 : decode cL_law 867 = .ok (.laload, 1) := by decide +kernel
theorem dL_law_868 : decode cL_law 868 = .ok (.iload 7, 2) := by decide +kernel
theorem dL_law_870 : decode cL_law 870 = .ok (.i2l, 1) := by decide +kernel
theorem dL_law_871 : decode cL_law 871 = .ok (.lcmp, 1) := by decide +kernel
theorem dL_law_872 : decode cL_law 872 = .ok (.ifCond .eq 5, 3) := by decide +kernel
theorem dL_law_875 : decode cL_law 875 = .ok (.iconst 0, 1) := by decide +kernel
theorem dL_law_876 : decode cL_law 876 = .ok (.ireturn, 1) := by decide +kernel
theorem dL_law_877 : decode cL_law 877 = .ok (.goto 1416, 3) := by decide +kernel
theorem dL_law_880 : decode cL_law 880 = .ok (.aload_n 1, 1) := by decide +kernel
theorem dL_law_881 : decode cL_law 881 = .ok (.aload_n 0, 1) := by decide +kernel
theorem dL_law_882 : decode cL_law 882 = .ok (.iload 5, 2) := by decide +kernel
theorem dL_law_884 : decode cL_law 884 = .ok (.iconst 1, 1) := by decide +kernel
theorem dL_law_885 : decode cL_law 885 = .ok (.iadd, 1) := by decide +kernel
theorem dL_law_886 : decode cL_law 886 = .ok (.iaload, 1) := by decide +kernel
theorem dL_law_887 : decode cL_law 887 = .ok (.aload_n 0, 1) := by decide +kernel
theorem dL_law_888 : decode cL_law 888 = .ok (.iload 5, 2) := by decide +kernel
theorem dL_law_890 : decode cL_law 890 = .ok (.iconst 2, 1) := by decide +kernel
theorem dL_law_891 : decode cL_law 891 = .ok (.iadd, 1) := by decide +kernel
theorem dL_law_892 : decode cL_law 892 = .ok (.iaload, 1) := by decide +kernel
theorem dL_law_893 : decode cL_law 893 = .ok (.aload_n 0, 1) := by decide +kernel
theorem dL_law_894 : decode cL_law 894 = .ok (.iload 5, 2) := by decide +kernel
theorem dL_law_896 : decode cL_law 896 = .ok (.iconst 3, 1) := by decide +kernel
theorem dL_law_897 : decode cL_law 897 = .ok (.iadd, 1) := by decide +kernel
theorem dL_law_898 : decode cL_law 898 = .ok (.iaload, 1) := by decide +kernel
theorem dL_law_899 : decode cL_law 899 = .ok (.aload_n 3, 1) := by decide +kernel
theorem dL_law_900 : decode cL_law 900 = .ok (.invokestatic 168, 3) := by decide +kernel
theorem dL_law_903 : decode cL_law 903 = .ok (.istore 6, 2) := by decide +kernel
theorem dL_law_905 : decode cL_law 905 = .ok (.aload_n 2, 1) := by decide +kernel
theorem dL_law_906 : decode cL_law 906 = .ok (.aload_n 0, 1) := by decide +kernel
theorem dL_law_907 : decode cL_law 907 = .ok (.iload 5, 2) := by decide +kernel
theorem dL_law_909 : decode cL_law 909 = .ok (.iconst 1, 1) := by decide +kernel
theorem dL_law_910 : decode cL_law 910 = .ok (.iadd, 1) := by decide +kernel
theorem dL_law_911 : decode cL_law 911 = .ok (.iaload, 1) := by decide +kernel
theorem dL_law_912 : decode cL_law 912 = .ok (.aload_n 0, 1) := by decide +kernel
theorem dL_law_913 : decode cL_law 913 = .ok (.iload 5, 2) := by decide +kernel
theorem dL_law_915 : decode cL_law 915 = .ok (.iconst 2, 1) := by decide +kernel
theorem dL_law_916 : decode cL_law 916 = .ok (.iadd, 1) := by decide +kernel
theorem dL_law_917 : decode cL_law 917 = .ok (.iaload, 1) := by decide +kernel
theorem dL_law_918 : decode cL_law 918 = .ok (.aload_n 0, 1) := by decide +kernel
theorem dL_law_919 : decode cL_law 919 = .ok (.iload 5, 2) := by decide +kernel
theorem dL_law_921 : decode cL_law 921 = .ok (.iconst 3, 1) := by decide +kernel
theorem dL_law_922 : decode cL_law 922 = .ok (.iadd, 1) := by decide +kernel
theorem dL_law_923 : decode cL_law 923 = .ok (.iaload, 1) := by decide +kernel
theorem dL_law_924 : decode cL_law 924 = .ok (.invokevirtual 170, 3) := by decide +kernel
theorem dL_law_927 : decode cL_law 927 = .ok (.istore 7, 2) := by decide +kernel
theorem dL_law_929 : decode cL_law 929 = .ok (.aload_n 2, 1) := by decide +kernel
theorem dL_law_930 : decode cL_law 930 = .ok (.invokevirtual 137, 3) := by decide +kernel
theorem dL_law_933 : decode cL_law 933 = .ok (.iload 6, 2) := by decide +kernel
theorem dL_law_935 : decode cL_law 935 = .ok (.if_icmp .eq 5, 3) := by decide +kernel
theorem dL_law_938 : decode cL_law 938 = .ok (.iconst 0, 1) := by decide +kernel
theorem dL_law_939 : decode cL_law 939 = .ok (.ireturn, 1) := by decide +kernel
theorem dL_law_940 : decode cL_law 940 = .ok (.iload 6, 2) := by decide +kernel
theorem dL_law_942 : decode cL_law 942 = .ok (.ifCond .ne 15, 3) := by decide +kernel
theorem dL_law_945 : decode cL_law 945 = .ok (.aload_n 3, 1) := by decide +kernel
theorem dL_law_946 : decode cL_law 946 = .ok (.iconst 0, 1) := by decide +kernel
theorem dL_law_947 : decode cL_law 947 = .ok (.laload, 1) := by decide +kernel
theorem dL_law_948 : decode cL_law 948 = .ok (.iload 7, 2) := by decide +kernel
theorem dL_law_950 : decode cL_law 950 = .ok (.i2l, 1) := by decide +kernel
theorem dL_law_951 : decode cL_law 951 = .ok (.lcmp, 1) := by decide +kernel
theorem dL_law_952 : decode cL_law 952 = .ok (.ifCond .eq 5, 3) := by decide +kernel
theorem dL_law_955 : decode cL_law 955 = .ok (.iconst 0, 1) := by decide +kernel
theorem dL_law_956 : decode cL_law 956 = .ok (.ireturn, 1) := by decide +kernel
theorem dL_law_957 : decode cL_law 957 = .ok (.goto 1336, 3) := by decide +kernel
theorem dL_law_960 : decode cL_law 960 = .ok (.aload_n 1, 1) := by decide +kernel
theorem dL_law_961 : decode cL_law 961 = .ok (.aload_n 0, 1) := by decide +kernel
theorem dL_law_962 : decode cL_law 962 = .ok (.iload 5, 2) := by decide +kernel
theorem dL_law_964 : decode cL_law 964 = .ok (.iconst 1, 1) := by decide +kernel
theorem dL_law_965 : decode cL_law 965 = .ok (.iadd, 1) := by decide +kernel
theorem dL_law_966 : decode cL_law 966 = .ok (.iaload, 1) := by decide +kernel
theorem dL_law_967 : decode cL_law 967 = .ok (.aload_n 0, 1) := by decide +kernel
theorem dL_law_968 : decode cL_law 968 = .ok (.iload 5, 2) := by decide +kernel
theorem dL_law_970 : decode cL_law 970 = .ok (.iconst 2, 1) := by decide +kernel
theorem dL_law_971 : decode cL_law 971 = .ok (.iadd, 1) := by decide +kernel
theorem dL_law_972 : decode cL_law 972 = .ok (.iaload, 1) := by decide +kernel
theorem dL_law_973 : decode cL_law 973 = .ok (.aload_n 0, 1) := by decide +kernel
theorem dL_law_974 : decode cL_law 974 = .ok (.iload 5, 2) := by decide +kernel
theorem dL_law_976 : decode cL_law 976 = .ok (.iconst 3, 1) := by decide +kernel
theorem dL_law_977 : decode cL_law 977 = .ok (.iadd, 1) := by decide +kernel
theorem dL_law_978 : decode cL_law 978 = .ok (.iaload, 1) := by decide +kernel
theorem dL_law_979 : decode cL_law 979 = .ok (.aload_n 3, 1) := by decide +kernel
theorem dL_law_980 : decode cL_law 980 = .ok (.invokestatic 171, 3) := by decide +kernel
theorem dL_law_983 : decode cL_law 983 = .ok (.istore 6, 2) := by decide +kernel
theorem dL_law_985 : decode cL_law 985 = .ok (.aload_n 2, 1) := by decide +kernel
theorem dL_law_986 : decode cL_law 986 = .ok (.aload_n 0, 1) := by decide +kernel
theorem dL_law_987 : decode cL_law 987 = .ok (.iload 5, 2) := by decide +kernel
theorem dL_law_989 : decode cL_law 989 = .ok (.iconst 1, 1) := by decide +kernel
theorem dL_law_990 : decode cL_law 990 = .ok (.iadd, 1) := by decide +kernel
theorem dL_law_991 : decode cL_law 991 = .ok (.iaload, 1) := by decide +kernel
theorem dL_law_992 : decode cL_law 992 = .ok (.aload_n 0, 1) := by decide +kernel
theorem dL_law_993 : decode cL_law 993 = .ok (.iload 5, 2) := by decide +kernel
theorem dL_law_995 : decode cL_law 995 = .ok (.iconst 2, 1) := by decide +kernel
theorem dL_law_996 : decode cL_law 996 = .ok (.iadd, 1) := by decide +kernel
theorem dL_law_997 : decode cL_law 997 = .ok (.iaload, 1) := by decide +kernel
theorem dL_law_998 : decode cL_law 998 = .ok (.aload_n 0, 1) := by decide +kernel
theorem dL_law_999 : decode cL_law 999 = .ok (.iload 5, 2) := by decide +kernel
theorem dL_law_1001 : decode cL_law 1001 = .ok (.iconst 3, 1) := by decide +kernel
theorem dL_law_1002 : decode cL_law 1002 = .ok (.iadd, 1) := by decide +kernel
theorem dL_law_1003 : decode cL_law 1003 = .ok (.iaload, 1) := by decide +kernel
theorem dL_law_1004 : decode cL_law 1004 = .ok (.invokevirtual 173, 3) := by decide +kernel
theorem dL_law_1007 : decode cL_law 1007 = .ok (.istore 7, 2) := by decide +kernel
theorem dL_law_1009 : decode cL_law 1009 = .ok (.aload_n 2, 1) := by decide +kernel
theorem dL_law_1010 : decode cL_law 1010 = .ok (.invokevirtual 137, 3) := by decide +kernel
theorem dL_law_1013 : decode cL_law 1013 = .ok (.iload 6, 2) := by decide +kernel
theorem dL_law_1015 : decode cL_law 1015 = .ok (.if_icmp .eq 5, 3) := by decide +kernel
theorem dL_law_1018 : decode cL_law 1018 = .ok (.iconst 0, 1) := by decide +kernel
theorem dL_law_1019 : decode cL_law 1019 = .ok (.ireturn, 1) := by decide +kernel
theorem dL_law_1020 : decode cL_law 1020 = .ok (.iload 6, 2) := by decide +kernel
theorem dL_law_1022 : decode cL_law 1022 = .ok (.ifCond .ne 15, 3) := by decide +kernel
theorem dL_law_1025 : decode cL_law 1025 = .ok (.aload_n 3, 1) := by decide +kernel
theorem dL_law_1026 : decode cL_law 1026 = .ok (.iconst 0, 1) := by decide +kernel
theorem dL_law_1027 : decode cL_law 1027 = .ok (.laload, 1) := by decide +kernel
theorem dL_law_1028 : decode cL_law 1028 = .ok (.iload 7, 2) := by decide +kernel
theorem dL_law_1030 : decode cL_law 1030 = .ok (.i2l, 1) := by decide +kernel
theorem dL_law_1031 : decode cL_law 1031 = .ok (.lcmp, 1) := by decide +kernel
theorem dL_law_1032 : decode cL_law 1032 = .ok (.ifCond .eq 5, 3) := by decide +kernel
theorem dL_law_1035 : decode cL_law 1035 = .ok (.iconst 0, 1) := by decide +kernel
theorem dL_law_1036 : decode cL_law 1036 = .ok (.ireturn, 1) := by decide +kernel
theorem dL_law_1037 : decode cL_law 1037 = .ok (.goto 1256, 3) := by decide +kernel
theorem dL_law_1040 : decode cL_law 1040 = .ok (.aload_n 1, 1) := by decide +kernel
theorem dL_law_1041 : decode cL_law 1041 = .ok (.aload_n 0, 1) := by decide +kernel
theorem dL_law_1042 : decode cL_law 1042 = .ok (.iload 5, 2) := by decide +kernel
theorem dL_law_1044 : decode cL_law 1044 = .ok (.iconst 1, 1) := by decide +kernel
theorem dL_law_1045 : decode cL_law 1045 = .ok (.iadd, 1) := by decide +kernel
theorem dL_law_1046 : decode cL_law 1046 = .ok (.iaload, 1) := by decide +kernel
theorem dL_law_1047 : decode cL_law 1047 = .ok (.aload_n 0, 1) := by decide +kernel
theorem dL_law_1048 : decode cL_law 1048 = .ok (.iload 5, 2) := by decide +kernel
theorem dL_law_1050 : decode cL_law 1050 = .ok (.iconst 2, 1) := by decide +kernel
theorem dL_law_1051 : decode cL_law 1051 = .ok (.iadd, 1) := by decide +kernel
theorem dL_law_1052 : decode cL_law 1052 = .ok (.iaload, 1) := by decide +kernel
theorem dL_law_1053 : decode cL_law 1053 = .ok (.aload_n 0, 1) := by decide +kernel
theorem dL_law_1054 : decode cL_law 1054 = .ok (.iload 5, 2) := by decide +kernel
theorem dL_law_1056 : decode cL_law 1056 = .ok (.iconst 3, 1) := by decide +kernel
theorem dL_law_1057 : decode cL_law 1057 = .ok (.iadd, 1) := by decide +kernel
theorem dL_law_1058 : decode cL_law 1058 = .ok (.iaload, 1) := by decide +kernel
theorem dL_law_1059 : decode cL_law 1059 = .ok (.aload_n 3, 1) := by decide +kernel
theorem dL_law_1060 : decode cL_law 1060 = .ok (.invokestatic 174, 3) := by decide +kernel
theorem dL_law_1063 : decode cL_law 1063 = .ok (.istore 6, 2) := by decide +kernel
theorem dL_law_1065 : decode cL_law 1065 = .ok (.aload_n 2, 1) := by decide +kernel
theorem dL_law_1066 : decode cL_law 1066 = .ok (.aload_n 0, 1) := by decide +kernel
theorem dL_law_1067 : decode cL_law 1067 = .ok (.iload 5, 2) := by decide +kernel
theorem dL_law_1069 : decode cL_law 1069 = .ok (.iconst 1, 1) := by decide +kernel
theorem dL_law_1070 : decode cL_law 1070 = .ok (.iadd, 1) := by decide +kernel
theorem dL_law_1071 : decode cL_law 1071 = .ok (.iaload, 1) := by decide +kernel
theorem dL_law_1072 : decode cL_law 1072 = .ok (.aload_n 0, 1) := by decide +kernel
theorem dL_law_1073 : decode cL_law 1073 = .ok (.iload 5, 2) := by decide +kernel
theorem dL_law_1075 : decode cL_law 1075 = .ok (.iconst 2, 1) := by decide +kernel
theorem dL_law_1076 : decode cL_law 1076 = .ok (.iadd, 1) := by decide +kernel
theorem dL_law_1077 : decode cL_law 1077 = .ok (.iaload, 1) := by decide +kernel
theorem dL_law_1078 : decode cL_law 1078 = .ok (.aload_n 0, 1) := by decide +kernel
theorem dL_law_1079 : decode cL_law 1079 = .ok (.iload 5, 2) := by decide +kernel
theorem dL_law_1081 : decode cL_law 1081 = .ok (.iconst 3, 1) := by decide +kernel
theorem dL_law_1082 : decode cL_law 1082 = .ok (.iadd, 1) := by decide +kernel
theorem dL_law_1083 : decode cL_law 1083 = .ok (.iaload, 1) := by decide +kernel
theorem dL_law_1084 : decode cL_law 1084 = .ok (.invokevirtual 176, 3) := by decide +kernel
theorem dL_law_1087 : decode cL_law 1087 = .ok (.istore 7, 2) := by decide +kernel
theorem dL_law_1089 : decode cL_law 1089 = .ok (.aload_n 2, 1) := by decide +kernel
theorem dL_law_1090 : decode cL_law 1090 = .ok (.invokevirtual 137, 3) := by decide +kernel
theorem dL_law_1093 : decode cL_law 1093 = .ok (.iload 6, 2) := by decide +kernel
theorem dL_law_1095 : decode cL_law 1095 = .ok (.if_icmp .eq 5, 3) := by decide +kernel
theorem dL_law_1098 : decode cL_law 1098 = .ok (.iconst 0, 1) := by decide +kernel
theorem dL_law_1099 : decode cL_law 1099 = .ok (.ireturn, 1) := by decide +kernel
theorem dL_law_1100 : decode cL_law 1100 = .ok (.iload 6, 2) := by decide +kernel
theorem dL_law_1102 : decode cL_law 1102 = .ok (.ifCond .ne 15, 3) := by decide +kernel
theorem dL_law_1105 : decode cL_law 1105 = .ok (.aload_n 3, 1) := by decide +kernel
theorem dL_law_1106 : decode cL_law 1106 = .ok (.iconst 0, 1) := by decide +kernel
theorem dL_law_1107 : decode cL_law 1107 = .ok (.laload, 1) := by decide +kernel
theorem dL_law_1108 : decode cL_law 1108 = .ok (.iload 7, 2) := by decide +kernel
theorem dL_law_1110 : decode cL_law 1110 = .ok (.i2l, 1) := by decide +kernel
theorem dL_law_1111 : decode cL_law 1111 = .ok (.lcmp, 1) := by decide +kernel
theorem dL_law_1112 : decode cL_law 1112 = .ok (.ifCond .eq 5, 3) := by decide +kernel
theorem dL_law_1115 : decode cL_law 1115 = .ok (.iconst 0, 1) := by decide +kernel
theorem dL_law_1116 : decode cL_law 1116 = .ok (.ireturn, 1) := by decide +kernel
theorem dL_law_1117 : decode cL_law 1117 = .ok (.goto 1176, 3) := by decide +kernel
theorem dL_law_1120 : decode cL_law 1120 = .ok (.aload_n 1, 1) := by decide +kernel
theorem dL_law_1121 : decode cL_law 1121 = .ok (.aload_n 0, 1) := by decide +kernel
theorem dL_law_1122 : decode cL_law 1122 = .ok (.iload 5, 2) := by decide +kernel
theorem dL_law_1124 : decode cL_law 1124 = .ok (.iconst 1, 1) := by decide +kernel
theorem dL_law_1125 : decode cL_law 1125 = .ok (.iadd, 1) := by decide +kernel
theorem dL_law_1126 : decode cL_law 1126 = .ok (.iaload, 1) := by decide +kernel
theorem dL_law_1127 : decode cL_law 1127 = .ok (.aload_n 0, 1) := by decide +kernel
theorem dL_law_1128 : decode cL_law 1128 = .ok (.iload 5, 2) := by decide +kernel
theorem dL_law_1130 : decode cL_law 1130 = .ok (.iconst 2, 1) := by decide +kernel
theorem dL_law_1131 : decode cL_law 1131 = .ok (.iadd, 1) := by decide +kernel
theorem dL_law_1132 : decode cL_law 1132 = .ok (.iaload, 1) := by decide +kernel
theorem dL_law_1133 : decode cL_law 1133 = .ok (.aload_n 3, 1) := by decide +kernel
theorem dL_law_1134 : decode cL_law 1134 = .ok (.invokestatic 177, 3) := by decide +kernel
theorem dL_law_1137 : decode cL_law 1137 = .ok (.istore 6, 2) := by decide +kernel
theorem dL_law_1139 : decode cL_law 1139 = .ok (.aload_n 2, 1) := by decide +kernel
theorem dL_law_1140 : decode cL_law 1140 = .ok (.aload_n 0, 1) := by decide +kernel
theorem dL_law_1141 : decode cL_law 1141 = .ok (.iload 5, 2) := by decide +kernel
theorem dL_law_1143 : decode cL_law 1143 = .ok (.iconst 1, 1) := by decide +kernel
theorem dL_law_1144 : decode cL_law 1144 = .ok (.iadd, 1) := by decide +kernel
theorem dL_law_1145 : decode cL_law 1145 = .ok (.iaload, 1) := by decide +kernel
theorem dL_law_1146 : decode cL_law 1146 = .ok (.aload_n 0, 1) := by decide +kernel
theorem dL_law_1147 : decode cL_law 1147 = .ok (.iload 5, 2) := by decide +kernel
theorem dL_law_1149 : decode cL_law 1149 = .ok (.iconst 2, 1) := by decide +kernel
theorem dL_law_1150 : decode cL_law 1150 = .ok (.iadd, 1) := by decide +kernel
theorem dL_law_1151 : decode cL_law 1151 = .ok (.iaload, 1) := by decide +kernel
theorem dL_law_1152 : decode cL_law 1152 = .ok (.invokevirtual 179, 3) := by decide +kernel
theorem dL_law_1155 : decode cL_law 1155 = .ok (.istore 7, 2) := by decide +kernel
theorem dL_law_1157 : decode cL_law 1157 = .ok (.aload_n 2, 1) := by decide +kernel
theorem dL_law_1158 : decode cL_law 1158 = .ok (.invokevirtual 137, 3) := by decide +kernel
theorem dL_law_1161 : decode cL_law 1161 = .ok (.iload 6, 2) := by decide +kernel
theorem dL_law_1163 : decode cL_law 1163 = .ok (.if_icmp .eq 5, 3) := by decide +kernel
theorem dL_law_1166 : decode cL_law 1166 = .ok (.iconst 0, 1) := by decide +kernel
theorem dL_law_1167 : decode cL_law 1167 = .ok (.ireturn, 1) := by decide +kernel
theorem dL_law_1168 : decode cL_law 1168 = .ok (.iload 6, 2) := by decide +kernel
theorem dL_law_1170 : decode cL_law 1170 = .ok (.ifCond .ne 15, 3) := by decide +kernel
theorem dL_law_1173 : decode cL_law 1173 = .ok (.aload_n 3, 1) := by decide +kernel
theorem dL_law_1174 : decode cL_law 1174 = .ok (.iconst 0, 1) := by decide +kernel
theorem dL_law_1175 : decode cL_law 1175 = .ok (.laload, 1) := by decide +kernel
theorem dL_law_1176 : decode cL_law 1176 = .ok (.iload 7, 2) := by decide +kernel
theorem dL_law_1178 : decode cL_law 1178 = .ok (.i2l, 1) := by decide +kernel
theorem dL_law_1179 : decode cL_law 1179 = .ok (.lcmp, 1) := by decide +kernel
theorem dL_law_1180 : decode cL_law 1180 = .ok (.ifCond .eq 5, 3) := by decide +kernel
theorem dL_law_1183 : decode cL_law 1183 = .ok (.iconst 0, 1) := by decide +kernel
theorem dL_law_1184 : decode cL_law 1184 = .ok (.ireturn, 1) := by decide +kernel
theorem dL_law_1185 : decode cL_law 1185 = .ok (.goto 1108, 3) := by decide +kernel
theorem dL_law_1188 : decode cL_law 1188 = .ok (.aload_n 1, 1) := by decide +kernel
theorem dL_law_1189 : decode cL_law 1189 = .ok (.aload_n 0, 1) := by decide +kernel
theorem dL_law_1190 : decode cL_law 1190 = .ok (.iload 5, 2) := by decide +kernel
theorem dL_law_1192 : decode cL_law 1192 = .ok (.iconst 1, 1) := by decide +kernel
theorem dL_law_1193 : decode cL_law 1193 = .ok (.iadd, 1) := by decide +kernel
theorem dL_law_1194 : decode cL_law 1194 = .ok (.iaload, 1) := by decide +kernel
theorem dL_law_1195 : decode cL_law 1195 = .ok (.aload_n 0, 1) := by decide +kernel
theorem dL_law_1196 : decode cL_law 1196 = .ok (.iload 5, 2) := by decide +kernel
theorem dL_law_1198 : decode cL_law 1198 = .ok (.iconst 2, 1) := by decide +kernel
theorem dL_law_1199 : decode cL_law 1199 = .ok (.iadd, 1) := by decide +kernel
theorem dL_law_1200 : decode cL_law 1200 = .ok (.iaload, 1) := by decide +kernel
theorem dL_law_1201 : decode cL_law 1201 = .ok (.aload_n 3, 1) := by decide +kernel
theorem dL_law_1202 : decode cL_law 1202 = .ok (.invokestatic 180, 3) := by decide +kernel
theorem dL_law_1205 : decode cL_law 1205 = .ok (.istore 6, 2) := by decide +kernel
theorem dL_law_1207 : decode cL_law 1207 = .ok (.aload_n 2, 1) := by decide +kernel
theorem dL_law_1208 : decode cL_law 1208 = .ok (.aload_n 0, 1) := by decide +kernel
theorem dL_law_1209 : decode cL_law 1209 = .ok (.iload 5, 2) := by decide +kernel
theorem dL_law_1211 : decode cL_law 1211 = .ok (.iconst 1, 1) := by decide +kernel
theorem dL_law_1212 : decode cL_law 1212 = .ok (.iadd, 1) := by decide +kernel
theorem dL_law_1213 : decode cL_law 1213 = .ok (.iaload, 1) := by decide +kernel
theorem dL_law_1214 : decode cL_law 1214 = .ok (.aload_n 0, 1) := by decide +kernel
theorem dL_law_1215 : decode cL_law 1215 = .ok (.iload 5, 2) := by decide +kernel
theorem dL_law_1217 : decode cL_law 1217 = .ok (.iconst 2, 1) := by decide +kernel
theorem dL_law_1218 : decode cL_law 1218 = .ok (.iadd, 1) := by decide +kernel
theorem dL_law_1219 : decode cL_law 1219 = .ok (.iaload, 1) := by decide +kernel
theorem dL_law_1220 : decode cL_law 1220 = .ok (.invokevirtual 182, 3) := by decide +kernel
theorem dL_law_1223 : decode cL_law 1223 = .ok (.istore 7, 2) := by decide +kernel
theorem dL_law_1225 : decode cL_law 1225 = .ok (.aload_n 2, 1) := by decide +kernel
theorem dL_law_1226 : decode cL_law 1226 = .ok (.invokevirtual 137, 3) := by decide +kernel
theorem dL_law_1229 : decode cL_law 1229 = .ok (.iload 6, 2) := by decide +kernel
theorem dL_law_1231 : decode cL_law 1231 = .ok (.if_icmp .eq 5, 3) := by decide +kernel
theorem dL_law_1234 : decode cL_law 1234 = .ok (.iconst 0, 1) := by decide +kernel
theorem dL_law_1235 : decode cL_law 1235 = .ok (.ireturn, 1) := by decide +kernel
theorem dL_law_1236 : decode cL_law 1236 = .ok (.iload 6, 2) := by decide +kernel
theorem dL_law_1238 : decode cL_law 1238 = .ok (.ifCond .ne 15, 3) := by decide +kernel
theorem dL_law_1241 : decode cL_law 1241 = .ok (.aload_n 3, 1) := by decide +kernel
theorem dL_law_1242 : decode cL_law 1242 = .ok (.iconst 0, 1) := by decide +kernel
theorem dL_law_1243 : decode cL_law 1243 = .ok (.laload, 1) := by decide +kernel
theorem dL_law_1244 : decode cL_law 1244 = .ok (.iload 7, 2) := by decide +kernel
theorem dL_law_1246 : decode cL_law 1246 = .ok (.i2l, 1) := by decide +kernel
theorem dL_law_1247 : decode cL_law 1247 = .ok (.lcmp, 1) := by decide +kernel
theorem dL_law_1248 : decode cL_law 1248 = .ok (.ifCond .eq 5, 3) := by decide +kernel
theorem dL_law_1251 : decode cL_law 1251 = .ok (.iconst 0, 1) := by decide +kernel
theorem dL_law_1252 : decode cL_law 1252 = .ok (.ireturn, 1) := by decide +kernel
theorem dL_law_1253 : decode cL_law 1253 = .ok (.goto 1040, 3) := by decide +kernel
theorem dL_law_1256 : decode cL_law 1256 = .ok (.aload_n 1, 1) := by decide +kernel
theorem dL_law_1257 : decode cL_law 1257 = .ok (.aload_n 0, 1) := by decide +kernel
theorem dL_law_1258 : decode cL_law 1258 = .ok (.iload 5, 2) := by decide +kernel
theorem dL_law_1260 : decode cL_law 1260 = .ok (.iconst 1, 1) := by decide +kernel
theorem dL_law_1261 : decode cL_law 1261 = .ok (.iadd, 1) := by decide +kernel
theorem dL_law_1262 : decode cL_law 1262 = .ok (.iaload, 1) := by decide +kernel
theorem dL_law_1263 : decode cL_law 1263 = .ok (.aload_n 0, 1) := by decide +kernel
theorem dL_law_1264 : decode cL_law 1264 = .ok (.iload 5, 2) := by decide +kernel
theorem dL_law_1266 : decode cL_law 1266 = .ok (.iconst 2, 1) := by decide +kernel
theorem dL_law_1267 : decode cL_law 1267 = .ok (.iadd, 1) := by decide +kernel
theorem dL_law_1268 : decode cL_law 1268 = .ok (.iaload, 1) := by decide +kernel
theorem dL_law_1269 : decode cL_law 1269 = .ok (.aload_n 3, 1) := by decide +kernel
theorem dL_law_1270 : decode cL_law 1270 = .ok (.invokestatic 183, 3) := by decide +kernel
theorem dL_law_1273 : decode cL_law 1273 = .ok (.istore 6, 2) := by decide +kernel
theorem dL_law_1275 : decode cL_law 1275 = .ok (.aload_n 2, 1) := by decide +kernel
theorem dL_law_1276 : decode cL_law 1276 = .ok (.aload_n 0, 1) := by decide +kernel
theorem dL_law_1277 : decode cL_law 1277 = .ok (.iload 5, 2) := by decide +kernel
theorem dL_law_1279 : decode cL_law 1279 = .ok (.iconst 1, 1) := by decide +kernel
theorem dL_law_1280 : decode cL_law 1280 = .ok (.iadd, 1) := by decide +kernel
theorem dL_law_1281 : decode cL_law 1281 = .ok (.iaload, 1) := by decide +kernel
theorem dL_law_1282 : decode cL_law 1282 = .ok (.aload_n 0, 1) := by decide +kernel
theorem dL_law_1283 : decode cL_law 1283 = .ok (.iload 5, 2) := by decide +kernel
theorem dL_law_1285 : decode cL_law 1285 = .ok (.iconst 2, 1) := by decide +kernel
theorem dL_law_1286 : decode cL_law 1286 = .ok (.iadd, 1) := by decide +kernel
theorem dL_law_1287 : decode cL_law 1287 = .ok (.iaload, 1) := by decide +kernel
theorem dL_law_1288 : decode cL_law 1288 = .ok (.invokevirtual 185, 3) := by decide +kernel
theorem dL_law_1291 : decode cL_law 1291 = .ok (.istore 7, 2) := by decide +kernel
theorem dL_law_1293 : decode cL_law 1293 = .ok (.aload_n 2, 1) := by decide +kernel
theorem dL_law_1294 : decode cL_law 1294 = .ok (.invokevirtual 137, 3) := by decide +kernel
theorem dL_law_1297 : decode cL_law 1297 = .ok (.iload 6, 2) := by decide +kernel
theorem dL_law_1299 : decode cL_law 1299 = .ok (.if_icmp .eq 5, 3) := by decide +kernel
theorem dL_law_1302 : decode cL_law 1302 = .ok (.iconst 0, 1) := by decide +kernel
theorem dL_law_1303 : decode cL_law 1303 = .ok (.ireturn, 1) := by decide +kernel
theorem dL_law_1304 : decode cL_law 1304 = .ok (.iload 6, 2) := by decide +kernel
theorem dL_law_1306 : decode cL_law 1306 = .ok (.ifCond .ne 15, 3) := by decide +kernel
theorem dL_law_1309 : decode cL_law 1309 = .ok (.aload_n 3, 1) := by decide +kernel
theorem dL_law_1310 : decode cL_law 1310 = .ok (.iconst 0, 1) := by decide +kernel
theorem dL_law_1311 : decode cL_law 1311 = .ok (.laload, 1) := by decide +kernel
theorem dL_law_1312 : decode cL_law 1312 = .ok (.iload 7, 2) := by decide +kernel
theorem dL_law_1314 : decode cL_law 1314 = .ok (.i2l, 1) := by decide +kernel
theorem dL_law_1315 : decode cL_law 1315 = .ok (.lcmp, 1) := by decide +kernel
theorem dL_law_1316 : decode cL_law 1316 = .ok (.ifCond .eq 5, 3) := by decide +kernel
theorem dL_law_1319 : decode cL_law 1319 = .ok (.iconst 0, 1) := by decide +kernel
theorem dL_law_1320 : decode cL_law 1320 = .ok (.ireturn, 1) := by decide +kernel
theorem dL_law_1321 : decode cL_law 1321 = .ok (.goto 972, 3) := by decide +kernel
theorem dL_law_1324 : decode cL_law 1324 = .ok (.aload_n 1, 1) := by decide +kernel
theorem dL_law_1325 : decode cL_law 1325 = .ok (.aload_n 3, 1) := by decide +kernel
theorem dL_law_1326 : decode cL_law 1326 = .ok (.invokestatic 186, 3) := by decide +kernel
theorem dL_law_1329 : decode cL_law 1329 = .ok (.istore 6, 2) := by decide +kernel
theorem dL_law_1331 : decode cL_law 1331 = .ok (.aload_n 2, 1) := by decide +kernel
theorem dL_law_1332 : decode cL_law 1332 = .ok (.invokevirtual 189, 3) := by decide +kernel
theorem dL_law_1335 : decode cL_law 1335 = .ok (.istore 7, 2) := by decide +kernel
theorem dL_law_1337 : decode cL_law 1337 = .ok (.aload_n 2, 1) := by decide +kernel
theorem dL_law_1338 : decode cL_law 1338 = .ok (.invokevirtual 137, 3) := by decide +kernel
theorem dL_law_1341 : decode cL_law 1341 = .ok (.iload 6, 2) := by decide +kernel
theorem dL_law_1343 : decode cL_law 1343 = .ok (.if_icmp .eq 5, 3) := by decide +kernel
theorem dL_law_1346 : decode cL_law 1346 = .ok (.iconst 0, 1) := by decide +kernel
theorem dL_law_1347 : decode cL_law 1347 = .ok (.ireturn, 1) := by decide +kernel
theorem dL_law_1348 : decode cL_law 1348 = .ok (.iload 6, 2) := by decide +kernel
theorem dL_law_1350 : decode cL_law 1350 = .ok (.ifCond .ne 15, 3) := by decide +kernel
theorem dL_law_1353 : decode cL_law 1353 = .ok (.aload_n 3, 1) := by decide +kernel
theorem dL_law_1354 : decode cL_law 1354 = .ok (.iconst 0, 1) := by decide +kernel
theorem dL_law_1355 : decode cL_law 1355 = .ok (.laload, 1) := by decide +kernel
theorem dL_law_1356 : decode cL_law 1356 = .ok (.iload 7, 2) := by decide +kernel
theorem dL_law_1358 : decode cL_law 1358 = .ok (.i2l, 1) := by decide +kernel
theorem dL_law_1359 : decode cL_law 1359 = .ok (.lcmp, 1) := by decide +kernel
theorem dL_law_1360 : decode cL_law 1360 = .ok (.ifCond .eq 5, 3) := by decide +kernel
theorem dL_law_1363 : decode cL_law 1363 = .ok (.iconst 0, 1) := by decide +kernel
theorem dL_law_1364 : decode cL_law 1364 = .ok (.ireturn, 1) := by decide +kernel
theorem dL_law_1365 : decode cL_law 1365 = .ok (.goto 928, 3) := by decide +kernel
theorem dL_law_1368 : decode cL_law 1368 = .ok (.aload_n 1, 1) := by decide +kernel
theorem dL_law_1369 : decode cL_law 1369 = .ok (.aload_n 0, 1) := by decide +kernel
theorem dL_law_1370 : decode cL_law 1370 = .ok (.iload 5, 2) := by decide +kernel
theorem dL_law_1372 : decode cL_law 1372 = .ok (.iconst 1, 1) := by decide +kernel
theorem dL_law_1373 : decode cL_law 1373 = .ok (.iadd, 1) := by decide +kernel
theorem dL_law_1374 : decode cL_law 1374 = .ok (.iaload, 1) := by decide +kernel
theorem dL_law_1375 : decode cL_law 1375 = .ok (.aload_n 0, 1) := by decide +kernel
theorem dL_law_1376 : decode cL_law 1376 = .ok (.iload 5, 2) := by decide +kernel
theorem dL_law_1378 : decode cL_law 1378 = .ok (.iconst 2, 1) := by decide +kernel
theorem dL_law_1379 : decode cL_law 1379 = .ok (.iadd, 1) := by decide +kernel
theorem dL_law_1380 : decode cL_law 1380 = .ok (.iaload, 1) := by decide +kernel
theorem dL_law_1381 : decode cL_law 1381 = .ok (.aload_n 3, 1) := by decide +kernel
theorem dL_law_1382 : decode cL_law 1382 = .ok (.invokestatic 190, 3) := by decide +kernel
theorem dL_law_1385 : decode cL_law 1385 = .ok (.istore 6, 2) := by decide +kernel
theorem dL_law_1387 : decode cL_law 1387 = .ok (.aload_n 2, 1) := by decide +kernel
theorem dL_law_1388 : decode cL_law 1388 = .ok (.aload_n 0, 1) := by decide +kernel
theorem dL_law_1389 : decode cL_law 1389 = .ok (.iload 5, 2) := by decide +kernel
theorem dL_law_1391 : decode cL_law 1391 = .ok (.iconst 1, 1) := by decide +kernel
theorem dL_law_1392 : decode cL_law 1392 = .ok (.iadd, 1) := by decide +kernel
theorem dL_law_1393 : decode cL_law 1393 = .ok (.iaload, 1) := by decide +kernel
theorem dL_law_1394 : decode cL_law 1394 = .ok (.aload_n 0, 1) := by decide +kernel
theorem dL_law_1395 : decode cL_law 1395 = .ok (.iload 5, 2) := by decide +kernel
theorem dL_law_1397 : decode cL_law 1397 = .ok (.iconst 2, 1) := by decide +kernel
theorem dL_law_1398 : decode cL_law 1398 = .ok (.iadd, 1) := by decide +kernel
theorem dL_law_1399 : decode cL_law 1399 = .ok (.iaload, 1) := by decide +kernel
theorem dL_law_1400 : decode cL_law 1400 = .ok (.invokevirtual 192, 3) := by decide +kernel
theorem dL_law_1403 : decode cL_law 1403 = .ok (.istore 7, 2) := by decide +kernel
theorem dL_law_1405 : decode cL_law 1405 = .ok (.aload_n 2, 1) := by decide +kernel
theorem dL_law_1406 : decode cL_law 1406 = .ok (.invokevirtual 137, 3) := by decide +kernel
theorem dL_law_1409 : decode cL_law 1409 = .ok (.iload 6, 2) := by decide +kernel
theorem dL_law_1411 : decode cL_law 1411 = .ok (.if_icmp .eq 5, 3) := by decide +kernel
theorem dL_law_1414 : decode cL_law 1414 = .ok (.iconst 0, 1) := by decide +kernel
theorem dL_law_1415 : decode cL_law 1415 = .ok (.ireturn, 1) := by decide +kernel
theorem dL_law_1416 : decode cL_law 1416 = .ok (.iload 6, 2) := by decide +kernel
theorem dL_law_1418 : decode cL_law 1418 = .ok (.ifCond .ne 15, 3) := by decide +kernel
theorem dL_law_1421 : decode cL_law 1421 = .ok (.aload_n 3, 1) := by decide +kernel
theorem dL_law_1422 : decode cL_law 1422 = .ok (.iconst 0, 1) := by decide +kernel
theorem dL_law_1423 : decode cL_law 1423 = .ok (.laload, 1) := by decide +kernel
theorem dL_law_1424 : decode cL_law 1424 = .ok (.iload 7, 2) := by decide +kernel
theorem dL_law_1426 : decode cL_law 1426 = .ok (.i2l, 1) := by decide +kernel
theorem dL_law_1427 : decode cL_law 1427 = .ok (.lcmp, 1) := by decide +kernel
theorem dL_law_1428 : decode cL_law 1428 = .ok (.ifCond .eq 5, 3) := by decide +kernel
theorem dL_law_1431 : decode cL_law 1431 = .ok (.iconst 0, 1) := by decide +kernel
theorem dL_law_1432 : decode cL_law 1432 = .ok (.ireturn, 1) := by decide +kernel
theorem dL_law_1433 : decode cL_law 1433 = .ok (.goto 860, 3) := by decide +kernel
theorem dL_law_1436 : decode cL_law 1436 = .ok (.aload_n 1, 1) := by decide +kernel
theorem dL_law_1437 : decode cL_law 1437 = .ok (.aload_n 0, 1) := by decide +kernel
theorem dL_law_1438 : decode cL_law 1438 = .ok (.iload 5, 2) := by decide +kernel
theorem dL_law_1440 : decode cL_law 1440 = .ok (.iconst 1, 1) := by decide +kernel
theorem dL_law_1441 : decode cL_law 1441 = .ok (.iadd, 1) := by decide +kernel
theorem dL_law_1442 : decode cL_law 1442 = .ok (.iaload, 1) := by decide +kernel
theorem dL_law_1443 : decode cL_law 1443 = .ok (.aload_n 3, 1) := by decide +kernel
theorem dL_law_1444 : decode cL_law 1444 = .ok (.invokestatic 193, 3) := by decide +kernel
theorem dL_law_1447 : decode cL_law 1447 = .ok (.istore 6, 2) := by decide +kernel
theorem dL_law_1449 : decode cL_law 1449 = .ok (.aload_n 2, 1) := by decide +kernel
theorem dL_law_1450 : decode cL_law 1450 = .ok (.aload_n 0, 1) := by decide +kernel
theorem dL_law_1451 : decode cL_law 1451 = .ok (.iload 5, 2) := by decide +kernel
theorem dL_law_1453 : decode cL_law 1453 = .ok (.iconst 1, 1) := by decide +kernel
theorem dL_law_1454 : decode cL_law 1454 = .ok (.iadd, 1) := by decide +kernel
theorem dL_law_1455 : decode cL_law 1455 = .ok (.iaload, 1) := by decide +kernel
theorem dL_law_1456 : decode cL_law 1456 = .ok (.invokevirtual 195, 3) := by decide +kernel
theorem dL_law_1459 : decode cL_law 1459 = .ok (.istore 7, 2) := by decide +kernel
theorem dL_law_1461 : decode cL_law 1461 = .ok (.aload_n 2, 1) := by decide +kernel
theorem dL_law_1462 : decode cL_law 1462 = .ok (.invokevirtual 137, 3) := by decide +kernel
theorem dL_law_1465 : decode cL_law 1465 = .ok (.iload 6, 2) := by decide +kernel
theorem dL_law_1467 : decode cL_law 1467 = .ok (.if_icmp .eq 5, 3) := by decide +kernel
theorem dL_law_1470 : decode cL_law 1470 = .ok (.iconst 0, 1) := by decide +kernel
theorem dL_law_1471 : decode cL_law 1471 = .ok (.ireturn, 1) := by decide +kernel
theorem dL_law_1472 : decode cL_law 1472 = .ok (.iload 6, 2) := by decide +kernel
theorem dL_law_1474 : decode cL_law 1474 = .ok (.ifCond .ne 15, 3) := by decide +kernel
theorem dL_law_1477 : decode cL_law 1477 = .ok (.aload_n 3, 1) := by decide +kernel
theorem dL_law_1478 : decode cL_law 1478 = .ok (.iconst 0, 1) := by decide +kernel
theorem dL_law_1479 : decode cL_law 1479 = .ok (.laload, 1) := by decide +kernel
theorem dL_law_1480 : decode cL_law 1480 = .ok (.iload 7, 2) := by decide +kernel
theorem dL_law_1482 : decode cL_law 1482 = .ok (.i2l, 1) := by decide +kernel
theorem dL_law_1483 : decode cL_law 1483 = .ok (.lcmp, 1) := by decide +kernel
theorem dL_law_1484 : decode cL_law 1484 = .ok (.ifCond .eq 5, 3) := by decide +kernel
theorem dL_law_1487 : decode cL_law 1487 = .ok (.iconst 0, 1) := by decide +kernel
theorem dL_law_1488 : decode cL_law 1488 = .ok (.ireturn, 1) := by decide +kernel
theorem dL_law_1489 : decode cL_law 1489 = .ok (.goto 804, 3) := by decide +kernel
theorem dL_law_1492 : decode cL_law 1492 = .ok (.aload_n 1, 1) := by decide +kernel
theorem dL_law_1493 : decode cL_law 1493 = .ok (.aload_n 0, 1) := by decide +kernel
theorem dL_law_1494 : decode cL_law 1494 = .ok (.iload 5, 2) := by decide +kernel
theorem dL_law_1496 : decode cL_law 1496 = .ok (.iconst 1, 1) := by decide +kernel
theorem dL_law_1497 : decode cL_law 1497 = .ok (.iadd, 1) := by decide +kernel
theorem dL_law_1498 : decode cL_law 1498 = .ok (.iaload, 1) := by decide +kernel
theorem dL_law_1499 : decode cL_law 1499 = .ok (.aload_n 0, 1) := by decide +kernel
theorem dL_law_1500 : decode cL_law 1500 = .ok (.iload 5, 2) := by decide +kernel
theorem dL_law_1502 : decode cL_law 1502 = .ok (.iconst 2, 1) := by decide +kernel
theorem dL_law_1503 : decode cL_law 1503 = .ok (.iadd, 1) := by decide +kernel
theorem dL_law_1504 : decode cL_law 1504 = .ok (.iaload, 1) := by decide +kernel
theorem dL_law_1505 : decode cL_law 1505 = .ok (.aload_n 3, 1) := by decide +kernel
theorem dL_law_1506 : decode cL_law 1506 = .ok (.invokestatic 196, 3) := by decide +kernel
theorem dL_law_1509 : decode cL_law 1509 = .ok (.istore 6, 2) := by decide +kernel
theorem dL_law_1511 : decode cL_law 1511 = .ok (.aload_n 2, 1) := by decide +kernel
theorem dL_law_1512 : decode cL_law 1512 = .ok (.aload_n 0, 1) := by decide +kernel
theorem dL_law_1513 : decode cL_law 1513 = .ok (.iload 5, 2) := by decide +kernel
theorem dL_law_1515 : decode cL_law 1515 = .ok (.iconst 1, 1) := by decide +kernel
theorem dL_law_1516 : decode cL_law 1516 = .ok (.iadd, 1) := by decide +kernel
theorem dL_law_1517 : decode cL_law 1517 = .ok (.iaload, 1) := by decide +kernel
theorem dL_law_1518 : decode cL_law 1518 = .ok (.aload_n 0, 1) := by decide +kernel
theorem dL_law_1519 : decode cL_law 1519 = .ok (.iload 5, 2) := by decide +kernel
theorem dL_law_1521 : decode cL_law 1521 = .ok (.iconst 2, 1) := by decide +kernel
theorem dL_law_1522 : decode cL_law 1522 = .ok (.iadd, 1) := by decide +kernel
theorem dL_law_1523 : decode cL_law 1523 = .ok (.iaload, 1) := by decide +kernel
theorem dL_law_1524 : decode cL_law 1524 = .ok (.invokevirtual 198, 3) := by decide +kernel
theorem dL_law_1527 : decode cL_law 1527 = .ok (.istore 7, 2) := by decide +kernel
theorem dL_law_1529 : decode cL_law 1529 = .ok (.aload_n 2, 1) := by decide +kernel
theorem dL_law_1530 : decode cL_law 1530 = .ok (.invokevirtual 137, 3) := by decide +kernel
theorem dL_law_1533 : decode cL_law 1533 = .ok (.iload 6, 2) := by decide +kernel
theorem dL_law_1535 : decode cL_law 1535 = .ok (.if_icmp .eq 5, 3) := by decide +kernel
theorem dL_law_1538 : decode cL_law 1538 = .ok (.iconst 0, 1) := by decide +kernel
theorem dL_law_1539 : decode cL_law 1539 = .ok (.ireturn, 1) := by decide +kernel
theorem dL_law_1540 : decode cL_law 1540 = .ok (.iload 6, 2) := by decide +kernel
theorem dL_law_1542 : decode cL_law 1542 = .ok (.ifCond .ne 15, 3) := by decide +kernel
theorem dL_law_1545 : decode cL_law 1545 = .ok (.aload_n 3, 1) := by decide +kernel
theorem dL_law_1546 : decode cL_law 1546 = .ok (.iconst 0, 1) := by decide +kernel
theorem dL_law_1547 : decode cL_law 1547 = .ok (.laload, 1) := by decide +kernel
theorem dL_law_1548 : decode cL_law 1548 = .ok (.iload 7, 2) := by decide +kernel
theorem dL_law_1550 : decode cL_law 1550 = .ok (.i2l, 1) := by decide +kernel
theorem dL_law_1551 : decode cL_law 1551 = .ok (.lcmp, 1) := by decide +kernel
theorem dL_law_1552 : decode cL_law 1552 = .ok (.ifCond .eq 5, 3) := by decide +kernel
theorem dL_law_1555 : decode cL_law 1555 = .ok (.iconst 0, 1) := by decide +kernel
theorem dL_law_1556 : decode cL_law 1556 = .ok (.ireturn, 1) := by decide +kernel
theorem dL_law_1557 : decode cL_law 1557 = .ok (.goto 736, 3) := by decide +kernel
theorem dL_law_1560 : decode cL_law 1560 = .ok (.aload_n 1, 1) := by decide +kernel
theorem dL_law_1561 : decode cL_law 1561 = .ok (.invokevirtual 199, 3) := by decide +kernel
theorem dL_law_1564 : decode cL_law 1564 = .ok (.aload_n 2, 1) := by decide +kernel
theorem dL_law_1565 : decode cL_law 1565 = .ok (.invokevirtual 202, 3) := by decide +kernel
theorem dL_law_1568 : decode cL_law 1568 = .ok (.if_icmp .eq 725, 3) := by decide +kernel
theorem dL_law_1571 : decode cL_law 1571 = .ok (.iconst 0, 1) := by decide +kernel
theorem dL_law_1572 : decode cL_law 1572 = .ok (.ireturn, 1) := by decide +kernel
theorem dL_law_1573 : decode cL_law 1573 = .ok (.aload_n 1, 1) := by decide +kernel
theorem dL_law_1574 : decode cL_law 1574 = .ok (.aload_n 0, 1) := by decide +kernel
theorem dL_law_1575 : decode cL_law 1575 = .ok (.iload 5, 2) := by decide +kernel
theorem dL_law_1577 : decode cL_law 1577 = .ok (.iconst 1, 1) := by decide +kernel
theorem dL_law_1578 : decode cL_law 1578 = .ok (.iadd, 1) := by decide +kernel
theorem dL_law_1579 : decode cL_law 1579 = .ok (.iaload, 1) := by decide +kernel
theorem dL_law_1580 : decode cL_law 1580 = .ok (.aload_n 0, 1) := by decide +kernel
theorem dL_law_1581 : decode cL_law 1581 = .ok (.iload 5, 2) := by decide +kernel
theorem dL_law_1583 : decode cL_law 1583 = .ok (.iconst 2, 1) := by decide +kernel
theorem dL_law_1584 : decode cL_law 1584 = .ok (.iadd, 1) := by decide +kernel
theorem dL_law_1585 : decode cL_law 1585 = .ok (.iaload, 1) := by decide +kernel
theorem dL_law_1586 : decode cL_law 1586 = .ok (.aload_n 3, 1) := by decide +kernel
theorem dL_law_1587 : decode cL_law 1587 = .ok (.invokestatic 203, 3) := by decide +kernel
theorem dL_law_1590 : decode cL_law 1590 = .ok (.istore 6, 2) := by decide +kernel
theorem dL_law_1592 : decode cL_law 1592 = .ok (.aload_n 2, 1) := by decide +kernel
theorem dL_law_1593 : decode cL_law 1593 = .ok (.aload_n 0, 1) := by decide +kernel
theorem dL_law_1594 : decode cL_law 1594 = .ok (.iload 5, 2) := by decide +kernel
theorem dL_law_1596 : decode cL_law 1596 = .ok (.iconst 1, 1) := by decide +kernel
theorem dL_law_1597 : decode cL_law 1597 = .ok (.iadd, 1) := by decide +kernel
theorem dL_law_1598 : decode cL_law 1598 = .ok (.iaload, 1) := by decide +kernel
theorem dL_law_1599 : decode cL_law 1599 = .ok (.aload_n 0, 1) := by decide +kernel
theorem dL_law_1600 : decode cL_law 1600 = .ok (.iload 5, 2) := by decide +kernel
theorem dL_law_1602 : decode cL_law 1602 = .ok (.iconst 2, 1) := by decide +kernel
theorem dL_law_1603 : decode cL_law 1603 = .ok (.iadd, 1) := by decide +kernel
theorem dL_law_1604 : decode cL_law 1604 = .ok (.iaload, 1) := by decide +kernel
theorem dL_law_1605 : decode cL_law 1605 = .ok (.invokevirtual 205, 3) := by decide +kernel
theorem dL_law_1608 : decode cL_law 1608 = .ok (.istore 7, 2) := by decide +kernel
theorem dL_law_1610 : decode cL_law 1610 = .ok (.aload_n 2, 1) := by decide +kernel
theorem dL_law_1611 : decode cL_law 1611 = .ok (.invokevirtual 137, 3) := by decide +kernel
theorem dL_law_1614 : decode cL_law 1614 = .ok (.iload 6, 2) := by decide +kernel
theorem dL_law_1616 : decode cL_law 1616 = .ok (.if_icmp .eq 5, 3) := by decide +kernel
theorem dL_law_1619 : decode cL_law 1619 = .ok (.iconst 0, 1) := by decide +kernel
theorem dL_law_1620 : decode cL_law 1620 = .ok (.ireturn, 1) := by decide +kernel
theorem dL_law_1621 : decode cL_law 1621 = .ok (.iload 6, 2) := by decide +kernel
theorem dL_law_1623 : decode cL_law 1623 = .ok (.ifCond .ne 15, 3) := by decide +kernel
theorem dL_law_1626 : decode cL_law 1626 = .ok (.aload_n 3, 1) := by decide +kernel
theorem dL_law_1627 : decode cL_law 1627 = .ok (.iconst 0, 1) := by decide +kernel
theorem dL_law_1628 : decode cL_law 1628 = .ok (.laload, 1) := by decide +kernel
theorem dL_law_1629 : decode cL_law 1629 = .ok (.iload 7, 2) := by decide +kernel
theorem dL_law_1631 : decode cL_law 1631 = .ok (.i2l, 1) := by decide +kernel
theorem dL_law_1632 : decode cL_law 1632 = .ok (.lcmp, 1) := by decide +kernel
theorem dL_law_1633 : decode cL_law 1633 = .ok (.ifCond .eq 5, 3) := by decide +kernel
theorem dL_law_1636 : decode cL_law 1636 = .ok (.iconst 0, 1) := by decide +kernel
theorem dL_law_1637 : decode cL_law 1637 = .ok (.ireturn, 1) := by decide +kernel
theorem dL_law_1638 : decode cL_law 1638 = .ok (.goto 655, 3) := by decide +kernel
theorem dL_law_1641 : decode cL_law 1641 = .ok (.aload_n 1, 1) := by decide +kernel
theorem dL_law_1642 : decode cL_law 1642 = .ok (.aload_n 3, 1) := by decide +kernel
theorem dL_law_1643 : decode cL_law 1643 = .ok (.invokestatic 206, 3) := by decide +kernel
theorem dL_law_1646 : decode cL_law 1646 = .ok (.istore 6, 2) := by decide +kernel
theorem dL_law_1648 : decode cL_law 1648 = .ok (.aload_n 2, 1) := by decide +kernel
theorem dL_law_1649 : decode cL_law 1649 = .ok (.invokevirtual 208, 3) := by decide +kernel
theorem dL_law_1652 : decode cL_law 1652 = .ok (.istore 7, 2) := by decide +kernel
theorem dL_law_1654 : decode cL_law 1654 = .ok (.aload_n 2, 1) := by decide +kernel
theorem dL_law_1655 : decode cL_law 1655 = .ok (.invokevirtual 137, 3) := by decide +kernel
theorem dL_law_1658 : decode cL_law 1658 = .ok (.iload 6, 2) := by decide +kernel
theorem dL_law_1660 : decode cL_law 1660 = .ok (.if_icmp .eq 5, 3) := by decide +kernel
theorem dL_law_1663 : decode cL_law 1663 = .ok (.iconst 0, 1) := by decide +kernel
theorem dL_law_1664 : decode cL_law 1664 = .ok (.ireturn, 1) := by decide +kernel
theorem dL_law_1665 : decode cL_law 1665 = .ok (.iload 6, 2) := by decide +kernel
theorem dL_law_1667 : decode cL_law 1667 = .ok (.ifCond .ne 15, 3) := by decide +kernel
theorem dL_law_1670 : decode cL_law 1670 = .ok (.aload_n 3, 1) := by decide +kernel
theorem dL_law_1671 : decode cL_law 1671 = .ok (.iconst 0, 1) := by decide +kernel
theorem dL_law_1672 : decode cL_law 1672 = .ok (.laload, 1) := by decide +kernel
theorem dL_law_1673 : decode cL_law 1673 = .ok (.iload 7, 2) := by decide +kernel
theorem dL_law_1675 : decode cL_law 1675 = .ok (.i2l, 1) := by decide +kernel
theorem dL_law_1676 : decode cL_law 1676 = .ok (.lcmp, 1) := by decide +kernel
theorem dL_law_1677 : decode cL_law 1677 = .ok (.ifCond .eq 5, 3) := by decide +kernel
theorem dL_law_1680 : decode cL_law 1680 = .ok (.iconst 0, 1) := by decide +kernel
theorem dL_law_1681 : decode cL_law 1681 = .ok (.ireturn, 1) := by decide +kernel
theorem dL_law_1682 : decode cL_law 1682 = .ok (.goto 611, 3) := by decide +kernel
theorem dL_law_1685 : decode cL_law 1685 = .ok (.aload_n 1, 1) := by decide +kernel
theorem dL_law_1686 : decode cL_law 1686 = .ok (.aload_n 3, 1) := by decide +kernel
theorem dL_law_1687 : decode cL_law 1687 = .ok (.invokestatic 209, 3) := by decide +kernel
theorem dL_law_1690 : decode cL_law 1690 = .ok (.istore 6, 2) := by decide +kernel
theorem dL_law_1692 : decode cL_law 1692 = .ok (.aload_n 2, 1) := by decide +kernel
theorem dL_law_1693 : decode cL_law 1693 = .ok (.invokevirtual 211, 3) := by decide +kernel
theorem dL_law_1696 : decode cL_law 1696 = .ok (.istore 7, 2) := by decide +kernel
theorem dL_law_1698 : decode cL_law 1698 = .ok (.aload_n 2, 1) := by decide +kernel
theorem dL_law_1699 : decode cL_law 1699 = .ok (.invokevirtual 137, 3) := by decide +kernel
theorem dL_law_1702 : decode cL_law 1702 = .ok (.iload 6, 2) := by decide +kernel
theorem dL_law_1704 : decode cL_law 1704 = .ok (.if_icmp .eq 5, 3) := by decide +kernel
theorem dL_law_1707 : decode cL_law 1707 = .ok (.iconst 0, 1) := by decide +kernel
theorem dL_law_1708 : decode cL_law 1708 = .ok (.ireturn, 1) := by decide +kernel
theorem dL_law_1709 : decode cL_law 1709 = .ok (.iload 6, 2) := by decide +kernel
theorem dL_law_1711 : decode cL_law 1711 = .ok (.ifCond .ne 15, 3) := by decide +kernel
theorem dL_law_1714 : decode cL_law 1714 = .ok (.aload_n 3, 1) := by decide +kernel
theorem dL_law_1715 : decode cL_law 1715 = .ok (.iconst 0, 1) := by decide +kernel
theorem dL_law_1716 : decode cL_law 1716 = .ok (.laload, 1) := by decide +kernel
theorem dL_law_1717 : decode cL_law 1717 = .ok (.iload 7, 2) := by decide +kernel
theorem dL_law_1719 : decode cL_law 1719 = .ok (.i2l, 1) := by decide +kernel
theorem dL_law_1720 : decode cL_law 1720 = .ok (.lcmp, 1) := by decide +kernel
theorem dL_law_1721 : decode cL_law 1721 = .ok (.ifCond .eq 5, 3) := by decide +kernel
theorem dL_law_1724 : decode cL_law 1724 = .ok (.iconst 0, 1) := by decide +kernel
theorem dL_law_1725 : decode cL_law 1725 = .ok (.ireturn, 1) := by decide +kernel
theorem dL_law_1726 : decode cL_law 1726 = .ok (.goto 567, 3) := by decide +kernel
theorem dL_law_1729 : decode cL_law 1729 = .ok (.aload_n 1, 1) := by decide +kernel
theorem dL_law_1730 : decode cL_law 1730 = .ok (.aload_n 0, 1) := by decide +kernel
theorem dL_law_1731 : decode cL_law 1731 = .ok (.iload 5, 2) := by decide +kernel
theorem dL_law_1733 : decode cL_law 1733 = .ok (.iconst 1, 1) := by decide +kernel
theorem dL_law_1734 : decode cL_law 1734 = .ok (.iadd, 1) := by decide +kernel
theorem dL_law_1735 : decode cL_law 1735 = .ok (.iaload, 1) := by decide +kernel
theorem dL_law_1736 : decode cL_law 1736 = .ok (.aload_n 0, 1) := by decide +kernel
theorem dL_law_1737 : decode cL_law 1737 = .ok (.iload 5, 2) := by decide +kernel
theorem dL_law_1739 : decode cL_law 1739 = .ok (.iconst 2, 1) := by decide +kernel
theorem dL_law_1740 : decode cL_law 1740 = .ok (.iadd, 1) := by decide +kernel
theorem dL_law_1741 : decode cL_law 1741 = .ok (.iaload, 1) := by decide +kernel
theorem dL_law_1742 : decode cL_law 1742 = .ok (.ifCond .eq 7, 3) := by decide +kernel
theorem dL_law_1745 : decode cL_law 1745 = .ok (.iconst 1, 1) := by decide +kernel
theorem dL_law_1746 : decode cL_law 1746 = .ok (.goto 4, 3) := by decide +kernel
theorem dL_law_1749 : decode cL_law 1749 = .ok (.iconst 0, 1) := by decide +kernel
theorem dL_law_1750 : decode cL_law 1750 = .ok (.aload_n 3, 1) := by decide +kernel
theorem dL_law_1751 : decode cL_law 1751 = .ok (.invokestatic 212, 3) := by decide +kernel
theorem dL_law_1754 : decode cL_law 1754 = .ok (.istore 6, 2) := by decide +kernel
theorem dL_law_1756 : decode cL_law 1756 = .ok (.aload_n 2, 1) := by decide +kernel
theorem dL_law_1757 : decode cL_law 1757 = .ok (.aload_n 0, 1) := by decide +kernel
theorem dL_law_1758 : decode cL_law 1758 = .ok (.iload 5, 2) := by decide +kernel
theorem dL_law_1760 : decode cL_law 1760 = .ok (.iconst 1, 1) := by decide +kernel
theorem dL_law_1761 : decode cL_law 1761 = .ok (.iadd, 1) := by decide +kernel
theorem dL_law_1762 : decode cL_law 1762 = .ok (.iaload, 1) := by decide +kernel
theorem dL_law_1763 : decode cL_law 1763 = .ok (.aload_n 0, 1) := by decide +kernel
theorem dL_law_1764 : decode cL_law 1764 = .ok (.iload 5, 2) := by decide +kernel
theorem dL_law_1766 : decode cL_law 1766 = .ok (.iconst 2, 1) := by decide +kernel
theorem dL_law_1767 : decode cL_law 1767 = .ok (.iadd, 1) := by decide +kernel
theorem dL_law_1768 : decode cL_law 1768 = .ok (.iaload, 1) := by decide +kernel
theorem dL_law_1769 : decode cL_law 1769 = .ok (.ifCond .eq 7, 3) := by decide +kernel
theorem dL_law_1772 : decode cL_law 1772 = .ok (.iconst 1, 1) := by decide +kernel
theorem dL_law_1773 : decode cL_law 1773 = .ok (.goto 4, 3) := by decide +kernel
theorem dL_law_1776 : decode cL_law 1776 = .ok (.iconst 0, 1) := by decide +kernel
theorem dL_law_1777 : decode cL_law 1777 = .ok (.invokevirtual 214, 3) := by decide +kernel
theorem dL_law_1780 : decode cL_law 1780 = .ok (.istore 7, 2) := by decide +kernel
theorem dL_law_1782 : decode cL_law 1782 = .ok (.aload_n 2, 1) := by decide +kernel
theorem dL_law_1783 : decode cL_law 1783 = .ok (.invokevirtual 137, 3) := by decide +kernel
theorem dL_law_1786 : decode cL_law 1786 = .ok (.iload 6, 2) := by decide +kernel
theorem dL_law_1788 : decode cL_law 1788 = .ok (.if_icmp .eq 5, 3) := by decide +kernel
theorem dL_law_1791 : decode cL_law 1791 = .ok (.iconst 0, 1) := by decide +kernel
theorem dL_law_1792 : decode cL_law 1792 = .ok (.ireturn, 1) := by decide +kernel
theorem dL_law_1793 : decode cL_law 1793 = .ok (.iload 6, 2) := by decide +kernel
theorem dL_law_1795 : decode cL_law 1795 = .ok (.ifCond .ne 15, 3) := by decide +kernel
theorem dL_law_1798 : decode cL_law 1798 = .ok (.aload_n 3, 1) := by decide +kernel
theorem dL_law_1799 : decode cL_law 1799 = .ok (.iconst 0, 1) := by decide +kernel
theorem dL_law_1800 : decode cL_law 1800 = .ok (.laload, 1) := by decide +kernel
theorem dL_law_1801 : decode cL_law 1801 = .ok (.iload 7, 2) := by decide +kernel
theorem dL_law_1803 : decode cL_law 1803 = .ok (.i2l, 1) := by decide +kernel
theorem dL_law_1804 : decode cL_law 1804 = .ok (.lcmp, 1) := by decide +kernel
theorem dL_law_1805 : decode cL_law 1805 = .ok (.ifCond .eq 5, 3) := by decide +kernel
theorem dL_law_1808 : decode cL_law 1808 = .ok (.iconst 0, 1) := by decide +kernel
theorem dL_law_1809 : decode cL_law 1809 = .ok (.ireturn, 1) := by decide +kernel
theorem dL_law_1810 : decode cL_law 1810 = .ok (.goto 483, 3) := by decide +kernel
theorem dL_law_1813 : decode cL_law 1813 = .ok (.aload_n 1, 1) := by decide +kernel
theorem dL_law_1814 : decode cL_law 1814 = .ok (.aload_n 3, 1) := by decide +kernel
theorem dL_law_1815 : decode cL_law 1815 = .ok (.invokestatic 215, 3) := by decide +kernel
theorem dL_law_1818 : decode cL_law 1818 = .ok (.istore 6, 2) := by decide +kernel
theorem dL_law_1820 : decode cL_law 1820 = .ok (.aload_n 2, 1) := by decide +kernel
theorem dL_law_1821 : decode cL_law 1821 = .ok (.invokevirtual 217, 3) := by decide +kernel
theorem dL_law_1824 : decode cL_law 1824 = .ok (.istore 7, 2) := by decide +kernel
theorem dL_law_1826 : decode cL_law 1826 = .ok (.aload_n 2, 1) := by decide +kernel
theorem dL_law_1827 : decode cL_law 1827 = .ok (.invokevirtual 137, 3) := by decide +kernel
theorem dL_law_1830 : decode cL_law 1830 = .ok (.iload 6, 2) := by decide +kernel
theorem dL_law_1832 : decode cL_law 1832 = .ok (.if_icmp .eq 5, 3) := by decide +kernel
theorem dL_law_1835 : decode cL_law 1835 = .ok (.iconst 0, 1) := by decide +kernel
theorem dL_law_1836 : decode cL_law 1836 = .ok (.ireturn, 1) := by decide +kernel
theorem dL_law_1837 : decode cL_law 1837 = .ok (.iload 6, 2) := by decide +kernel
theorem dL_law_1839 : decode cL_law 1839 = .ok (.ifCond .ne 15, 3) := by decide +kernel
theorem dL_law_1842 : decode cL_law 1842 = .ok (.aload_n 3, 1) := by decide +kernel
theorem dL_law_1843 : decode cL_law 1843 = .ok (.iconst 0, 1) := by decide +kernel
theorem dL_law_1844 : decode cL_law 1844 = .ok (.laload, 1) := by decide +kernel
theorem dL_law_1845 : decode cL_law 1845 = .ok (.iload 7, 2) := by decide +kernel
theorem dL_law_1847 : decode cL_law 1847 = .ok (.i2l, 1) := by decide +kernel
theorem dL_law_1848 : decode cL_law 1848 = .ok (.lcmp, 1) := by decide +kernel
theorem dL_law_1849 : decode cL_law 1849 = .ok (.ifCond .eq 5, 3) := by decide +kernel
theorem dL_law_1852 : decode cL_law 1852 = .ok (.iconst 0, 1) := by decide +kernel
theorem dL_law_1853 : decode cL_law 1853 = .ok (.ireturn, 1) := by decide +kernel
theorem dL_law_1854 : decode cL_law 1854 = .ok (.goto 439, 3) := by decide +kernel
theorem dL_law_1857 : decode cL_law 1857 = .ok (.aload_n 1, 1) := by decide +kernel
theorem dL_law_1858 : decode cL_law 1858 = .ok (.invokevirtual 218, 3) := by decide +kernel
theorem dL_law_1861 : decode cL_law 1861 = .ok (.aload_n 2, 1) := by decide +kernel
theorem dL_law_1862 : decode cL_law 1862 = .ok (.invokevirtual 221, 3) := by decide +kernel
theorem dL_law_1865 : decode cL_law 1865 = .ok (.if_icmp .eq 428, 3) := by decide +kernel
theorem dL_law_1868 : decode cL_law 1868 = .ok (.iconst 0, 1) := by decide +kernel
theorem dL_law_1869 : decode cL_law 1869 = .ok (.ireturn, 1) := by decide +kernel
theorem dL_law_1870 : decode cL_law 1870 = .ok (.aload_n 1, 1) := by decide +kernel
theorem dL_law_1871 : decode cL_law 1871 = .ok (.aload_n 0, 1) := by decide +kernel
theorem dL_law_1872 : decode cL_law 1872 = .ok (.iload 5, 2) := by decide +kernel
theorem dL_law_1874 : decode cL_law 1874 = .ok (.iconst 1, 1) := by decide +kernel
theorem dL_law_1875 : decode cL_law 1875 = .ok (.iadd, 1) := by decide +kernel
theorem dL_law_1876 : decode cL_law 1876 = .ok (.iaload, 1) := by decide +kernel
theorem dL_law_1877 : decode cL_law 1877 = .ok (.aload_n 3, 1) := by decide +kernel
theorem dL_law_1878 : decode cL_law 1878 = .ok (.invokestatic 222, 3) := by decide +kernel
theorem dL_law_1881 : decode cL_law 1881 = .ok (.istore 6, 2) := by decide +kernel
theorem dL_law_1883 : decode cL_law 1883 = .ok (.aload_n 2, 1) := by decide +kernel
theorem dL_law_1884 : decode cL_law 1884 = .ok (.aload_n 0, 1) := by decide +kernel
theorem dL_law_1885 : decode cL_law 1885 = .ok (.iload 5, 2) := by decide +kernel
theorem dL_law_1887 : decode cL_law 1887 = .ok (.iconst 1, 1) := by decide +kernel
theorem dL_law_1888 : decode cL_law 1888 = .ok (.iadd, 1) := by decide +kernel
theorem dL_law_1889 : decode cL_law 1889 = .ok (.iaload, 1) := by decide +kernel
theorem dL_law_1890 : decode cL_law 1890 = .ok (.invokevirtual 224, 3) := by decide +kernel
theorem dL_law_1893 : decode cL_law 1893 = .ok (.istore 7, 2) := by decide +kernel
theorem dL_law_1895 : decode cL_law 1895 = .ok (.aload_n 2, 1) := by decide +kernel
theorem dL_law_1896 : decode cL_law 1896 = .ok (.invokevirtual 137, 3) := by decide +kernel
theorem dL_law_1899 : decode cL_law 1899 = .ok (.iload 6, 2) := by decide +kernel
theorem dL_law_1901 : decode cL_law 1901 = .ok (.if_icmp .eq 5, 3) := by decide +kernel
theorem dL_law_1904 : decode cL_law 1904 = .ok (.iconst 0, 1) := by decide +kernel
theorem dL_law_1905 : decode cL_law 1905 = .ok (.ireturn, 1) := by decide +kernel
theorem dL_law_1906 : decode cL_law 1906 = .ok (.iload 6, 2) := by decide +kernel
theorem dL_law_1908 : decode cL_law 1908 = .ok (.ifCond .ne 15, 3) := by decide +kernel
theorem dL_law_1911 : decode cL_law 1911 = .ok (.aload_n 3, 1) := by decide +kernel
theorem dL_law_1912 : decode cL_law 1912 = .ok (.iconst 0, 1) := by decide +kernel
theorem dL_law_1913 : decode cL_law 1913 = .ok (.laload, 1) := by decide +kernel
theorem dL_law_1914 : decode cL_law 1914 = .ok (.iload 7, 2) := by decide +kernel
theorem dL_law_1916 : decode cL_law 1916 = .ok (.i2l, 1) := by decide +kernel
theorem dL_law_1917 : decode cL_law 1917 = .ok (.lcmp, 1) := by decide +kernel
theorem dL_law_1918 : decode cL_law 1918 = .ok (.ifCond .eq 5, 3) := by decide +kernel
theorem dL_law_1921 : decode cL_law 1921 = .ok (.iconst 0, 1) := by decide +kernel
theorem dL_law_1922 : decode cL_law 1922 = .ok (.ireturn, 1) := by decide +kernel
theorem dL_law_1923 : decode cL_law 1923 = .ok (.goto 370, 3) := by decide +kernel
theorem dL_law_1926 : decode cL_law 1926 = .ok (.aload_n 1, 1) := by decide +kernel
theorem dL_law_1927 : decode cL_law 1927 = .ok (.invokevirtual 225, 3) := by decide +kernel
theorem dL_law_1930 : decode cL_law 1930 = .ok (.aload_n 2, 1) := by decide +kernel
theorem dL_law_1931 : decode cL_law 1931 = .ok (.invokevirtual 228, 3) := by decide +kernel
theorem dL_law_1934 : decode cL_law 1934 = .ok (.if_icmp .eq 359, 3) := by decide +kernel
theorem dL_law_1937 : decode cL_law 1937 = .ok (.iconst 0, 1) := by decide +kernel
theorem dL_law_1938 : decode cL_law 1938 = .ok (.ireturn, 1) := by decide +kernel
theorem dL_law_1939 : decode cL_law 1939 = .ok (.aload_n 1, 1) := by decide +kernel
theorem dL_law_1940 : decode cL_law 1940 = .ok (.aload_n 0, 1) := by decide +kernel
theorem dL_law_1941 : decode cL_law 1941 = .ok (.iload 5, 2) := by decide +kernel
theorem dL_law_1943 : decode cL_law 1943 = .ok (.iconst 1, 1) := by decide +kernel
theorem dL_law_1944 : decode cL_law 1944 = .ok (.iadd, 1) := by decide +kernel
theorem dL_law_1945 : decode cL_law 1945 = .ok (.iaload, 1) := by decide +kernel
theorem dL_law_1946 : decode cL_law 1946 = .ok (.ifCond .eq 7, 3) := by decide +kernel
theorem dL_law_1949 : decode cL_law 1949 = .ok (.iconst 1, 1) := by decide +kernel
theorem dL_law_1950 : decode cL_law 1950 = .ok (.goto 4, 3) := by decide +kernel
theorem dL_law_1953 : decode cL_law 1953 = .ok (.iconst 0, 1) := by decide +kernel
theorem dL_law_1954 : decode cL_law 1954 = .ok (.invokevirtual 229, 3) := by decide +kernel
theorem dL_law_1957 : decode cL_law 1957 = .ok (.aload_n 2, 1) := by decide +kernel
theorem dL_law_1958 : decode cL_law 1958 = .ok (.aload_n 0, 1) := by decide +kernel
theorem dL_law_1959 : decode cL_law 1959 = .ok (.iload 5, 2) := by decide +kernel
theorem dL_law_1961 : decode cL_law 1961 = .ok (.iconst 1, 1) := by decide +kernel
theorem dL_law_1962 : decode cL_law 1962 = .ok (.iadd, 1) := by decide +kernel
theorem dL_law_1963 : decode cL_law 1963 = .ok (.iaload, 1) := by decide +kernel
theorem dL_law_1964 : decode cL_law 1964 = .ok (.ifCond .eq 7, 3) := by decide +kernel
theorem dL_law_1967 : decode cL_law 1967 = .ok (.iconst 1, 1) := by decide +kernel
theorem dL_law_1968 : decode cL_law 1968 = .ok (.goto 4, 3) := by decide +kernel
theorem dL_law_1971 : decode cL_law 1971 = .ok (.iconst 0, 1) := by decide +kernel
theorem dL_law_1972 : decode cL_law 1972 = .ok (.invokevirtual 233, 3) := by decide +kernel
theorem dL_law_1975 : decode cL_law 1975 = .ok (.if_icmp .eq 318, 3) := by decide +kernel
theorem dL_law_1978 : decode cL_law 1978 = .ok (.iconst 0, 1) := by decide +kernel
theorem dL_law_1979 : decode cL_law 1979 = .ok (.ireturn, 1) := by decide +kernel
theorem dL_law_1980 : decode cL_law 1980 = .ok (.aload_n 1, 1) := by decide +kernel
theorem dL_law_1981 : decode cL_law 1981 = .ok (.aload 4, 2) := by decide +kernel
theorem dL_law_1983 : decode cL_law 1983 = .ok (.invokestatic 234, 3) := by decide +kernel
theorem dL_law_1986 : decode cL_law 1986 = .ok (.istore 6, 2) := by decide +kernel
theorem dL_law_1988 : decode cL_law 1988 = .ok (.aload_n 2, 1) := by decide +kernel
theorem dL_law_1989 : decode cL_law 1989 = .ok (.invokevirtual 237, 3) := by decide +kernel
theorem dL_law_1992 : decode cL_law 1992 = .ok (.fstore 7, 2) := by decide +kernel
theorem dL_law_1994 : decode cL_law 1994 = .ok (.aload_n 2, 1) := by decide +kernel
theorem dL_law_1995 : decode cL_law 1995 = .ok (.invokevirtual 137, 3) := by decide +kernel
theorem dL_law_1998 : decode cL_law 1998 = .ok (.iload 6, 2) := by decide +kernel
theorem dL_law_2000 : decode cL_law 2000 = .ok (.if_icmp .eq 5, 3) := by decide +kernel
theorem dL_law_2003 : decode cL_law 2003 = .ok (.iconst 0, 1) := by decide +kernel
theorem dL_law_2004 : decode cL_law 2004 = .ok (.ireturn, 1) := by decide +kernel
theorem dL_law_2005 : decode cL_law 2005 = .ok (.iload 6, 2) := by decide +kernel
theorem dL_law_2007 : decode cL_law 2007 = .ok (.ifCond .ne 36, 3) := by decide +kernel
theorem dL_law_2010 : decode cL_law 2010 = .ok (.aload 4, 2) := by decide +kernel
theorem dL_law_2012 : decode cL_law 2012 = .ok (.iconst 0, 1) := by decide +kernel
theorem dL_law_2013 : decode cL_law 2013 = .ok (.daload, 1) := by decide +kernel
theorem dL_law_2014 : decode cL_law 2014 = .ok (.fload 7, 2) := by decide +kernel
theorem dL_law_2016 : decode cL_law 2016 = .ok (.f2d, 1) := by decide +kernel
theorem dL_law_2017 : decode cL_law 2017 = .ok (.dcmp .l, 1) := by decide +kernel
theorem dL_law_2018 : decode cL_law 2018 = .ok (.ifCond .eq 25, 3) := by decide +kernel
theorem dL_law_2021 : decode cL_law 2021 = .ok (.aload 4, 2) := by decide +kernel
theorem dL_law_2023 : decode cL_law 2023 = .ok (.iconst 0, 1) := by decide +kernel
theorem dL_law_2024 : decode cL_law 2024 = .ok (.daload, 1) := by decide +kernel
theorem dL_law_2025 : decode cL_law 2025 = .ok (.aload 4, 2) := by decide +kernel
theorem dL_law_2027 : decode cL_law 2027 = .ok (.iconst 0, 1) := by decide +kernel
theorem dL_law_2028 : decode cL_law 2028 = .ok (.daload, 1) := by decide +kernel
theorem dL_law_2029 : decode cL_law 2029 = .ok (.dcmp .l, 1) := by decide +kernel
theorem dL_law_2030 : decode cL_law 2030 = .ok (.ifCond .eq 11, 3) := by decide +kernel
theorem dL_law_2033 : decode cL_law 2033 = .ok (.fload 7, 2) := by decide +kernel
theorem dL_law_2035 : decode cL_law 2035 = .ok (.fload 7, 2) := by decide +kernel
theorem dL_law_2037 : decode cL_law 2037 = .ok (.fcmp .l, 1) := by decide +kernel
theorem dL_law_2038 : decode cL_law 2038 = .ok (.ifCond .ne 5, 3) := by decide +kernel
theorem dL_law_2041 : decode cL_law 2041 = .ok (.iconst 0, 1) := by decide +kernel
theorem dL_law_2042 : decode cL_law 2042 = .ok (.ireturn, 1) := by decide +kernel
theorem dL_law_2043 : decode cL_law 2043 = .ok (.goto 250, 3) := by decide +kernel
theorem dL_law_2046 : decode cL_law 2046 = .ok (.aload_n 1, 1) := by decide +kernel
theorem dL_law_2047 : decode cL_law 2047 = .ok (.aload_n 0, 1) := by decide +kernel
theorem dL_law_2048 : decode cL_law 2048 = .ok (.iload 5, 2) := by decide +kernel
theorem dL_law_2050 : decode cL_law 2050 = .ok (.iconst 1, 1) := by decide +kernel
theorem dL_law_2051 : decode cL_law 2051 = .ok (.iadd, 1) := by decide +kernel
theorem dL_law_2052 : decode cL_law 2052 = .ok (.iaload, 1) := by decide +kernel
theorem dL_law_2053 : decode cL_law 2053 = .ok (.i2c, 1) := by decide +kernel
theorem dL_law_2054 : decode cL_law 2054 = .ok (.aload_n 3, 1) := by decide +kernel
theorem dL_law_2055 : decode cL_law 2055 = .ok (.invokestatic 238, 3) := by decide +kernel
theorem dL_law_2058 : decode cL_law 2058 = .ok (.istore 6, 2) := by decide +kernel
theorem dL_law_2060 : decode cL_law 2060 = .ok (.aload_n 2, 1) := by decide +kernel
theorem dL_law_2061 : decode cL_law 2061 = .ok (.aload_n 0, 1) := by decide +kernel
theorem dL_law_2062 : decode cL_law 2062 = .ok (.iload 5, 2) := by decide +kernel
theorem dL_law_2064 : decode cL_law 2064 = .ok (.iconst 1, 1) := by decide +kernel
theorem dL_law_2065 : decode cL_law 2065 = .ok (.iadd, 1) := by decide +kernel
theorem dL_law_2066 : decode cL_law 2066 = .ok (.iaload, 1) := by decide +kernel
theorem dL_law_2067 : decode cL_law 2067 = .ok (.i2c, 1) := by decide +kernel
theorem dL_law_2068 : decode cL_law 2068 = .ok (.invokevirtual 241, 3) := by decide +kernel
theorem dL_law_2071 : decode cL_law 2071 = .ok (.istore 7, 2) := by decide +kernel
theorem dL_law_2073 : decode cL_law 2073 = .ok (.aload_n 2, 1) := by decide +kernel
theorem dL_law_2074 : decode cL_law 2074 = .ok (.invokevirtual 137, 3) := by decide +kernel
theorem dL_law_2077 : decode cL_law 2077 = .ok (.iload 6, 2) := by decide +kernel
theorem dL_law_2079 : decode cL_law 2079 = .ok (.if_icmp .eq 5, 3) := by decide +kernel
theorem dL_law_2082 : decode cL_law 2082 = .ok (.iconst 0, 1) := by decide +kernel
theorem dL_law_2083 : decode cL_law 2083 = .ok (.ireturn, 1) := by decide +kernel
theorem dL_law_2084 : decode cL_law 2084 = .ok (.iload 6, 2) := by decide +kernel
theorem dL_law_2086 : decode cL_law 2086 = .ok (.ifCond .ne 15, 3) := by decide +kernel
theorem dL_law_2089 : decode cL_law 2089 = .ok (.aload_n 3, 1) := by decide +kernel
theorem dL_law_2090 : decode cL_law 2090 = .ok (.iconst 0, 1) := by decide +kernel
theorem dL_law_2091 : decode cL_law 2091 = .ok (.laload, 1) := by decide +kernel
theorem dL_law_2092 : decode cL_law 2092 = .ok (.iload 7, 2) := by decide +kernel
theorem dL_law_2094 : decode cL_law 2094 = .ok (.i2l, 1) := by decide +kernel
theorem dL_law_2095 : decode cL_law 2095 = .ok (.lcmp, 1) := by decide +kernel
theorem dL_law_2096 : decode cL_law 2096 = .ok (.ifCond .eq 5, 3) := by decide +kernel
theorem dL_law_2099 : decode cL_law 2099 = .ok (.iconst 0, 1) := by decide +kernel
theorem dL_law_2100 : decode cL_law 2100 = .ok (.ireturn, 1) := by decide +kernel
theorem dL_law_2101 : decode cL_law 2101 = .ok (.goto 192, 3) := by decide +kernel
theorem dL_law_2104 : decode cL_law 2104 = .ok (.aload_n 1, 1) := by decide +kernel
theorem dL_law_2105 : decode cL_law 2105 = .ok (.aload_n 3, 1) := by decide +kernel
theorem dL_law_2106 : decode cL_law 2106 = .ok (.invokestatic 242, 3) := by decide +kernel
theorem dL_law_2109 : decode cL_law 2109 = .ok (.istore 6, 2) := by decide +kernel
theorem dL_law_2111 : decode cL_law 2111 = .ok (.aload_n 2, 1) := by decide +kernel
theorem dL_law_2112 : decode cL_law 2112 = .ok (.invokevirtual 244, 3) := by decide +kernel
theorem dL_law_2115 : decode cL_law 2115 = .ok (.istore 7, 2) := by decide +kernel
theorem dL_law_2117 : decode cL_law 2117 = .ok (.aload_n 2, 1) := by decide +kernel
theorem dL_law_2118 : decode cL_law 2118 = .ok (.invokevirtual 137, 3) := by decide +kernel
theorem dL_law_2121 : decode cL_law 2121 = .ok (.iload 6, 2) := by decide +kernel
theorem dL_law_2123 : decode cL_law 2123 = .ok (.if_icmp .eq 5, 3) := by decide +kernel
theorem dL_law_2126 : decode cL_law 2126 = .ok (.iconst 0, 1) := by decide +kernel
theorem dL_law_2127 : decode cL_law 2127 = .ok (.ireturn, 1) := by decide +kernel
theorem dL_law_2128 : decode cL_law 2128 = .ok (.iload 6, 2) := by decide +kernel
theorem dL_law_2130 : decode cL_law 2130 = .ok (.ifCond .ne 15, 3) := by decide +kernel
theorem dL_law_2133 : decode cL_law 2133 = .ok (.aload_n 3, 1) := by decide +kernel
theorem dL_law_2134 : decode cL_law 2134 = .ok (.iconst 0, 1) := by decide +kernel
theorem dL_law_2135 : decode cL_law 2135 = .ok (.laload, 1) := by decide +kernel
theorem dL_law_2136 : decode cL_law 2136 = .ok (.iload 7, 2) := by decide +kernel
theorem dL_law_2138 : decode cL_law 2138 = .ok (.i2l, 1) := by decide +kernel
theorem dL_law_2139 : decode cL_law 2139 = .ok (.lcmp, 1) := by decide +kernel
theorem dL_law_2140 : decode cL_law 2140 = .ok (.ifCond .eq 5, 3) := by decide +kernel
theorem dL_law_2143 : decode cL_law 2143 = .ok (.iconst 0, 1) := by decide +kernel
theorem dL_law_2144 : decode cL_law 2144 = .ok (.ireturn, 1) := by decide +kernel
theorem dL_law_2145 : decode cL_law 2145 = .ok (.goto 148, 3) := by decide +kernel
theorem dL_law_2148 : decode cL_law 2148 = .ok (.aload_n 1, 1) := by decide +kernel
theorem dL_law_2149 : decode cL_law 2149 = .ok (.aload_n 3, 1) := by decide +kernel
theorem dL_law_2150 : decode cL_law 2150 = .ok (.invokestatic 245, 3) := by decide +kernel
theorem dL_law_2153 : decode cL_law 2153 = .ok (.istore 6, 2) := by decide +kernel
theorem dL_law_2155 : decode cL_law 2155 = .ok (.aload_n 2, 1) := by decide +kernel
theorem dL_law_2156 : decode cL_law 2156 = .ok (.invokevirtual 247, 3) := by decide +kernel
theorem dL_law_2159 : decode cL_law 2159 = .ok (.istore 7, 2) := by decide +kernel
theorem dL_law_2161 : decode cL_law 2161 = .ok (.aload_n 2, 1) := by decide +kernel
theorem dL_law_2162 : decode cL_law 2162 = .ok (.invokevirtual 137, 3) := by decide +kernel
theorem dL_law_2165 : decode cL_law 2165 = .ok (.iload 6, 2) := by decide +kernel
theorem dL_law_2167 : decode cL_law 2167 = .ok (.if_icmp .eq 5, 3) := by decide +kernel
theorem dL_law_2170 : decode cL_law 2170 = .ok (.iconst 0, 1) := by decide +kernel
theorem dL_law_2171 : decode cL_law 2171 = .ok (.ireturn, 1) := by decide +kernel
theorem dL_law_2172 : decode cL_law 2172 = .ok (.iload 6, 2) := by decide +kernel
theorem dL_law_2174 : decode cL_law 2174 = .ok (.ifCond .ne 15, 3) := by decide +kernel
theorem dL_law_2177 : decode cL_law 2177 = .ok (.aload_n 3, 1) := by decide +kernel
theorem dL_law_2178 : decode cL_law 2178 = .ok (.iconst 0, 1) := by decide +kernel
theorem dL_law_2179 : decode cL_law 2179 = .ok (.laload, 1) := by decide +kernel
theorem dL_law_2180 : decode cL_law 2180 = .ok (.iload 7, 2) := by decide +kernel
theorem dL_law_2182 : decode cL_law 2182 = .ok (.i2l, 1) := by decide +kernel
theorem dL_law_2183 : decode cL_law 2183 = .ok (.lcmp, 1) := by decide +kernel
theorem dL_law_2184 : decode cL_law 2184 = .ok (.ifCond .eq 5, 3) := by decide +kernel
theorem dL_law_2187 : decode cL_law 2187 = .ok (.iconst 0, 1) := by decide +kernel
theorem dL_law_2188 : decode cL_law 2188 = .ok (.ireturn, 1) := by decide +kernel
theorem dL_law_2189 : decode cL_law 2189 = .ok (.goto 104, 3) := by decide +kernel
theorem dL_law_2192 : decode cL_law 2192 = .ok (.aload_n 1, 1) := by decide +kernel
theorem dL_law_2193 : decode cL_law 2193 = .ok (.aload_n 3, 1) := by decide +kernel
theorem dL_law_2194 : decode cL_law 2194 = .ok (.invokestatic 248, 3) := by decide +kernel
theorem dL_law_2197 : decode cL_law 2197 = .ok (.istore 6, 2) := by decide +kernel
theorem dL_law_2199 : decode cL_law 2199 = .ok (.aload_n 2, 1) := by decide +kernel
theorem dL_law_2200 : decode cL_law 2200 = .ok (.invokevirtual 250, 3) := by decide +kernel
theorem dL_law_2203 : decode cL_law 2203 = .ok (.istore 7, 2) := by decide +kernel
theorem dL_law_2205 : decode cL_law 2205 = .ok (.aload_n 2, 1) := by decide +kernel
theorem dL_law_2206 : decode cL_law 2206 = .ok (.invokevirtual 137, 3) := by decide +kernel
theorem dL_law_2209 : decode cL_law 2209 = .ok (.iload 6, 2) := by decide +kernel
theorem dL_law_2211 : decode cL_law 2211 = .ok (.if_icmp .eq 5, 3) := by decide +kernel
theorem dL_law_2214 : decode cL_law 2214 = .ok (.iconst 0, 1) := by decide +kernel
theorem dL_law_2215 : decode cL_law 2215 = .ok (.ireturn, 1) := by decide +kernel
theorem dL_law_2216 : decode cL_law 2216 = .ok (.iload 6, 2) := by decide +kernel
theorem dL_law_2218 : decode cL_law 2218 = .ok (.ifCond .ne 15, 3) := by decide +kernel
theorem dL_law_2221 : decode cL_law 2221 = .ok (.aload_n 3, 1) := by decide +kernel
theorem dL_law_2222 : decode cL_law 2222 = .ok (.iconst 0, 1) := by decide +kernel
theorem dL_law_2223 : decode cL_law 2223 = .ok (.laload, 1) := by decide +kernel
theorem dL_law_2224 : decode cL_law 2224 = .ok (.iload 7, 2) := by decide +kernel
theorem dL_law_2226 : decode cL_law 2226 = .ok (.i2l, 1) := by decide +kernel
theorem dL_law_2227 : decode cL_law 2227 = .ok (.lcmp, 1) := by decide +kernel
theorem dL_law_2228 : decode cL_law 2228 = .ok (.ifCond .eq 5, 3) := by decide +kernel
theorem dL_law_2231 : decode cL_law 2231 = .ok (.iconst 0, 1) := by decide +kernel
theorem dL_law_2232 : decode cL_law 2232 = .ok (.ireturn, 1) := by decide +kernel
theorem dL_law_2233 : decode cL_law 2233 = .ok (.goto 60, 3) := by decide +kernel
theorem dL_law_2236 : decode cL_law 2236 = .ok (.aload_n 1, 1) := by decide +kernel
theorem dL_law_2237 : decode cL_law 2237 = .ok (.invokevirtual 251, 3) := by decide +kernel
theorem dL_law_2240 : decode cL_law 2240 = .ok (.aload_n 2, 1) := by decide +kernel
theorem dL_law_2241 : decode cL_law 2241 = .ok (.invokevirtual 254, 3) := by decide +kernel
theorem dL_law_2244 : decode cL_law 2244 = .ok (.if_icmp .eq 49, 3) := by decide +kernel
theorem dL_law_2247 : decode cL_law 2247 = .ok (.iconst 0, 1) := by decide +kernel
theorem dL_law_2248 : decode cL_law 2248 = .ok (.ireturn, 1) := by decide +kernel
theorem dL_law_2249 : decode cL_law 2249 = .ok (.aload_n 1, 1) := by decide +kernel
theorem dL_law_2250 : decode cL_law 2250 = .ok (.aload_n 3, 1) := by decide +kernel
theorem dL_law_2251 : decode cL_law 2251 = .ok (.invokestatic 255, 3) := by decide +kernel
theorem dL_law_2254 : decode cL_law 2254 = .ok (.istore 6, 2) := by decide +kernel
theorem dL_law_2256 : decode cL_law 2256 = .ok (.aload_n 2, 1) := by decide +kernel
theorem dL_law_2257 : decode cL_law 2257 = .ok (.invokevirtual 257, 3) := by decide +kernel
theorem dL_law_2260 : decode cL_law 2260 = .ok (.istore 7, 2) := by decide +kernel
theorem dL_law_2262 : decode cL_law 2262 = .ok (.aload_n 2, 1) := by decide +kernel
theorem dL_law_2263 : decode cL_law 2263 = .ok (.invokevirtual 137, 3) := by decide +kernel
theorem dL_law_2266 : decode cL_law 2266 = .ok (.iload 6, 2) := by decide +kernel
theorem dL_law_2268 : decode cL_law 2268 = .ok (.if_icmp .eq 5, 3) := by decide +kernel
theorem dL_law_2271 : decode cL_law 2271 = .ok (.iconst 0, 1) := by decide +kernel
theorem dL_law_2272 : decode cL_law 2272 = .ok (.ireturn, 1) := by decide +kernel
theorem dL_law_2273 : decode cL_law 2273 = .ok (.iload 6, 2) := by decide +kernel
theorem dL_law_2275 : decode cL_law 2275 = .ok (.ifCond .ne 15, 3) := by decide +kernel
theorem dL_law_2278 : decode cL_law 2278 = .ok (.aload_n 3, 1) := by decide +kernel
theorem dL_law_2279 : decode cL_law 2279 = .ok (.iconst 0, 1) := by decide +kernel
theorem dL_law_2280 : decode cL_law 2280 = .ok (.laload, 1) := by decide +kernel
theorem dL_law_2281 : decode cL_law 2281 = .ok (.iload 7, 2) := by decide +kernel
theorem dL_law_2283 : decode cL_law 2283 = .ok (.i2l, 1) := by decide +kernel
theorem dL_law_2284 : decode cL_law 2284 = .ok (.lcmp, 1) := by decide +kernel
theorem dL_law_2285 : decode cL_law 2285 = .ok (.ifCond .eq 5, 3) := by decide +kernel
theorem dL_law_2288 : decode cL_law 2288 = .ok (.iconst 0, 1) := by decide +kernel
theorem dL_law_2289 : decode cL_law 2289 = .ok (.ireturn, 1) := by decide +kernel
theorem dL_law_2290 : decode cL_law 2290 = .ok (.goto 3, 3) := by decide +kernel
theorem dL_law_2293 : decode cL_law 2293 = .ok (.iinc 5 5, 3) := by decide +kernel
theorem dL_law_2296 : decode cL_law 2296 = .ok (.goto (-2268), 3) := by decide +kernel
theorem dL_law_2299 : decode cL_law 2299 = .ok (.iconst 1, 1) := by decide +kernel
theorem dL_law_2300 : decode cL_law 2300 = .ok (.ireturn, 1) := by decide +kernel
abbrev vwCl : List vw_C := [(RJ0, TJ0, 2), (RJx00060, TJx00060, 6), (RX0, TX0, 16), (RX1, TX1, 7), (RX2, TX2, 4), (RX3, TX3, 5), (RX4, TX4, 3), (RX5, TX5, 6), (RX6, TX6, 11), (RX7, TX7, 19)]
