theorem dX5_halve_69 : decode cX5_halve 69 = .ok (.getfield 118, 3) := by decide +kernel
theorem dX5_halve_72 : decode cX5_halve 72 = .ok (.iload_n 1, 1) := by decide +kernel
theorem dX5_halve_73 : decode cX5_halve 73 = .ok (.iaload, 1) := by decide +kernel
theorem dX5_halve_74 : decode cX5_halve 74 = .ok (.iastore, 1) := by decide +kernel
theorem dX5_halve_75 : decode cX5_halve 75 = .ok (.aload_n 0, 1) := by decide +kernel
theorem dX5_halve_76 : decode cX5_halve 76 = .ok (.dup, 1) := by decide +kernel
theorem dX5_halve_77 : decode cX5_halve 77 = .ok (.getfield 21, 3) := by decide +kernel
theorem dX5_halve_80 : decode cX5_halve 80 = .ok (.iconst 1, 1) := by decide +kernel
theorem dX5_halve_81 : decode cX5_halve 81 = .ok (.iadd, 1) := by decide +kernel
theorem dX5_halve_82 : decode cX5_halve 82 = .ok (.putfield 21, 3) := by decide +kernel
theorem dX5_halve_85 : decode cX5_halve 85 = .ok (.aload_n 0, 1) := by decide +kernel
theorem dX5_halve_86 : decode cX5_halve 86 = .ok (.getfield 28, 3) := by decide +kernel
theorem dX5_halve_89 : decode cX5_halve 89 = .ok (.iload_n 1, 1) := by decide +kernel
theorem dX5_halve_90 : decode cX5_halve 90 = .ok (.aload_n 0, 1) := by decide +kernel
theorem dX5_halve_91 : decode cX5_halve 91 = .ok (.getfield 28, 3) := by decide +kernel
theorem dX5_halve_94 : decode cX5_halve 94 = .ok (.getfield 102, 3) := by decide +kernel
theorem dX5_halve_97 : decode cX5_halve 97 = .ok (.iload_n 1, 1) := by decide +kernel
theorem dX5_halve_98 : decode cX5_halve 98 = .ok (.iaload, 1) := by decide +kernel
theorem dX5_halve_99 : decode cX5_halve 99 = .ok (.iload_n 2, 1) := by decide +kernel
theorem dX5_halve_100 : decode cX5_halve 100 = .ok (.invokevirtual 121, 3) := by decide +kernel
theorem dX5_halve_103 : decode cX5_halve 103 = .ok (.aload_n 0, 1) := by decide +kernel
theorem dX5_halve_104 : decode cX5_halve 104 = .ok (.dup, 1) := by decide +kernel
theorem dX5_halve_105 : decode cX5_halve 105 = .ok (.getfield 42, 3) := by decide +kernel
theorem dX5_halve_108 : decode cX5_halve 108 = .ok (.iconst 1, 1) := by decide +kernel
theorem dX5_halve_109 : decode cX5_halve 109 = .ok (.iadd, 1) := by decide +kernel
theorem dX5_halve_110 : decode cX5_halve 110 = .ok (.putfield 42, 3) := by decide +kernel
theorem dX5_halve_113 : decode cX5_halve 113 = .ok (.return_, 1) := by decide +kernel
theorem dX5_takeUp_0 : decode cX5_takeUp 0 = .ok (.aload_n 0, 1) := by decide +kernel
theorem dX5_takeUp_1 : decode cX5_takeUp 1 = .ok (.dup, 1) := by decide +kernel
theorem dX5_takeUp_2 : decode cX5_takeUp 2 = .ok (.getfield 21, 3) := by decide +kernel
theorem dX5_takeUp_5 : decode cX5_takeUp 5 = .ok (.iconst 1, 1) := by decide +kernel
theorem dX5_takeUp_6 : decode cX5_takeUp 6 = .ok (.isub, 1) := by decide +kernel
theorem dX5_takeUp_7 : decode cX5_takeUp 7 = .ok (.putfield 21, 3) := by decide +kernel
theorem dX5_takeUp_10 : decode cX5_takeUp 10 = .ok (.aload_n 0, 1) := by decide +kernel
theorem dX5_takeUp_11 : decode cX5_takeUp 11 = .ok (.getfield 11, 3) := by decide +kernel
theorem dX5_takeUp_14 : decode cX5_takeUp 14 = .ok (.aload_n 0, 1) := by decide +kernel
theorem dX5_takeUp_15 : decode cX5_takeUp 15 = .ok (.getfield 21, 3) := by decide +kernel
theorem dX5_takeUp_18 : decode cX5_takeUp 18 = .ok (.iaload, 1) := by decide +kernel
theorem dX5_takeUp_19 : decode cX5_takeUp 19 = .ok (.istore_n 1, 1) := by decide +kernel
theorem dX5_takeUp_20 : decode cX5_takeUp 20 = .ok (.aload_n 0, 1) := by decide +kernel
theorem dX5_takeUp_21 : decode cX5_takeUp 21 = .ok (.getfield 28, 3) := by decide +kernel
theorem dX5_takeUp_24 : decode cX5_takeUp 24 = .ok (.iload_n 1, 1) := by decide +kernel
theorem dX5_takeUp_25 : decode cX5_takeUp 25 = .ok (.aload_n 0, 1) := by decide +kernel
theorem dX5_takeUp_26 : decode cX5_takeUp 26 = .ok (.getfield 15, 3) := by decide +kernel
theorem dX5_takeUp_29 : decode cX5_takeUp 29 = .ok (.aload_n 0, 1) := by decide +kernel
theorem dX5_takeUp_30 : decode cX5_takeUp 30 = .ok (.getfield 21, 3) := by decide +kernel
theorem dX5_takeUp_33 : decode cX5_takeUp 33 = .ok (.iaload, 1) := by decide +kernel
theorem dX5_takeUp_34 : decode cX5_takeUp 34 = .ok (.aload_n 0, 1) := by decide +kernel
theorem dX5_takeUp_35 : decode cX5_takeUp 35 = .ok (.getfield 18, 3) := by decide +kernel
theorem dX5_takeUp_38 : decode cX5_takeUp 38 = .ok (.aload_n 0, 1) := by decide +kernel
theorem dX5_takeUp_39 : decode cX5_takeUp 39 = .ok (.getfield 21, 3) := by decide +kernel
theorem dX5_takeUp_42 : decode cX5_takeUp 42 = .ok (.iaload, 1) := by decide +kernel
theorem dX5_takeUp_43 : decode cX5_takeUp 43 = .ok (.invokevirtual 121, 3) := by decide +kernel
theorem dX5_takeUp_46 : decode cX5_takeUp 46 = .ok (.iload_n 1, 1) := by decide +kernel
theorem dX5_takeUp_47 : decode cX5_takeUp 47 = .ok (.iconst 1, 1) := by decide +kernel
theorem dX5_takeUp_48 : decode cX5_takeUp 48 = .ok (.iadd, 1) := by decide +kernel
theorem dX5_takeUp_49 : decode cX5_takeUp 49 = .ok (.istore_n 2, 1) := by decide +kernel
theorem dX5_takeUp_50 : decode cX5_takeUp 50 = .ok (.iload_n 2, 1) := by decide +kernel
theorem dX5_takeUp_51 : decode cX5_takeUp 51 = .ok (.iconst 4, 1) := by decide +kernel
theorem dX5_takeUp_52 : decode cX5_takeUp 52 = .ok (.if_icmp .ge 35, 3) := by decide +kernel
theorem dX5_takeUp_55 : decode cX5_takeUp 55 = .ok (.aload_n 0, 1) := by decide +kernel
theorem dX5_takeUp_56 : decode cX5_takeUp 56 = .ok (.getfield 28, 3) := by decide +kernel
theorem dX5_takeUp_59 : decode cX5_takeUp 59 = .ok (.iload_n 2, 1) := by decide +kernel
theorem dX5_takeUp_60 : decode cX5_takeUp 60 = .ok (.aload_n 0, 1) := by decide +kernel
theorem dX5_takeUp_61 : decode cX5_takeUp 61 = .ok (.getfield 57, 3) := by decide +kernel
theorem dX5_takeUp_64 : decode cX5_takeUp 64 = .ok (.getfield 102, 3) := by decide +kernel
theorem dX5_takeUp_67 : decode cX5_takeUp 67 = .ok (.iload_n 2, 1) := by decide +kernel
theorem dX5_takeUp_68 : decode cX5_takeUp 68 = .ok (.iaload, 1) := by decide +kernel
theorem dX5_takeUp_69 : decode cX5_takeUp 69 = .ok (.aload_n 0, 1) := by decide +kernel
theorem dX5_takeUp_70 : decode cX5_takeUp 70 = .ok (.getfield 57, 3) := by decide +kernel
theorem dX5_takeUp_73 : decode cX5_takeUp 73 = .ok (.getfield 118, 3) := by decide +kernel
theorem dX5_takeUp_76 : decode cX5_takeUp 76 = .ok (.iload_n 2, 1) := by decide +kernel
theorem dX5_takeUp_77 : decode cX5_takeUp 77 = .ok (.iaload, 1) := by decide +kernel
theorem dX5_takeUp_78 : decode cX5_takeUp 78 = .ok (.invokevirtual 121, 3) := by decide +kernel
theorem dX5_takeUp_81 : decode cX5_takeUp 81 = .ok (.iinc 2 1, 3) := by decide +kernel
theorem dX5_takeUp_84 : decode cX5_takeUp 84 = .ok (.goto (-34), 3) := by decide +kernel
theorem dX5_takeUp_87 : decode cX5_takeUp 87 = .ok (.return_, 1) := by decide +kernel
theorem dX6_init_0 : decode cX6_init 0 = .ok (.aload_n 0, 1) := by decide +kernel
theorem dX6_init_1 : decode cX6_init 1 = .ok (.invokespecial 3, 3) := by decide +kernel
theorem dX6_init_4 : decode cX6_init 4 = .ok (.aload_n 0, 1) := by decide +kernel
theorem dX6_init_5 : decode cX6_init 5 = .ok (.bipush 40, 2) := by decide +kernel
theorem dX6_init_7 : decode cX6_init 7 = .ok (.newarray .boolean, 2) := by decide +kernel
theorem dX6_init_9 : decode cX6_init 9 = .ok (.putfield 9, 3) := by decide +kernel
theorem dX6_init_12 : decode cX6_init 12 = .ok (.aload_n 0, 1) := by decide +kernel
theorem dX6_init_13 : decode cX6_init 13 = .ok (.bipush 40, 2) := by decide +kernel
theorem dX6_init_15 : decode cX6_init 15 = .ok (.newarray .boolean, 2) := by decide +kernel
theorem dX6_init_17 : decode cX6_init 17 = .ok (.putfield 15, 3) := by decide +kernel
theorem dX6_init_20 : decode cX6_init 20 = .ok (.aload_n 0, 1) := by decide +kernel
theorem dX6_init_21 : decode cX6_init 21 = .ok (.bipush 40, 2) := by decide +kernel
theorem dX6_init_23 : decode cX6_init 23 = .ok (.newarray .int, 2) := by decide +kernel
theorem dX6_init_25 : decode cX6_init 25 = .ok (.putfield 18, 3) := by decide +kernel
theorem dX6_init_28 : decode cX6_init 28 = .ok (.aload_n 0, 1) := by decide +kernel
theorem dX6_init_29 : decode cX6_init 29 = .ok (.bipush 40, 2) := by decide +kernel
theorem dX6_init_31 : decode cX6_init 31 = .ok (.newarray .int, 2) := by decide +kernel
theorem dX6_init_33 : decode cX6_init 33 = .ok (.putfield 22, 3) := by decide +kernel
theorem dX6_init_36 : decode cX6_init 36 = .ok (.aload_n 0, 1) := by decide +kernel
theorem dX6_init_37 : decode cX6_init 37 = .ok (.new 25, 3) := by decide +kernel
theorem dX6_init_40 : decode cX6_init 40 = .ok (.dup, 1) := by decide +kernel
theorem dX6_init_41 : decode cX6_init 41 = .ok (.invokespecial 27, 3) := by decide +kernel
theorem dX6_init_44 : decode cX6_init 44 = .ok (.putfield 28, 3) := by decide +kernel
theorem dX6_init_47 : decode cX6_init 47 = .ok (.aload_n 0, 1) := by decide +kernel
theorem dX6_init_48 : decode cX6_init 48 = .ok (.lconst 0, 1) := by decide +kernel
theorem dX6_init_49 : decode cX6_init 49 = .ok (.putfield 32, 3) := by decide +kernel
theorem dX6_init_52 : decode cX6_init 52 = .ok (.aload_n 0, 1) := by decide +kernel
theorem dX6_init_53 : decode cX6_init 53 = .ok (.aload_n 1, 1) := by decide +kernel
theorem dX6_init_54 : decode cX6_init 54 = .ok (.putfield 36, 3) := by decide +kernel
theorem dX6_init_57 : decode cX6_init 57 = .ok (.return_, 1) := by decide +kernel
theorem dX6_fill_0 : decode cX6_fill 0 = .ok (.aload_n 0, 1) := by decide +kernel
theorem dX6_fill_1 : decode cX6_fill 1 = .ok (.aload_n 0, 1) := by decide +kernel
theorem dX6_fill_2 : decode cX6_fill 2 = .ok (.getfield 28, 3) := by decide +kernel
theorem dX6_fill_5 : decode cX6_fill 5 = .ok (.aload_n 1, 1) := by decide +kernel
theorem dX6_fill_6 : decode cX6_fill 6 = .ok (.invokevirtual 40, 3) := by decide +kernel
theorem dX6_fill_9 : decode cX6_fill 9 = .ok (.invokevirtual 44, 3) := by decide +kernel
theorem dX6_fill_12 : decode cX6_fill 12 = .ok (.lload_n 2, 1) := by decide +kernel
theorem dX6_fill_13 : decode cX6_fill 13 = .ok (.aload_n 0, 1) := by decide +kernel
theorem dX6_fill_14 : decode cX6_fill 14 = .ok (.getfield 32, 3) := by decide +kernel
theorem dX6_fill_17 : decode cX6_fill 17 = .ok (.ldc2_w 48, 3) := by decide +kernel
theorem dX6_fill_20 : decode cX6_fill 20 = .ok (.lxor, 1) := by decide +kernel
theorem dX6_fill_21 : decode cX6_fill 21 = .ok (.land, 1) := by decide +kernel
theorem dX6_fill_22 : decode cX6_fill 22 = .ok (.lstore 4, 2) := by decide +kernel
theorem dX6_fill_24 : decode cX6_fill 24 = .ok (.iconst 0, 1) := by decide +kernel
theorem dX6_fill_25 : decode cX6_fill 25 = .ok (.istore 6, 2) := by decide +kernel
theorem dX6_fill_27 : decode cX6_fill 27 = .ok (.iload 6, 2) := by decide +kernel
theorem dX6_fill_29 : decode cX6_fill 29 = .ok (.aload_n 0, 1) := by decide +kernel
theorem dX6_fill_30 : decode cX6_fill 30 = .ok (.getfield 36, 3) := by decide +kernel
theorem dX6_fill_33 : decode cX6_fill 33 = .ok (.getfield 50, 3) := by decide +kernel
theorem dX6_fill_36 : decode cX6_fill 36 = .ok (.if_icmp .ge 316, 3) := by decide +kernel
theorem dX6_fill_39 : decode cX6_fill 39 = .ok (.aload_n 0, 1) := by decide +kernel
theorem dX6_fill_40 : decode cX6_fill 40 = .ok (.getfield 36, 3) := by decide +kernel
theorem dX6_fill_43 : decode cX6_fill 43 = .ok (.getfield 56, 3) := by decide +kernel
theorem dX6_fill_46 : decode cX6_fill 46 = .ok (.iload 6, 2) := by decide +kernel
theorem dX6_fill_48 : decode cX6_fill 48 = .ok (.iaload, 1) := by decide +kernel
theorem dX6_fill_49 : decode cX6_fill 49 = .ok (.istore 7, 2) := by decide +kernel
theorem dX6_fill_51 : decode cX6_fill 51 = .ok (.lload 4, 2) := by decide +kernel
theorem dX6_fill_53 : decode cX6_fill 53 = .ok (.lconst 1, 1) := by decide +kernel
theorem dX6_fill_54 : decode cX6_fill 54 = .ok (.iload 6, 2) := by decide +kernel
theorem dX6_fill_56 : decode cX6_fill 56 = .ok (.lshl, 1) := by decide +kernel
theorem dX6_fill_57 : decode cX6_fill 57 = .ok (.land, 1) := by decide +kernel
theorem dX6_fill_58 : decode cX6_fill 58 = .ok (.lconst 0, 1) := by decide +kernel
theorem dX6_fill_59 : decode cX6_fill 59 = .ok (.lcmp, 1) := by decide +kernel
theorem dX6_fill_60 : decode cX6_fill 60 = .ok (.ifCond .ne 6, 3) := by decide +kernel
theorem dX6_fill_63 : decode cX6_fill 63 = .ok (.goto 283, 3) := by decide +kernel
theorem dX6_fill_66 : decode cX6_fill 66 = .ok (.iload 7, 2) := by decide +kernel
theorem dX6_fill_68 : decode cX6_fill 68 = .ok (.ifCond .ne 22, 3) := by decide +kernel
theorem dX6_fill_71 : decode cX6_fill 71 = .ok (.aload_n 0, 1) := by decide +kernel
theorem dX6_fill_72 : decode cX6_fill 72 = .ok (.iload 6, 2) := by decide +kernel
theorem dX6_fill_74 : decode cX6_fill 74 = .ok (.aload_n 0, 1) := by decide +kernel
theorem dX6_fill_75 : decode cX6_fill 75 = .ok (.getfield 36, 3) := by decide +kernel
theorem dX6_fill_78 : decode cX6_fill 78 = .ok (.getfield 59, 3) := by decide +kernel
theorem dX6_fill_81 : decode cX6_fill 81 = .ok (.iload 6, 2) := by decide +kernel
theorem dX6_fill_83 : decode cX6_fill 83 = .ok (.iaload, 1) := by decide +kernel
theorem dX6_fill_84 : decode cX6_fill 84 = .ok (.invokevirtual 62, 3) := by decide +kernel
theorem dX6_fill_87 : decode cX6_fill 87 = .ok (.goto 259, 3) := by decide +kernel
theorem dX6_fill_90 : decode cX6_fill 90 = .ok (.iload 7, 2) := by decide +kernel
theorem dX6_fill_92 : decode cX6_fill 92 = .ok (.iconst 1, 1) := by decide +kernel
theorem dX6_fill_93 : decode cX6_fill 93 = .ok (.if_icmp .ne 49, 3) := by decide +kernel
theorem dX6_fill_96 : decode cX6_fill 96 = .ok (.aload_n 0, 1) := by decide +kernel
theorem dX6_fill_97 : decode cX6_fill 97 = .ok (.iload 6, 2) := by decide +kernel
theorem dX6_fill_99 : decode cX6_fill 99 = .ok (.aload_n 0, 1) := by decide +kernel
theorem dX6_fill_100 : decode cX6_fill 100 = .ok (.getfield 28, 3) := by decide +kernel
theorem dX6_fill_103 : decode cX6_fill 103 = .ok (.getfield 66, 3) := by decide +kernel
theorem dX6_fill_106 : decode cX6_fill 106 = .ok (.aload_n 0, 1) := by decide +kernel
theorem dX6_fill_107 : decode cX6_fill 107 = .ok (.getfield 36, 3) := by decide +kernel
theorem dX6_fill_110 : decode cX6_fill 110 = .ok (.getfield 59, 3) := by decide +kernel
theorem dX6_fill_113 : decode cX6_fill 113 = .ok (.iload 6, 2) := by decide +kernel
theorem dX6_fill_115 : decode cX6_fill 115 = .ok (.iaload, 1) := by decide +kernel
theorem dX6_fill_116 : decode cX6_fill 116 = .ok (.iaload, 1) := by decide +kernel
theorem dX6_fill_117 : decode cX6_fill 117 = .ok (.aload_n 0, 1) := by decide +kernel
theorem dX6_fill_118 : decode cX6_fill 118 = .ok (.getfield 28, 3) := by decide +kernel
theorem dX6_fill_121 : decode cX6_fill 121 = .ok (.getfield 67, 3) := by decide +kernel
theorem dX6_fill_124 : decode cX6_fill 124 = .ok (.aload_n 0, 1) := by decide +kernel
theorem dX6_fill_125 : decode cX6_fill 125 = .ok (.getfield 36, 3) := by decide +kernel
theorem dX6_fill_128 : decode cX6_fill 128 = .ok (.getfield 59, 3) := by decide +kernel
theorem dX6_fill_131 : decode cX6_fill 131 = .ok (.iload 6, 2) := by decide +kernel
theorem dX6_fill_133 : decode cX6_fill 133 = .ok (.iaload, 1) := by decide +kernel
theorem dX6_fill_134 : decode cX6_fill 134 = .ok (.iaload, 1) := by decide +kernel
theorem dX6_fill_135 : decode cX6_fill 135 = .ok (.iconst 0, 1) := by decide +kernel
theorem dX6_fill_136 : decode cX6_fill 136 = .ok (.invokevirtual 68, 3) := by decide +kernel
theorem dX6_fill_139 : decode cX6_fill 139 = .ok (.goto 207, 3) := by decide +kernel
theorem dX6_fill_142 : decode cX6_fill 142 = .ok (.aload_n 0, 1) := by decide +kernel
theorem dX6_fill_143 : decode cX6_fill 143 = .ok (.getfield 9, 3) := by decide +kernel
theorem dX6_fill_146 : decode cX6_fill 146 = .ok (.aload_n 0, 1) := by decide +kernel
theorem dX6_fill_147 : decode cX6_fill 147 = .ok (.getfield 36, 3) := by decide +kernel
theorem dX6_fill_150 : decode cX6_fill 150 = .ok (.getfield 59, 3) := by decide +kernel
theorem dX6_fill_153 : decode cX6_fill 153 = .ok (.iload 6, 2) := by decide +kernel
theorem dX6_fill_155 : decode cX6_fill 155 = .ok (.iaload, 1) := by decide +kernel
theorem dX6_fill_156 : decode cX6_fill 156 = .ok (.baload, 1) := by decide +kernel
theorem dX6_fill_157 : decode cX6_fill 157 = .ok (.ifCond .eq 21, 3) := by decide +kernel
theorem dX6_fill_160 : decode cX6_fill 160 = .ok (.aload_n 0, 1) := by decide +kernel
theorem dX6_fill_161 : decode cX6_fill 161 = .ok (.getfield 9, 3) := by decide +kernel
theorem dX6_fill_164 : decode cX6_fill 164 = .ok (.aload_n 0, 1) := by decide +kernel
theorem dX6_fill_165 : decode cX6_fill 165 = .ok (.getfield 36, 3) := by decide +kernel
theorem dX6_fill_168 : decode cX6_fill 168 = .ok (.getfield 72, 3) := by decide +kernel
theorem dX6_fill_171 : decode cX6_fill 171 = .ok (.iload 6, 2) := by decide +kernel
theorem dX6_fill_173 : decode cX6_fill 173 = .ok (.iaload, 1) := by decide +kernel
theorem dX6_fill_174 : decode cX6_fill 174 = .ok (.baload, 1) := by decide +kernel
theorem dX6_fill_175 : decode cX6_fill 175 = .ok (.ifCond .ne 25, 3) := by decide +kernel
theorem dX6_fill_178 : decode cX6_fill 178 = .ok (.aload_n 0, 1) := by decide +kernel
theorem dX6_fill_179 : decode cX6_fill 179 = .ok (.iload 6, 2) := by decide +kernel
theorem dX6_fill_181 : decode cX6_fill 181 = .ok (.iload 7, 2) := by decide +kernel
theorem dX6_fill_183 : decode cX6_fill 183 = .ok (.bipush 13, 2) := by decide +kernel
theorem dX6_fill_185 : decode cX6_fill 185 = .ok (.if_icmp .ne 7, 3) := by decide +kernel
theorem dX6_fill_188 : decode cX6_fill 188 = .ok (.iconst 0, 1) := by decide +kernel
theorem dX6_fill_189 : decode cX6_fill 189 = .ok (.goto 5, 3) := by decide +kernel
theorem dX6_fill_192 : decode cX6_fill 192 = .ok (.ldc 75, 2) := by decide +kernel
theorem dX6_fill_194 : decode cX6_fill 194 = .ok (.invokevirtual 62, 3) := by decide +kernel
theorem dX6_fill_197 : decode cX6_fill 197 = .ok (.goto 149, 3) := by decide +kernel
theorem dX6_fill_200 : decode cX6_fill 200 = .ok (.iload 7, 2) := by decide +kernel
theorem dX6_fill_202 : decode cX6_fill 202 = .ok (.iconst 5, 1) := by decide +kernel
theorem dX6_fill_203 : decode cX6_fill 203 = .ok (.if_icmp .gt 34, 3) := by decide +kernel
theorem dX6_fill_206 : decode cX6_fill 206 = .ok (.aload_n 0, 1) := by decide +kernel
theorem dX6_fill_207 : decode cX6_fill 207 = .ok (.iload 6, 2) := by decide +kernel
theorem dX6_fill_209 : decode cX6_fill 209 = .ok (.iload 7, 2) := by decide +kernel
theorem dX6_fill_211 : decode cX6_fill 211 = .ok (.aload_n 0, 1) := by decide +kernel
theorem dX6_fill_212 : decode cX6_fill 212 = .ok (.getfield 36, 3) := by decide +kernel
theorem dX6_fill_215 : decode cX6_fill 215 = .ok (.getfield 59, 3) := by decide +kernel
theorem dX6_fill_218 : decode cX6_fill 218 = .ok (.iload 6, 2) := by decide +kernel
theorem dX6_fill_220 : decode cX6_fill 220 = .ok (.iaload, 1) := by decide +kernel
theorem dX6_fill_221 : decode cX6_fill 221 = .ok (.aload_n 0, 1) := by decide +kernel
theorem dX6_fill_222 : decode cX6_fill 222 = .ok (.getfield 36, 3) := by decide +kernel
theorem dX6_fill_225 : decode cX6_fill 225 = .ok (.getfield 72, 3) := by decide +kernel
theorem dX6_fill_228 : decode cX6_fill 228 = .ok (.iload 6, 2) := by decide +kernel
theorem dX6_fill_230 : decode cX6_fill 230 = .ok (.iaload, 1) := by decide +kernel
theorem dX6_fill_231 : decode cX6_fill 231 = .ok (.invokevirtual 76, 3) := by decide +kernel
theorem dX6_fill_234 : decode cX6_fill 234 = .ok (.goto 112, 3) := by decide +kernel
theorem dX6_fill_237 : decode cX6_fill 237 = .ok (.iload 7, 2) := by decide +kernel
theorem dX6_fill_239 : decode cX6_fill 239 = .ok (.bipush 8, 2) := by decide +kernel
theorem dX6_fill_241 : decode cX6_fill 241 = .ok (.if_icmp .eq 10, 3) := by decide +kernel
theorem dX6_fill_244 : decode cX6_fill 244 = .ok (.iload 7, 2) := by decide +kernel
theorem dX6_fill_246 : decode cX6_fill 246 = .ok (.bipush 9, 2) := by decide +kernel
theorem dX6_fill_248 : decode cX6_fill 248 = .ok (.if_icmp .ne 44, 3) := by decide +kernel
theorem dX6_fill_251 : decode cX6_fill 251 = .ok (.aload_n 0, 1) := by decide +kernel
theorem dX6_fill_252 : decode cX6_fill 252 = .ok (.iload 6, 2) := by decide +kernel
theorem dX6_fill_254 : decode cX6_fill 254 = .ok (.iload 7, 2) := by decide +kernel
theorem dX6_fill_256 : decode cX6_fill 256 = .ok (.bipush 8, 2) := by decide +kernel
theorem dX6_fill_258 : decode cX6_fill 258 = .ok (.if_icmp .ne 7, 3) := by decide +kernel
theorem dX6_fill_261 : decode cX6_fill 261 = .ok (.iconst 1, 1) := by decide +kernel
theorem dX6_fill_262 : decode cX6_fill 262 = .ok (.goto 4, 3) := by decide +kernel
theorem dX6_fill_265 : decode cX6_fill 265 = .ok (.iconst 0, 1) := by decide +kernel
theorem dX6_fill_266 : decode cX6_fill 266 = .ok (.aload_n 0, 1) := by decide +kernel
theorem dX6_fill_267 : decode cX6_fill 267 = .ok (.getfield 36, 3) := by decide +kernel
theorem dX6_fill_270 : decode cX6_fill 270 = .ok (.getfield 59, 3) := by decide +kernel
theorem dX6_fill_273 : decode cX6_fill 273 = .ok (.iload 6, 2) := by decide +kernel
theorem dX6_fill_275 : decode cX6_fill 275 = .ok (.iaload, 1) := by decide +kernel
theorem dX6_fill_276 : decode cX6_fill 276 = .ok (.aload_n 0, 1) := by decide +kernel
theorem dX6_fill_277 : decode cX6_fill 277 = .ok (.getfield 36, 3) := by decide +kernel
theorem dX6_fill_280 : decode cX6_fill 280 = .ok (.getfield 72, 3) := by decide +kernel
theorem dX6_fill_283 : decode cX6_fill 283 = .ok (.iload 6, 2) := by decide +kernel
theorem dX6_fill_285 : decode cX6_fill 285 = .ok (.iaload, 1) := by decide +kernel
theorem dX6_fill_286 : decode cX6_fill 286 = .ok (.invokevirtual 80, 3) := by decide +kernel
theorem dX6_fill_289 : decode cX6_fill 289 = .ok (.goto 57, 3) := by decide +kernel
theorem dX6_fill_292 : decode cX6_fill 292 = .ok (.iload 7, 2) := by decide +kernel
theorem dX6_fill_294 : decode cX6_fill 294 = .ok (.bipush 14, 2) := by decide +kernel
theorem dX6_fill_296 : decode cX6_fill 296 = .ok (.if_icmp .ne 32, 3) := by decide +kernel
theorem dX6_fill_299 : decode cX6_fill 299 = .ok (.aload_n 0, 1) := by decide +kernel
theorem dX6_fill_300 : decode cX6_fill 300 = .ok (.iload 6, 2) := by decide +kernel
theorem dX6_fill_302 : decode cX6_fill 302 = .ok (.aload_n 0, 1) := by decide +kernel
theorem dX6_fill_303 : decode cX6_fill 303 = .ok (.getfield 36, 3) := by decide +kernel
theorem dX6_fill_306 : decode cX6_fill 306 = .ok (.getfield 59, 3) := by decide +kernel
theorem dX6_fill_309 : decode cX6_fill 309 = .ok (.iload 6, 2) := by decide +kernel
theorem dX6_fill_311 : decode cX6_fill 311 = .ok (.iaload, 1) := by decide +kernel
theorem dX6_fill_312 : decode cX6_fill 312 = .ok (.aload_n 0, 1) := by decide +kernel
theorem dX6_fill_313 : decode cX6_fill 313 = .ok (.getfield 36, 3) := by decide +kernel
theorem dX6_fill_316 : decode cX6_fill 316 = .ok (.getfield 72, 3) := by decide +kernel
theorem dX6_fill_319 : decode cX6_fill 319 = .ok (.iload 6, 2) := by decide +kernel
theorem dX6_fill_321 : decode cX6_fill 321 = .ok (.iaload, 1) := by decide +kernel
theorem dX6_fill_322 : decode cX6_fill 322 = .ok (.invokevirtual 84, 3) := by decide +kernel
theorem dX6_fill_325 : decode cX6_fill 325 = .ok (.goto 21, 3) := by decide +kernel
theorem dX6_fill_328 : decode cX6_fill 328 = .ok (.aload_n 0, 1) := by decide +kernel
theorem dX6_fill_329 : decode cX6_fill 329 = .ok (.iload 6, 2) := by decide +kernel
theorem dX6_fill_331 : decode cX6_fill 331 = .ok (.iload 7, 2) := by decide +kernel
theorem dX6_fill_333 : decode cX6_fill 333 = .ok (.aload_n 0, 1) := by decide +kernel
theorem dX6_fill_334 : decode cX6_fill 334 = .ok (.getfield 36, 3) := by decide +kernel
theorem dX6_fill_337 : decode cX6_fill 337 = .ok (.getfield 59, 3) := by decide +kernel
theorem dX6_fill_340 : decode cX6_fill 340 = .ok (.iload 6, 2) := by decide +kernel
theorem dX6_fill_342 : decode cX6_fill 342 = .ok (.iaload, 1) := by decide +kernel
theorem dX6_fill_343 : decode cX6_fill 343 = .ok (.invokevirtual 88, 3) := by decide +kernel
theorem dX6_fill_346 : decode cX6_fill 346 = .ok (.iinc 6 1, 3) := by decide +kernel
theorem dX6_fill_349 : decode cX6_fill 349 = .ok (.goto (-322), 3) := by decide +kernel
theorem dX6_fill_352 : decode cX6_fill 352 = .ok (.aload_n 0, 1) := by decide +kernel
theorem dX6_fill_353 : decode cX6_fill 353 = .ok (.dup, 1) := by decide +kernel
theorem dX6_fill_354 : decode cX6_fill 354 = .ok (.getfield 32, 3) := by decide +kernel
theorem dX6_fill_357 : decode cX6_fill 357 = .ok (.lload 4, 2) := by decide +kernel
theorem dX6_fill_359 : decode cX6_fill 359 = .ok (.lor, 1) := by decide +kernel
theorem dX6_fill_360 : decode cX6_fill 360 = .ok (.putfield 32, 3) := by decide +kernel
theorem dX6_fill_363 : decode cX6_fill 363 = .ok (.return_, 1) := by decide +kernel
theorem dX6_forget_0 : decode cX6_forget 0 = .ok (.iconst 0, 1) := by decide +kernel
theorem dX6_forget_1 : decode cX6_forget 1 = .ok (.istore_n 2, 1) := by decide +kernel
theorem dX6_forget_2 : decode cX6_forget 2 = .ok (.iload_n 2, 1) := by decide +kernel
theorem dX6_forget_3 : decode cX6_forget 3 = .ok (.iconst 4, 1) := by decide +kernel
theorem dX6_forget_4 : decode cX6_forget 4 = .ok (.if_icmp .ge 39, 3) := by decide +kernel
theorem dX6_forget_7 : decode cX6_forget 7 = .ok (.iload_n 1, 1) := by decide +kernel
theorem dX6_forget_8 : decode cX6_forget 8 = .ok (.iconst 1, 1) := by decide +kernel
theorem dX6_forget_9 : decode cX6_forget 9 = .ok (.iload_n 2, 1) := by decide +kernel
theorem dX6_forget_10 : decode cX6_forget 10 = .ok (.ishl, 1) := by decide +kernel
theorem dX6_forget_11 : decode cX6_forget 11 = .ok (.iand, 1) := by decide +kernel
theorem dX6_forget_12 : decode cX6_forget 12 = .ok (.ifCond .eq 25, 3) := by decide +kernel
theorem dX6_forget_15 : decode cX6_forget 15 = .ok (.aload_n 0, 1) := by decide +kernel
theorem dX6_forget_16 : decode cX6_forget 16 = .ok (.dup, 1) := by decide +kernel
theorem dX6_forget_17 : decode cX6_forget 17 = .ok (.getfield 32, 3) := by decide +kernel
theorem dX6_forget_20 : decode cX6_forget 20 = .ok (.aload_n 0, 1) := by decide +kernel
theorem dX6_forget_21 : decode cX6_forget 21 = .ok (.getfield 36, 3) := by decide +kernel
theorem dX6_forget_24 : decode cX6_forget 24 = .ok (.getfield 91, 3) := by decide +kernel
theorem dX6_forget_27 : decode cX6_forget 27 = .ok (.iload_n 2, 1) := by decide +kernel
theorem dX6_forget_28 : decode cX6_forget 28 = .ok (.laload, 1) := by decide +kernel
theorem dX6_forget_29 : decode cX6_forget 29 = .ok (.ldc2_w 48, 3) := by decide +kernel
theorem dX6_forget_32 : decode cX6_forget 32 = .ok (.lxor, 1) := by decide +kernel
theorem dX6_forget_33 : decode cX6_forget 33 = .ok (.land, 1) := by decide +kernel
theorem dX6_forget_34 : decode cX6_forget 34 = .ok (.putfield 32, 3) := by decide +kernel
theorem dX6_forget_37 : decode cX6_forget 37 = .ok (.iinc 2 1, 3) := by decide +kernel
theorem dX6_forget_40 : decode cX6_forget 40 = .ok (.goto (-38), 3) := by decide +kernel
theorem dX6_forget_43 : decode cX6_forget 43 = .ok (.return_, 1) := by decide +kernel
theorem dX6_put_0 : decode cX6_put 0 = .ok (.aload_n 0, 1) := by decide +kernel
theorem dX6_put_1 : decode cX6_put 1 = .ok (.getfield 9, 3) := by decide +kernel
theorem dX6_put_4 : decode cX6_put 4 = .ok (.iload_n 1, 1) := by decide +kernel
theorem dX6_put_5 : decode cX6_put 5 = .ok (.iconst 1, 1) := by decide +kernel
theorem dX6_put_6 : decode cX6_put 6 = .ok (.bastore, 1) := by decide +kernel
theorem dX6_put_7 : decode cX6_put 7 = .ok (.aload_n 0, 1) := by decide +kernel
theorem dX6_put_8 : decode cX6_put 8 = .ok (.getfield 18, 3) := by decide +kernel
theorem dX6_put_11 : decode cX6_put 11 = .ok (.iload_n 1, 1) := by decide +kernel
theorem dX6_put_12 : decode cX6_put 12 = .ok (.iload_n 2, 1) := by decide +kernel
theorem dX6_put_13 : decode cX6_put 13 = .ok (.iastore, 1) := by decide +kernel
theorem dX6_put_14 : decode cX6_put 14 = .ok (.aload_n 0, 1) := by decide +kernel
theorem dX6_put_15 : decode cX6_put 15 = .ok (.getfield 22, 3) := by decide +kernel
theorem dX6_put_18 : decode cX6_put 18 = .ok (.iload_n 1, 1) := by decide +kernel
theorem dX6_put_19 : decode cX6_put 19 = .ok (.iload_n 3, 1) := by decide +kernel
theorem dX6_put_20 : decode cX6_put 20 = .ok (.iastore, 1) := by decide +kernel
theorem dX6_put_21 : decode cX6_put 21 = .ok (.aload_n 0, 1) := by decide +kernel
theorem dX6_put_22 : decode cX6_put 22 = .ok (.getfield 15, 3) := by decide +kernel
theorem dX6_put_25 : decode cX6_put 25 = .ok (.iload_n 1, 1) := by decide +kernel
theorem dX6_put_26 : decode cX6_put 26 = .ok (.iload 4, 2) := by decide +kernel
theorem dX6_put_28 : decode cX6_put 28 = .ok (.bastore, 1) := by decide +kernel
theorem dX6_put_29 : decode cX6_put 29 = .ok (.return_, 1) := by decide +kernel
theorem dX6_putAll_0 : decode cX6_putAll 0 = .ok (.aload_n 0, 1) := by decide +kernel
theorem dX6_putAll_1 : decode cX6_putAll 1 = .ok (.iload_n 1, 1) := by decide +kernel
theorem dX6_putAll_2 : decode cX6_putAll 2 = .ok (.ldc 95, 2) := by decide +kernel
theorem dX6_putAll_4 : decode cX6_putAll 4 = .ok (.ldc 96, 2) := by decide +kernel
theorem dX6_putAll_6 : decode cX6_putAll 6 = .ok (.iconst 1, 1) := by decide +kernel
theorem dX6_putAll_7 : decode cX6_putAll 7 = .ok (.invokevirtual 68, 3) := by decide +kernel
theorem dX6_putAll_10 : decode cX6_putAll 10 = .ok (.return_, 1) := by decide +kernel
theorem dX6_putValue_0 : decode cX6_putValue 0 = .ok (.aload_n 0, 1) := by decide +kernel
theorem dX6_putValue_1 : decode cX6_putValue 1 = .ok (.iload_n 1, 1) := by decide +kernel
theorem dX6_putValue_2 : decode cX6_putValue 2 = .ok (.iload_n 2, 1) := by decide +kernel
theorem dX6_putValue_3 : decode cX6_putValue 3 = .ok (.invokestatic 97, 3) := by decide +kernel
theorem dX6_putValue_6 : decode cX6_putValue 6 = .ok (.iload_n 2, 1) := by decide +kernel
theorem dX6_putValue_7 : decode cX6_putValue 7 = .ok (.invokestatic 97, 3) := by decide +kernel
theorem dX6_putValue_10 : decode cX6_putValue 10 = .ok (.iload_n 2, 1) := by decide +kernel
theorem dX6_putValue_11 : decode cX6_putValue 11 = .ok (.invokestatic 103, 3) := by decide +kernel
theorem dX6_putValue_14 : decode cX6_putValue 14 = .ok (.invokevirtual 68, 3) := by decide +kernel
theorem dX6_putValue_17 : decode cX6_putValue 17 = .ok (.aload_n 0, 1) := by decide +kernel
theorem dX6_putValue_18 : decode cX6_putValue 18 = .ok (.getfield 9, 3) := by decide +kernel
theorem dX6_putValue_21 : decode cX6_putValue 21 = .ok (.iload_n 1, 1) := by decide +kernel
theorem dX6_putValue_22 : decode cX6_putValue 22 = .ok (.aload_n 0, 1) := by decide +kernel
theorem dX6_putValue_23 : decode cX6_putValue 23 = .ok (.getfield 15, 3) := by decide +kernel
theorem dX6_putValue_26 : decode cX6_putValue 26 = .ok (.iload_n 1, 1) := by decide +kernel
theorem dX6_putValue_27 : decode cX6_putValue 27 = .ok (.baload, 1) := by decide +kernel
theorem dX6_putValue_28 : decode cX6_putValue 28 = .ok (.ifCond .ne 7, 3) := by decide +kernel
theorem dX6_putValue_31 : decode cX6_putValue 31 = .ok (.iconst 1, 1) := by decide +kernel
theorem dX6_putValue_32 : decode cX6_putValue 32 = .ok (.goto 4, 3) := by decide +kernel
theorem dX6_putValue_35 : decode cX6_putValue 35 = .ok (.iconst 0, 1) := by decide +kernel
theorem dX6_putValue_36 : decode cX6_putValue 36 = .ok (.bastore, 1) := by decide +kernel
theorem dX6_putValue_37 : decode cX6_putValue 37 = .ok (.return_, 1) := by decide +kernel
theorem dX6_fillFromEnds_0 : decode cX6_fillFromEnds 0 = .ok (.iload_n 2, 1) := by decide +kernel
theorem dX6_fillFromEnds_1 : decode cX6_fillFromEnds 1 = .ok (.bipush 15, 2) := by decide +kernel
theorem dX6_fillFromEnds_3 : decode cX6_fillFromEnds 3 = .ok (.if_icmp .ne 19, 3) := by decide +kernel
theorem dX6_fillFromEnds_6 : decode cX6_fillFromEnds 6 = .ok (.aload_n 0, 1) := by decide +kernel
theorem dX6_fillFromEnds_7 : decode cX6_fillFromEnds 7 = .ok (.getfield 18, 3) := by decide +kernel
theorem dX6_fillFromEnds_10 : decode cX6_fillFromEnds 10 = .ok (.iload_n 3, 1) := by decide +kernel
theorem dX6_fillFromEnds_11 : decode cX6_fillFromEnds 11 = .ok (.iaload, 1) := by decide +kernel
theorem dX6_fillFromEnds_12 : decode cX6_fillFromEnds 12 = .ok (.iconst (-1), 1) := by decide +kernel
theorem dX6_fillFromEnds_13 : decode cX6_fillFromEnds 13 = .ok (.if_icmp .ge 9, 3) := by decide +kernel
theorem dX6_fillFromEnds_16 : decode cX6_fillFromEnds 16 = .ok (.aload_n 0, 1) := by decide +kernel
theorem dX6_fillFromEnds_17 : decode cX6_fillFromEnds 17 = .ok (.iload_n 1, 1) := by decide +kernel
theorem dX6_fillFromEnds_18 : decode cX6_fillFromEnds 18 = .ok (.invokevirtual 107, 3) := by decide +kernel
theorem dX6_fillFromEnds_21 : decode cX6_fillFromEnds 21 = .ok (.return_, 1) := by decide +kernel
theorem dX6_fillFromEnds_22 : decode cX6_fillFromEnds 22 = .ok (.iload_n 2, 1) := by decide +kernel
theorem dX6_fillFromEnds_23 : decode cX6_fillFromEnds 23 = .ok (.aload_n 0, 1) := by decide +kernel
theorem dX6_fillFromEnds_24 : decode cX6_fillFromEnds 24 = .ok (.getfield 18, 3) := by decide +kernel
theorem dX6_fillFromEnds_27 : decode cX6_fillFromEnds 27 = .ok (.iload_n 3, 1) := by decide +kernel
theorem dX6_fillFromEnds_28 : decode cX6_fillFromEnds 28 = .ok (.iaload, 1) := by decide +kernel
theorem dX6_fillFromEnds_29 : decode cX6_fillFromEnds 29 = .ok (.invokestatic 110, 3) := by decide +kernel
theorem dX6_fillFromEnds_32 : decode cX6_fillFromEnds 32 = .ok (.invokestatic 113, 3) := by decide +kernel
theorem dX6_fillFromEnds_35 : decode cX6_fillFromEnds 35 = .ok (.invokestatic 97, 3) := by decide +kernel
theorem dX6_fillFromEnds_38 : decode cX6_fillFromEnds 38 = .ok (.istore 4, 2) := by decide +kernel
theorem dX6_fillFromEnds_40 : decode cX6_fillFromEnds 40 = .ok (.iload_n 2, 1) := by decide +kernel
theorem dX6_fillFromEnds_41 : decode cX6_fillFromEnds 41 = .ok (.aload_n 0, 1) := by decide +kernel
theorem dX6_fillFromEnds_42 : decode cX6_fillFromEnds 42 = .ok (.getfield 22, 3) := by decide +kernel
theorem dX6_fillFromEnds_45 : decode cX6_fillFromEnds 45 = .ok (.iload_n 3, 1) := by decide +kernel
theorem dX6_fillFromEnds_46 : decode cX6_fillFromEnds 46 = .ok (.iaload, 1) := by decide +kernel
theorem dX6_fillFromEnds_47 : decode cX6_fillFromEnds 47 = .ok (.invokestatic 110, 3) := by decide +kernel
theorem dX6_fillFromEnds_50 : decode cX6_fillFromEnds 50 = .ok (.invokestatic 113, 3) := by decide +kernel
theorem dX6_fillFromEnds_53 : decode cX6_fillFromEnds 53 = .ok (.invokestatic 97, 3) := by decide +kernel
theorem dX6_fillFromEnds_56 : decode cX6_fillFromEnds 56 = .ok (.istore 5, 2) := by decide +kernel
theorem dX6_fillFromEnds_58 : decode cX6_fillFromEnds 58 = .ok (.iload 4, 2) := by decide +kernel
theorem dX6_fillFromEnds_60 : decode cX6_fillFromEnds 60 = .ok (.iload 5, 2) := by decide +kernel
theorem dX6_fillFromEnds_62 : decode cX6_fillFromEnds 62 = .ok (.invokestatic 119, 3) := by decide +kernel
theorem dX6_fillFromEnds_65 : decode cX6_fillFromEnds 65 = .ok (.istore 6, 2) := by decide +kernel
theorem dX6_fillFromEnds_67 : decode cX6_fillFromEnds 67 = .ok (.iload 4, 2) := by decide +kernel
theorem dX6_fillFromEnds_69 : decode cX6_fillFromEnds 69 = .ok (.iload 5, 2) := by decide +kernel
theorem dX6_fillFromEnds_71 : decode cX6_fillFromEnds 71 = .ok (.invokestatic 124, 3) := by decide +kernel
theorem dX6_fillFromEnds_74 : decode cX6_fillFromEnds 74 = .ok (.istore 7, 2) := by decide +kernel
theorem dX6_fillFromEnds_76 : decode cX6_fillFromEnds 76 = .ok (.iload_n 2, 1) := by decide +kernel
theorem dX6_fillFromEnds_77 : decode cX6_fillFromEnds 77 = .ok (.bipush 7, 2) := by decide +kernel
theorem dX6_fillFromEnds_79 : decode cX6_fillFromEnds 79 = .ok (.if_icmp .ne 25, 3) := by decide +kernel
theorem dX6_fillFromEnds_82 : decode cX6_fillFromEnds 82 = .ok (.aload_n 0, 1) := by decide +kernel
theorem dX6_fillFromEnds_83 : decode cX6_fillFromEnds 83 = .ok (.getfield 18, 3) := by decide +kernel
theorem dX6_fillFromEnds_86 : decode cX6_fillFromEnds 86 = .ok (.iload_n 3, 1) := by decide +kernel
theorem dX6_fillFromEnds_87 : decode cX6_fillFromEnds 87 = .ok (.iaload, 1) := by decide +kernel
theorem dX6_fillFromEnds_88 : decode cX6_fillFromEnds 88 = .ok (.iconst (-1), 1) := by decide +kernel
theorem dX6_fillFromEnds_89 : decode cX6_fillFromEnds 89 = .ok (.if_icmp .gt 15, 3) := by decide +kernel
theorem dX6_fillFromEnds_92 : decode cX6_fillFromEnds 92 = .ok (.aload_n 0, 1) := by decide +kernel
theorem dX6_fillFromEnds_93 : decode cX6_fillFromEnds 93 = .ok (.getfield 22, 3) := by decide +kernel
theorem dX6_fillFromEnds_96 : decode cX6_fillFromEnds 96 = .ok (.iload_n 3, 1) := by decide +kernel
theorem dX6_fillFromEnds_97 : decode cX6_fillFromEnds 97 = .ok (.iaload, 1) := by decide +kernel
theorem dX6_fillFromEnds_98 : decode cX6_fillFromEnds 98 = .ok (.ifCond .lt 6, 3) := by decide +kernel
theorem dX6_fillFromEnds_101 : decode cX6_fillFromEnds 101 = .ok (.iconst 0, 1) := by decide +kernel
theorem dX6_fillFromEnds_102 : decode cX6_fillFromEnds 102 = .ok (.istore 6, 2) := by decide +kernel
theorem dX6_fillFromEnds_104 : decode cX6_fillFromEnds 104 = .ok (.iload_n 2, 1) := by decide +kernel
theorem dX6_fillFromEnds_105 : decode cX6_fillFromEnds 105 = .ok (.bipush 13, 2) := by decide +kernel
theorem dX6_fillFromEnds_107 : decode cX6_fillFromEnds 107 = .ok (.if_icmp .ne 28, 3) := by decide +kernel
theorem dX6_fillFromEnds_110 : decode cX6_fillFromEnds 110 = .ok (.aload_n 0, 1) := by decide +kernel
theorem dX6_fillFromEnds_111 : decode cX6_fillFromEnds 111 = .ok (.getfield 15, 3) := by decide +kernel
theorem dX6_fillFromEnds_114 : decode cX6_fillFromEnds 114 = .ok (.iload_n 3, 1) := by decide +kernel
theorem dX6_fillFromEnds_115 : decode cX6_fillFromEnds 115 = .ok (.baload, 1) := by decide +kernel
theorem dX6_fillFromEnds_116 : decode cX6_fillFromEnds 116 = .ok (.ifCond .eq 19, 3) := by decide +kernel
theorem dX6_fillFromEnds_119 : decode cX6_fillFromEnds 119 = .ok (.iload 6, 2) := by decide +kernel
theorem dX6_fillFromEnds_121 : decode cX6_fillFromEnds 121 = .ok (.iconst 0, 1) := by decide +kernel
theorem dX6_fillFromEnds_122 : decode cX6_fillFromEnds 122 = .ok (.invokestatic 119, 3) := by decide +kernel
theorem dX6_fillFromEnds_125 : decode cX6_fillFromEnds 125 = .ok (.istore 6, 2) := by decide +kernel
theorem dX6_fillFromEnds_127 : decode cX6_fillFromEnds 127 = .ok (.iload 7, 2) := by decide +kernel
theorem dX6_fillFromEnds_129 : decode cX6_fillFromEnds 129 = .ok (.iconst 0, 1) := by decide +kernel
theorem dX6_fillFromEnds_130 : decode cX6_fillFromEnds 130 = .ok (.invokestatic 124, 3) := by decide +kernel
theorem dX6_fillFromEnds_133 : decode cX6_fillFromEnds 133 = .ok (.istore 7, 2) := by decide +kernel
theorem dX6_fillFromEnds_135 : decode cX6_fillFromEnds 135 = .ok (.aload_n 0, 1) := by decide +kernel
theorem dX6_fillFromEnds_136 : decode cX6_fillFromEnds 136 = .ok (.iload_n 1, 1) := by decide +kernel
theorem dX6_fillFromEnds_137 : decode cX6_fillFromEnds 137 = .ok (.iload 6, 2) := by decide +kernel
theorem dX6_fillFromEnds_139 : decode cX6_fillFromEnds 139 = .ok (.iload 7, 2) := by decide +kernel
theorem dX6_fillFromEnds_141 : decode cX6_fillFromEnds 141 = .ok (.aload_n 0, 1) := by decide +kernel
theorem dX6_fillFromEnds_142 : decode cX6_fillFromEnds 142 = .ok (.getfield 15, 3) := by decide +kernel
theorem dX6_fillFromEnds_145 : decode cX6_fillFromEnds 145 = .ok (.iload_n 3, 1) := by decide +kernel
theorem dX6_fillFromEnds_146 : decode cX6_fillFromEnds 146 = .ok (.baload, 1) := by decide +kernel
theorem dX6_fillFromEnds_147 : decode cX6_fillFromEnds 147 = .ok (.ifCond .eq 13, 3) := by decide +kernel
theorem dX6_fillFromEnds_150 : decode cX6_fillFromEnds 150 = .ok (.iload_n 2, 1) := by decide +kernel
theorem dX6_fillFromEnds_151 : decode cX6_fillFromEnds 151 = .ok (.bipush 13, 2) := by decide +kernel
theorem dX6_fillFromEnds_153 : decode cX6_fillFromEnds 153 = .ok (.if_icmp .eq 7, 3) := by decide +kernel
theorem dX6_fillFromEnds_156 : decode cX6_fillFromEnds 156 = .ok (.iconst 1, 1) := by decide +kernel
theorem dX6_fillFromEnds_157 : decode cX6_fillFromEnds 157 = .ok (.goto 4, 3) := by decide +kernel
theorem dX6_fillFromEnds_160 : decode cX6_fillFromEnds 160 = .ok (.iconst 0, 1) := by decide +kernel
theorem dX6_fillFromEnds_161 : decode cX6_fillFromEnds 161 = .ok (.invokevirtual 68, 3) := by decide +kernel
theorem dX6_fillFromEnds_164 : decode cX6_fillFromEnds 164 = .ok (.return_, 1) := by decide +kernel
theorem dX6_fillFromPairs_0 : decode cX6_fillFromPairs 0 = .ok (.iload_n 2, 1) := by decide +kernel
theorem dX6_fillFromPairs_1 : decode cX6_fillFromPairs 1 = .ok (.ifCond .eq 22, 3) := by decide +kernel
theorem dX6_fillFromPairs_4 : decode cX6_fillFromPairs 4 = .ok (.aload_n 0, 1) := by decide +kernel
theorem dX6_fillFromPairs_5 : decode cX6_fillFromPairs 5 = .ok (.getfield 18, 3) := by decide +kernel
theorem dX6_fillFromPairs_8 : decode cX6_fillFromPairs 8 = .ok (.iload_n 3, 1) := by decide +kernel
theorem dX6_fillFromPairs_9 : decode cX6_fillFromPairs 9 = .ok (.iaload, 1) := by decide +kernel
theorem dX6_fillFromPairs_10 : decode cX6_fillFromPairs 10 = .ok (.aload_n 0, 1) := by decide +kernel
theorem dX6_fillFromPairs_11 : decode cX6_fillFromPairs 11 = .ok (.getfield 18, 3) := by decide +kernel
theorem dX6_fillFromPairs_14 : decode cX6_fillFromPairs 14 = .ok (.iload 4, 2) := by decide +kernel
theorem dX6_fillFromPairs_16 : decode cX6_fillFromPairs 16 = .ok (.iaload, 1) := by decide +kernel
theorem dX6_fillFromPairs_17 : decode cX6_fillFromPairs 17 = .ok (.invokestatic 119, 3) := by decide +kernel
theorem dX6_fillFromPairs_20 : decode cX6_fillFromPairs 20 = .ok (.goto 19, 3) := by decide +kernel
theorem dX6_fillFromPairs_23 : decode cX6_fillFromPairs 23 = .ok (.aload_n 0, 1) := by decide +kernel
theorem dX6_fillFromPairs_24 : decode cX6_fillFromPairs 24 = .ok (.getfield 18, 3) := by decide +kernel
theorem dX6_fillFromPairs_27 : decode cX6_fillFromPairs 27 = .ok (.iload_n 3, 1) := by decide +kernel
theorem dX6_fillFromPairs_28 : decode cX6_fillFromPairs 28 = .ok (.iaload, 1) := by decide +kernel
theorem dX6_fillFromPairs_29 : decode cX6_fillFromPairs 29 = .ok (.aload_n 0, 1) := by decide +kernel
theorem dX6_fillFromPairs_30 : decode cX6_fillFromPairs 30 = .ok (.getfield 18, 3) := by decide +kernel
theorem dX6_fillFromPairs_33 : decode cX6_fillFromPairs 33 = .ok (.iload 4, 2) := by decide +kernel
theorem dX6_fillFromPairs_35 : decode cX6_fillFromPairs 35 = .ok (.iaload, 1) := by decide +kernel
theorem dX6_fillFromPairs_36 : decode cX6_fillFromPairs 36 = .ok (.invokestatic 124, 3) := by decide +kernel
theorem dX6_fillFromPairs_39 : decode cX6_fillFromPairs 39 = .ok (.istore 5, 2) := by decide +kernel
theorem dX6_fillFromPairs_41 : decode cX6_fillFromPairs 41 = .ok (.iload_n 2, 1) := by decide +kernel
theorem dX6_fillFromPairs_42 : decode cX6_fillFromPairs 42 = .ok (.ifCond .eq 22, 3) := by decide +kernel
theorem dX6_fillFromPairs_45 : decode cX6_fillFromPairs 45 = .ok (.aload_n 0, 1) := by decide +kernel
theorem dX6_fillFromPairs_46 : decode cX6_fillFromPairs 46 = .ok (.getfield 22, 3) := by decide +kernel
theorem dX6_fillFromPairs_49 : decode cX6_fillFromPairs 49 = .ok (.iload_n 3, 1) := by decide +kernel
theorem dX6_fillFromPairs_50 : decode cX6_fillFromPairs 50 = .ok (.iaload, 1) := by decide +kernel
theorem dX6_fillFromPairs_51 : decode cX6_fillFromPairs 51 = .ok (.aload_n 0, 1) := by decide +kernel
theorem dX6_fillFromPairs_52 : decode cX6_fillFromPairs 52 = .ok (.getfield 22, 3) := by decide +kernel
theorem dX6_fillFromPairs_55 : decode cX6_fillFromPairs 55 = .ok (.iload 4, 2) := by decide +kernel
theorem dX6_fillFromPairs_57 : decode cX6_fillFromPairs 57 = .ok (.iaload, 1) := by decide +kernel
theorem dX6_fillFromPairs_58 : decode cX6_fillFromPairs 58 = .ok (.invokestatic 119, 3) := by decide +kernel
theorem dX6_fillFromPairs_61 : decode cX6_fillFromPairs 61 = .ok (.goto 19, 3) := by decide +kernel
theorem dX6_fillFromPairs_64 : decode cX6_fillFromPairs 64 = .ok (.aload_n 0, 1) := by decide +kernel
theorem dX6_fillFromPairs_65 : decode cX6_fillFromPairs 65 = .ok (.getfield 22, 3) := by decide +kernel
theorem dX6_fillFromPairs_68 : decode cX6_fillFromPairs 68 = .ok (.iload_n 3, 1) := by decide +kernel
theorem dX6_fillFromPairs_69 : decode cX6_fillFromPairs 69 = .ok (.iaload, 1) := by decide +kernel
theorem dX6_fillFromPairs_70 : decode cX6_fillFromPairs 70 = .ok (.aload_n 0, 1) := by decide +kernel
theorem dX6_fillFromPairs_71 : decode cX6_fillFromPairs 71 = .ok (.getfield 22, 3) := by decide +kernel
theorem dX6_fillFromPairs_74 : decode cX6_fillFromPairs 74 = .ok (.iload 4, 2) := by decide +kernel
theorem dX6_fillFromPairs_76 : decode cX6_fillFromPairs 76 = .ok (.iaload, 1) := by decide +kernel
theorem dX6_fillFromPairs_77 : decode cX6_fillFromPairs 77 = .ok (.invokestatic 124, 3) := by decide +kernel
theorem dX6_fillFromPairs_80 : decode cX6_fillFromPairs 80 = .ok (.istore 6, 2) := by decide +kernel
theorem dX6_fillFromPairs_82 : decode cX6_fillFromPairs 82 = .ok (.aload_n 0, 1) := by decide +kernel
theorem dX6_fillFromPairs_83 : decode cX6_fillFromPairs 83 = .ok (.iload_n 1, 1) := by decide +kernel
theorem dX6_fillFromPairs_84 : decode cX6_fillFromPairs 84 = .ok (.iload 5, 2) := by decide +kernel
theorem dX6_fillFromPairs_86 : decode cX6_fillFromPairs 86 = .ok (.iload 6, 2) := by decide +kernel
theorem dX6_fillFromPairs_88 : decode cX6_fillFromPairs 88 = .ok (.aload_n 0, 1) := by decide +kernel
theorem dX6_fillFromPairs_89 : decode cX6_fillFromPairs 89 = .ok (.getfield 15, 3) := by decide +kernel
theorem dX6_fillFromPairs_92 : decode cX6_fillFromPairs 92 = .ok (.iload_n 3, 1) := by decide +kernel
theorem dX6_fillFromPairs_93 : decode cX6_fillFromPairs 93 = .ok (.baload, 1) := by decide +kernel
theorem dX6_fillFromPairs_94 : decode cX6_fillFromPairs 94 = .ok (.ifCond .ne 13, 3) := by decide +kernel
theorem dX6_fillFromPairs_97 : decode cX6_fillFromPairs 97 = .ok (.aload_n 0, 1) := by decide +kernel
theorem dX6_fillFromPairs_98 : decode cX6_fillFromPairs 98 = .ok (.getfield 15, 3) := by decide +kernel
theorem dX6_fillFromPairs_101 : decode cX6_fillFromPairs 101 = .ok (.iload 4, 2) := by decide +kernel
theorem dX6_fillFromPairs_103 : decode cX6_fillFromPairs 103 = .ok (.baload, 1) := by decide +kernel
theorem dX6_fillFromPairs_104 : decode cX6_fillFromPairs 104 = .ok (.ifCond .eq 7, 3) := by decide +kernel
theorem dX6_fillFromPairs_107 : decode cX6_fillFromPairs 107 = .ok (.iconst 1, 1) := by decide +kernel
theorem dX6_fillFromPairs_108 : decode cX6_fillFromPairs 108 = .ok (.goto 4, 3) := by decide +kernel
theorem dX6_fillFromPairs_111 : decode cX6_fillFromPairs 111 = .ok (.iconst 0, 1) := by decide +kernel
theorem dX6_fillFromPairs_112 : decode cX6_fillFromPairs 112 = .ok (.invokevirtual 68, 3) := by decide +kernel
theorem dX6_fillFromPairs_115 : decode cX6_fillFromPairs 115 = .ok (.return_, 1) := by decide +kernel
theorem dX6_fillFromCorners_0 : decode cX6_fillFromCorners 0 = .ok (.aload_n 0, 1) := by decide +kernel
theorem dX6_fillFromCorners_1 : decode cX6_fillFromCorners 1 = .ok (.iload_n 2, 1) := by decide +kernel
theorem dX6_fillFromCorners_2 : decode cX6_fillFromCorners 2 = .ok (.iload_n 3, 1) := by decide +kernel
theorem dX6_fillFromCorners_3 : decode cX6_fillFromCorners 3 = .ok (.iload 4, 2) := by decide +kernel
theorem dX6_fillFromCorners_5 : decode cX6_fillFromCorners 5 = .ok (.invokevirtual 127, 3) := by decide +kernel
theorem dX6_fillFromCorners_8 : decode cX6_fillFromCorners 8 = .ok (.ifCond .eq 9, 3) := by decide +kernel
theorem dX6_fillFromCorners_11 : decode cX6_fillFromCorners 11 = .ok (.aload_n 0, 1) := by decide +kernel
theorem dX6_fillFromCorners_12 : decode cX6_fillFromCorners 12 = .ok (.iload_n 1, 1) := by decide +kernel
theorem dX6_fillFromCorners_13 : decode cX6_fillFromCorners 13 = .ok (.invokevirtual 107, 3) := by decide +kernel
theorem dX6_fillFromCorners_16 : decode cX6_fillFromCorners 16 = .ok (.return_, 1) := by decide +kernel
theorem dX6_fillFromCorners_17 : decode cX6_fillFromCorners 17 = .ok (.ldc 96, 2) := by decide +kernel
theorem dX6_fillFromCorners_19 : decode cX6_fillFromCorners 19 = .ok (.istore 5, 2) := by decide +kernel
theorem dX6_fillFromCorners_21 : decode cX6_fillFromCorners 21 = .ok (.ldc 95, 2) := by decide +kernel
theorem dX6_fillFromCorners_23 : decode cX6_fillFromCorners 23 = .ok (.istore 6, 2) := by decide +kernel
theorem dX6_fillFromCorners_25 : decode cX6_fillFromCorners 25 = .ok (.iconst 0, 1) := by decide +kernel
theorem dX6_fillFromCorners_26 : decode cX6_fillFromCorners 26 = .ok (.istore 7, 2) := by decide +kernel
theorem dX6_fillFromCorners_28 : decode cX6_fillFromCorners 28 = .ok (.iload 7, 2) := by decide +kernel
theorem dX6_fillFromCorners_30 : decode cX6_fillFromCorners 30 = .ok (.iconst 4, 1) := by decide +kernel
theorem dX6_fillFromCorners_31 : decode cX6_fillFromCorners 31 = .ok (.if_icmp .ge 167, 3) := by decide +kernel
theorem dX6_fillFromCorners_34 : decode cX6_fillFromCorners 34 = .ok (.iload 7, 2) := by decide +kernel
theorem dX6_fillFromCorners_36 : decode cX6_fillFromCorners 36 = .ok (.iconst 1, 1) := by decide +kernel
theorem dX6_fillFromCorners_37 : decode cX6_fillFromCorners 37 = .ok (.iand, 1) := by decide +kernel
theorem dX6_fillFromCorners_38 : decode cX6_fillFromCorners 38 = .ok (.ifCond .eq 7, 3) := by decide +kernel
theorem dX6_fillFromCorners_41 : decode cX6_fillFromCorners 41 = .ok (.iconst 1, 1) := by decide +kernel
theorem dX6_fillFromCorners_42 : decode cX6_fillFromCorners 42 = .ok (.goto 4, 3) := by decide +kernel
theorem dX6_fillFromCorners_45 : decode cX6_fillFromCorners 45 = .ok (.iconst 0, 1) := by decide +kernel
theorem dX6_fillFromCorners_46 : decode cX6_fillFromCorners 46 = .ok (.istore 8, 2) := by decide +kernel
theorem dX6_fillFromCorners_48 : decode cX6_fillFromCorners 48 = .ok (.iload 7, 2) := by decide +kernel
theorem dX6_fillFromCorners_50 : decode cX6_fillFromCorners 50 = .ok (.iconst 2, 1) := by decide +kernel
theorem dX6_fillFromCorners_51 : decode cX6_fillFromCorners 51 = .ok (.iand, 1) := by decide +kernel
theorem dX6_fillFromCorners_52 : decode cX6_fillFromCorners 52 = .ok (.ifCond .eq 7, 3) := by decide +kernel
theorem dX6_fillFromCorners_55 : decode cX6_fillFromCorners 55 = .ok (.iconst 1, 1) := by decide +kernel
theorem dX6_fillFromCorners_56 : decode cX6_fillFromCorners 56 = .ok (.goto 4, 3) := by decide +kernel
theorem dX6_fillFromCorners_59 : decode cX6_fillFromCorners 59 = .ok (.iconst 0, 1) := by decide +kernel
theorem dX6_fillFromCorners_60 : decode cX6_fillFromCorners 60 = .ok (.istore 9, 2) := by decide +kernel
theorem dX6_fillFromCorners_62 : decode cX6_fillFromCorners 62 = .ok (.iload 8, 2) := by decide +kernel
theorem dX6_fillFromCorners_64 : decode cX6_fillFromCorners 64 = .ok (.ifCond .eq 11, 3) := by decide +kernel
theorem dX6_fillFromCorners_67 : decode cX6_fillFromCorners 67 = .ok (.aload_n 0, 1) := by decide +kernel
theorem dX6_fillFromCorners_68 : decode cX6_fillFromCorners 68 = .ok (.iload_n 3, 1) := by decide +kernel
theorem dX6_fillFromCorners_69 : decode cX6_fillFromCorners 69 = .ok (.invokevirtual 131, 3) := by decide +kernel
theorem dX6_fillFromCorners_72 : decode cX6_fillFromCorners 72 = .ok (.ifCond .ne 120, 3) := by decide +kernel
theorem dX6_fillFromCorners_75 : decode cX6_fillFromCorners 75 = .ok (.iload 9, 2) := by decide +kernel
theorem dX6_fillFromCorners_77 : decode cX6_fillFromCorners 77 = .ok (.ifCond .eq 15, 3) := by decide +kernel
theorem dX6_fillFromCorners_80 : decode cX6_fillFromCorners 80 = .ok (.aload_n 0, 1) := by decide +kernel
theorem dX6_fillFromCorners_81 : decode cX6_fillFromCorners 81 = .ok (.iload 4, 2) := by decide +kernel
theorem dX6_fillFromCorners_83 : decode cX6_fillFromCorners 83 = .ok (.invokevirtual 131, 3) := by decide +kernel
theorem dX6_fillFromCorners_86 : decode cX6_fillFromCorners 86 = .ok (.ifCond .eq 6, 3) := by decide +kernel
theorem dX6_fillFromCorners_89 : decode cX6_fillFromCorners 89 = .ok (.goto 103, 3) := by decide +kernel
theorem dX6_fillFromCorners_92 : decode cX6_fillFromCorners 92 = .ok (.iload 8, 2) := by decide +kernel
theorem dX6_fillFromCorners_94 : decode cX6_fillFromCorners 94 = .ok (.ifCond .eq 12, 3) := by decide +kernel
theorem dX6_fillFromCorners_97 : decode cX6_fillFromCorners 97 = .ok (.aload_n 0, 1) := by decide +kernel
theorem dX6_fillFromCorners_98 : decode cX6_fillFromCorners 98 = .ok (.getfield 22, 3) := by decide +kernel
theorem dX6_fillFromCorners_101 : decode cX6_fillFromCorners 101 = .ok (.iload_n 3, 1) := by decide +kernel
theorem dX6_fillFromCorners_102 : decode cX6_fillFromCorners 102 = .ok (.iaload, 1) := by decide +kernel
theorem dX6_fillFromCorners_103 : decode cX6_fillFromCorners 103 = .ok (.goto 9, 3) := by decide +kernel
theorem dX6_fillFromCorners_106 : decode cX6_fillFromCorners 106 = .ok (.aload_n 0, 1) := by decide +kernel
theorem dX6_fillFromCorners_107 : decode cX6_fillFromCorners 107 = .ok (.getfield 18, 3) := by decide +kernel
theorem dX6_fillFromCorners_110 : decode cX6_fillFromCorners 110 = .ok (.iload_n 3, 1) := by decide +kernel
theorem dX6_fillFromCorners_111 : decode cX6_fillFromCorners 111 = .ok (.iaload, 1) := by decide +kernel
theorem dX6_fillFromCorners_112 : decode cX6_fillFromCorners 112 = .ok (.invokestatic 110, 3) := by decide +kernel
theorem dX6_fillFromCorners_115 : decode cX6_fillFromCorners 115 = .ok (.istore 10, 2) := by decide +kernel
theorem dX6_fillFromCorners_117 : decode cX6_fillFromCorners 117 = .ok (.iload 9, 2) := by decide +kernel
theorem dX6_fillFromCorners_119 : decode cX6_fillFromCorners 119 = .ok (.ifCond .eq 13, 3) := by decide +kernel
theorem dX6_fillFromCorners_122 : decode cX6_fillFromCorners 122 = .ok (.aload_n 0, 1) := by decide +kernel
theorem dX6_fillFromCorners_123 : decode cX6_fillFromCorners 123 = .ok (.getfield 22, 3) := by decide +kernel
theorem dX6_fillFromCorners_126 : decode cX6_fillFromCorners 126 = .ok (.iload 4, 2) := by decide +kernel
theorem dX6_fillFromCorners_128 : decode cX6_fillFromCorners 128 = .ok (.iaload, 1) := by decide +kernel
theorem dX6_fillFromCorners_129 : decode cX6_fillFromCorners 129 = .ok (.goto 10, 3) := by decide +kernel
theorem dX6_fillFromCorners_132 : decode cX6_fillFromCorners 132 = .ok (.aload_n 0, 1) := by decide +kernel
theorem dX6_fillFromCorners_133 : decode cX6_fillFromCorners 133 = .ok (.getfield 18, 3) := by decide +kernel
theorem dX6_fillFromCorners_136 : decode cX6_fillFromCorners 136 = .ok (.iload 4, 2) := by decide +kernel
theorem dX6_fillFromCorners_138 : decode cX6_fillFromCorners 138 = .ok (.iaload, 1) := by decide +kernel
theorem dX6_fillFromCorners_139 : decode cX6_fillFromCorners 139 = .ok (.invokestatic 110, 3) := by decide +kernel
theorem dX6_fillFromCorners_142 : decode cX6_fillFromCorners 142 = .ok (.istore 11, 2) := by decide +kernel
theorem dX6_fillFromCorners_144 : decode cX6_fillFromCorners 144 = .ok (.iload_n 2, 1) := by decide +kernel
theorem dX6_fillFromCorners_145 : decode cX6_fillFromCorners 145 = .ok (.iload 10, 2) := by decide +kernel
theorem dX6_fillFromCorners_147 : decode cX6_fillFromCorners 147 = .ok (.iload 11, 2) := by decide +kernel
theorem dX6_fillFromCorners_149 : decode cX6_fillFromCorners 149 = .ok (.invokestatic 134, 3) := by decide +kernel
theorem dX6_fillFromCorners_152 : decode cX6_fillFromCorners 152 = .ok (.istore 12, 2) := by decide +kernel
theorem dX6_fillFromCorners_154 : decode cX6_fillFromCorners 154 = .ok (.iload 12, 2) := by decide +kernel
theorem dX6_fillFromCorners_156 : decode cX6_fillFromCorners 156 = .ok (.invokestatic 103, 3) := by decide +kernel
theorem dX6_fillFromCorners_159 : decode cX6_fillFromCorners 159 = .ok (.ifCond .eq 9, 3) := by decide +kernel
theorem dX6_fillFromCorners_162 : decode cX6_fillFromCorners 162 = .ok (.aload_n 0, 1) := by decide +kernel
theorem dX6_fillFromCorners_163 : decode cX6_fillFromCorners 163 = .ok (.iload_n 1, 1) := by decide +kernel
theorem dX6_fillFromCorners_164 : decode cX6_fillFromCorners 164 = .ok (.invokevirtual 107, 3) := by decide +kernel
theorem dX6_fillFromCorners_167 : decode cX6_fillFromCorners 167 = .ok (.return_, 1) := by decide +kernel
theorem dX6_fillFromCorners_168 : decode cX6_fillFromCorners 168 = .ok (.iload 5, 2) := by decide +kernel
theorem dX6_fillFromCorners_170 : decode cX6_fillFromCorners 170 = .ok (.iload 12, 2) := by decide +kernel
theorem dX6_fillFromCorners_172 : decode cX6_fillFromCorners 172 = .ok (.invokestatic 97, 3) := by decide +kernel
theorem dX6_fillFromCorners_175 : decode cX6_fillFromCorners 175 = .ok (.invokestatic 119, 3) := by decide +kernel
theorem dX6_fillFromCorners_178 : decode cX6_fillFromCorners 178 = .ok (.istore 5, 2) := by decide +kernel
theorem dX6_fillFromCorners_180 : decode cX6_fillFromCorners 180 = .ok (.iload 6, 2) := by decide +kernel
theorem dX6_fillFromCorners_182 : decode cX6_fillFromCorners 182 = .ok (.iload 12, 2) := by decide +kernel
theorem dX6_fillFromCorners_184 : decode cX6_fillFromCorners 184 = .ok (.invokestatic 97, 3) := by decide +kernel
theorem dX6_fillFromCorners_187 : decode cX6_fillFromCorners 187 = .ok (.invokestatic 124, 3) := by decide +kernel
theorem dX6_fillFromCorners_190 : decode cX6_fillFromCorners 190 = .ok (.istore 6, 2) := by decide +kernel
theorem dX6_fillFromCorners_192 : decode cX6_fillFromCorners 192 = .ok (.iinc 7 1, 3) := by decide +kernel
theorem dX6_fillFromCorners_195 : decode cX6_fillFromCorners 195 = .ok (.goto (-167), 3) := by decide +kernel
theorem dX6_fillFromCorners_198 : decode cX6_fillFromCorners 198 = .ok (.aload_n 0, 1) := by decide +kernel
theorem dX6_fillFromCorners_199 : decode cX6_fillFromCorners 199 = .ok (.iload_n 1, 1) := by decide +kernel
theorem dX6_fillFromCorners_200 : decode cX6_fillFromCorners 200 = .ok (.iload 5, 2) := by decide +kernel
theorem dX6_fillFromCorners_202 : decode cX6_fillFromCorners 202 = .ok (.iload 6, 2) := by decide +kernel
theorem dX6_fillFromCorners_204 : decode cX6_fillFromCorners 204 = .ok (.aload_n 0, 1) := by decide +kernel
theorem dX6_fillFromCorners_205 : decode cX6_fillFromCorners 205 = .ok (.getfield 15, 3) := by decide +kernel
theorem dX6_fillFromCorners_208 : decode cX6_fillFromCorners 208 = .ok (.iload_n 3, 1) := by decide +kernel
theorem dX6_fillFromCorners_209 : decode cX6_fillFromCorners 209 = .ok (.baload, 1) := by decide +kernel
theorem dX6_fillFromCorners_210 : decode cX6_fillFromCorners 210 = .ok (.ifCond .ne 13, 3) := by decide +kernel
theorem dX6_fillFromCorners_213 : decode cX6_fillFromCorners 213 = .ok (.aload_n 0, 1) := by decide +kernel
theorem dX6_fillFromCorners_214 : decode cX6_fillFromCorners 214 = .ok (.getfield 15, 3) := by decide +kernel
theorem dX6_fillFromCorners_217 : decode cX6_fillFromCorners 217 = .ok (.iload 4, 2) := by decide +kernel
theorem dX6_fillFromCorners_219 : decode cX6_fillFromCorners 219 = .ok (.baload, 1) := by decide +kernel
theorem dX6_fillFromCorners_220 : decode cX6_fillFromCorners 220 = .ok (.ifCond .eq 7, 3) := by decide +kernel
theorem dX6_fillFromCorners_223 : decode cX6_fillFromCorners 223 = .ok (.iconst 1, 1) := by decide +kernel
theorem dX6_fillFromCorners_224 : decode cX6_fillFromCorners 224 = .ok (.goto 4, 3) := by decide +kernel
theorem dX6_fillFromCorners_227 : decode cX6_fillFromCorners 227 = .ok (.iconst 0, 1) := by decide +kernel
theorem dX6_fillFromCorners_228 : decode cX6_fillFromCorners 228 = .ok (.invokevirtual 68, 3) := by decide +kernel
theorem dX6_fillFromCorners_231 : decode cX6_fillFromCorners 231 = .ok (.return_, 1) := by decide +kernel
theorem dX6_cornersTellTooLittle_0 : decode cX6_cornersTellTooLittle 0 = .ok (.iload_n 1, 1) := by decide +kernel
theorem dX6_cornersTellTooLittle_1 : decode cX6_cornersTellTooLittle 1 = .ok (.iconst 4, 1) := by decide +kernel
theorem dX6_cornersTellTooLittle_2 : decode cX6_cornersTellTooLittle 2 = .ok (.if_icmp .ne 41, 3) := by decide +kernel
theorem dX6_cornersTellTooLittle_5 : decode cX6_cornersTellTooLittle 5 = .ok (.aload_n 0, 1) := by decide +kernel
theorem dX6_cornersTellTooLittle_6 : decode cX6_cornersTellTooLittle 6 = .ok (.iload_n 2, 1) := by decide +kernel
theorem dX6_cornersTellTooLittle_7 : decode cX6_cornersTellTooLittle 7 = .ok (.invokevirtual 138, 3) := by decide +kernel
theorem dX6_cornersTellTooLittle_10 : decode cX6_cornersTellTooLittle 10 = .ok (.ifCond .eq 11, 3) := by decide +kernel
theorem dX6_cornersTellTooLittle_13 : decode cX6_cornersTellTooLittle 13 = .ok (.aload_n 0, 1) := by decide +kernel
theorem dX6_cornersTellTooLittle_14 : decode cX6_cornersTellTooLittle 14 = .ok (.iload_n 3, 1) := by decide +kernel
theorem dX6_cornersTellTooLittle_15 : decode cX6_cornersTellTooLittle 15 = .ok (.invokevirtual 141, 3) := by decide +kernel
theorem dX6_cornersTellTooLittle_18 : decode cX6_cornersTellTooLittle 18 = .ok (.ifCond .ne 19, 3) := by decide +kernel
theorem dX6_cornersTellTooLittle_21 : decode cX6_cornersTellTooLittle 21 = .ok (.aload_n 0, 1) := by decide +kernel
theorem dX6_cornersTellTooLittle_22 : decode cX6_cornersTellTooLittle 22 = .ok (.iload_n 3, 1) := by decide +kernel
theorem dX6_cornersTellTooLittle_23 : decode cX6_cornersTellTooLittle 23 = .ok (.invokevirtual 138, 3) := by decide +kernel
theorem dX6_cornersTellTooLittle_26 : decode cX6_cornersTellTooLittle 26 = .ok (.ifCond .eq 15, 3) := by decide +kernel
theorem dX6_cornersTellTooLittle_29 : decode cX6_cornersTellTooLittle 29 = .ok (.aload_n 0, 1) := by decide +kernel
theorem dX6_cornersTellTooLittle_30 : decode cX6_cornersTellTooLittle 30 = .ok (.iload_n 2, 1) := by decide +kernel
theorem dX6_cornersTellTooLittle_31 : decode cX6_cornersTellTooLittle 31 = .ok (.invokevirtual 141, 3) := by decide +kernel
theorem dX6_cornersTellTooLittle_34 : decode cX6_cornersTellTooLittle 34 = .ok (.ifCond .eq 7, 3) := by decide +kernel
theorem dX6_cornersTellTooLittle_37 : decode cX6_cornersTellTooLittle 37 = .ok (.iconst 1, 1) := by decide +kernel
theorem dX6_cornersTellTooLittle_38 : decode cX6_cornersTellTooLittle 38 = .ok (.goto 4, 3) := by decide +kernel
theorem dX6_cornersTellTooLittle_41 : decode cX6_cornersTellTooLittle 41 = .ok (.iconst 0, 1) := by decide +kernel
theorem dX6_cornersTellTooLittle_42 : decode cX6_cornersTellTooLittle 42 = .ok (.ireturn, 1) := by decide +kernel
theorem dX6_cornersTellTooLittle_43 : decode cX6_cornersTellTooLittle 43 = .ok (.iload_n 1, 1) := by decide +kernel
theorem dX6_cornersTellTooLittle_44 : decode cX6_cornersTellTooLittle 44 = .ok (.iconst 5, 1) := by decide +kernel
theorem dX6_cornersTellTooLittle_45 : decode cX6_cornersTellTooLittle 45 = .ok (.if_icmp .ne 31, 3) := by decide +kernel
theorem dX6_cornersTellTooLittle_48 : decode cX6_cornersTellTooLittle 48 = .ok (.aload_n 0, 1) := by decide +kernel
theorem dX6_cornersTellTooLittle_49 : decode cX6_cornersTellTooLittle 49 = .ok (.iload_n 3, 1) := by decide +kernel
theorem dX6_cornersTellTooLittle_50 : decode cX6_cornersTellTooLittle 50 = .ok (.invokevirtual 138, 3) := by decide +kernel
theorem dX6_cornersTellTooLittle_53 : decode cX6_cornersTellTooLittle 53 = .ok (.ifCond .ne 19, 3) := by decide +kernel
theorem dX6_cornersTellTooLittle_56 : decode cX6_cornersTellTooLittle 56 = .ok (.aload_n 0, 1) := by decide +kernel
theorem dX6_cornersTellTooLittle_57 : decode cX6_cornersTellTooLittle 57 = .ok (.iload_n 2, 1) := by decide +kernel
theorem dX6_cornersTellTooLittle_58 : decode cX6_cornersTellTooLittle 58 = .ok (.invokevirtual 141, 3) := by decide +kernel
theorem dX6_cornersTellTooLittle_61 : decode cX6_cornersTellTooLittle 61 = .ok (.ifCond .eq 15, 3) := by decide +kernel
theorem dX6_cornersTellTooLittle_64 : decode cX6_cornersTellTooLittle 64 = .ok (.aload_n 0, 1) := by decide +kernel
theorem dX6_cornersTellTooLittle_65 : decode cX6_cornersTellTooLittle 65 = .ok (.iload_n 3, 1) := by decide +kernel
theorem dX6_cornersTellTooLittle_66 : decode cX6_cornersTellTooLittle 66 = .ok (.invokevirtual 141, 3) := by decide +kernel
theorem dX6_cornersTellTooLittle_69 : decode cX6_cornersTellTooLittle 69 = .ok (.ifCond .eq 7, 3) := by decide +kernel
theorem dX6_cornersTellTooLittle_72 : decode cX6_cornersTellTooLittle 72 = .ok (.iconst 1, 1) := by decide +kernel
theorem dX6_cornersTellTooLittle_73 : decode cX6_cornersTellTooLittle 73 = .ok (.goto 4, 3) := by decide +kernel
theorem dX6_cornersTellTooLittle_76 : decode cX6_cornersTellTooLittle 76 = .ok (.iconst 0, 1) := by decide +kernel
theorem dX6_cornersTellTooLittle_77 : decode cX6_cornersTellTooLittle 77 = .ok (.ireturn, 1) := by decide +kernel
theorem dX6_fillRemainder_0 : decode cX6_fillRemainder 0 = .ok (.aload_n 0, 1) := by decide +kernel
theorem dX6_fillRemainder_1 : decode cX6_fillRemainder 1 = .ok (.iload_n 2, 1) := by decide +kernel
theorem dX6_fillRemainder_2 : decode cX6_fillRemainder 2 = .ok (.invokevirtual 131, 3) := by decide +kernel
theorem dX6_fillRemainder_5 : decode cX6_fillRemainder 5 = .ok (.ifCond .eq 60, 3) := by decide +kernel
theorem dX6_fillRemainder_8 : decode cX6_fillRemainder 8 = .ok (.aload_n 0, 1) := by decide +kernel
theorem dX6_fillRemainder_9 : decode cX6_fillRemainder 9 = .ok (.iload_n 3, 1) := by decide +kernel
theorem dX6_fillRemainder_10 : decode cX6_fillRemainder 10 = .ok (.invokevirtual 131, 3) := by decide +kernel
theorem dX6_fillRemainder_13 : decode cX6_fillRemainder 13 = .ok (.ifCond .eq 52, 3) := by decide +kernel
theorem dX6_fillRemainder_16 : decode cX6_fillRemainder 16 = .ok (.aload_n 0, 1) := by decide +kernel
theorem dX6_fillRemainder_17 : decode cX6_fillRemainder 17 = .ok (.getfield 15, 3) := by decide +kernel
theorem dX6_fillRemainder_20 : decode cX6_fillRemainder 20 = .ok (.iload_n 2, 1) := by decide +kernel
theorem dX6_fillRemainder_21 : decode cX6_fillRemainder 21 = .ok (.baload, 1) := by decide +kernel
theorem dX6_fillRemainder_22 : decode cX6_fillRemainder 22 = .ok (.ifCond .ne 43, 3) := by decide +kernel
theorem dX6_fillRemainder_25 : decode cX6_fillRemainder 25 = .ok (.aload_n 0, 1) := by decide +kernel
theorem dX6_fillRemainder_26 : decode cX6_fillRemainder 26 = .ok (.getfield 15, 3) := by decide +kernel
theorem dX6_fillRemainder_29 : decode cX6_fillRemainder 29 = .ok (.iload_n 3, 1) := by decide +kernel
theorem dX6_fillRemainder_30 : decode cX6_fillRemainder 30 = .ok (.baload, 1) := by decide +kernel
theorem dX6_fillRemainder_31 : decode cX6_fillRemainder 31 = .ok (.ifCond .ne 34, 3) := by decide +kernel
theorem dX6_fillRemainder_34 : decode cX6_fillRemainder 34 = .ok (.aload_n 0, 1) := by decide +kernel
theorem dX6_fillRemainder_35 : decode cX6_fillRemainder 35 = .ok (.iload_n 1, 1) := by decide +kernel
theorem dX6_fillRemainder_36 : decode cX6_fillRemainder 36 = .ok (.bipush 14, 2) := by decide +kernel
theorem dX6_fillRemainder_38 : decode cX6_fillRemainder 38 = .ok (.aload_n 0, 1) := by decide +kernel
theorem dX6_fillRemainder_39 : decode cX6_fillRemainder 39 = .ok (.getfield 18, 3) := by decide +kernel
theorem dX6_fillRemainder_42 : decode cX6_fillRemainder 42 = .ok (.iload_n 2, 1) := by decide +kernel
theorem dX6_fillRemainder_43 : decode cX6_fillRemainder 43 = .ok (.iaload, 1) := by decide +kernel
theorem dX6_fillRemainder_44 : decode cX6_fillRemainder 44 = .ok (.invokestatic 110, 3) := by decide +kernel
theorem dX6_fillRemainder_47 : decode cX6_fillRemainder 47 = .ok (.aload_n 0, 1) := by decide +kernel
theorem dX6_fillRemainder_48 : decode cX6_fillRemainder 48 = .ok (.getfield 18, 3) := by decide +kernel
theorem dX6_fillRemainder_51 : decode cX6_fillRemainder 51 = .ok (.iload_n 3, 1) := by decide +kernel
theorem dX6_fillRemainder_52 : decode cX6_fillRemainder 52 = .ok (.iaload, 1) := by decide +kernel
theorem dX6_fillRemainder_53 : decode cX6_fillRemainder 53 = .ok (.invokestatic 110, 3) := by decide +kernel
theorem dX6_fillRemainder_56 : decode cX6_fillRemainder 56 = .ok (.invokestatic 134, 3) := by decide +kernel
theorem dX6_fillRemainder_59 : decode cX6_fillRemainder 59 = .ok (.invokevirtual 62, 3) := by decide +kernel
theorem dX6_fillRemainder_62 : decode cX6_fillRemainder 62 = .ok (.goto 8, 3) := by decide +kernel
theorem dX6_fillRemainder_65 : decode cX6_fillRemainder 65 = .ok (.aload_n 0, 1) := by decide +kernel
theorem dX6_fillRemainder_66 : decode cX6_fillRemainder 66 = .ok (.iload_n 1, 1) := by decide +kernel
theorem dX6_fillRemainder_67 : decode cX6_fillRemainder 67 = .ok (.invokevirtual 107, 3) := by decide +kernel
theorem dX6_fillRemainder_70 : decode cX6_fillRemainder 70 = .ok (.return_, 1) := by decide +kernel
theorem dX6_isPoint_0 : decode cX6_isPoint 0 = .ok (.aload_n 0, 1) := by decide +kernel
theorem dX6_isPoint_1 : decode cX6_isPoint 1 = .ok (.getfield 18, 3) := by decide +kernel
theorem dX6_isPoint_4 : decode cX6_isPoint 4 = .ok (.iload_n 1, 1) := by decide +kernel
theorem dX6_isPoint_5 : decode cX6_isPoint 5 = .ok (.iaload, 1) := by decide +kernel
theorem dX6_isPoint_6 : decode cX6_isPoint 6 = .ok (.aload_n 0, 1) := by decide +kernel
theorem dX6_isPoint_7 : decode cX6_isPoint 7 = .ok (.getfield 22, 3) := by decide +kernel
theorem dX6_isPoint_10 : decode cX6_isPoint 10 = .ok (.iload_n 1, 1) := by decide +kernel
theorem dX6_isPoint_11 : decode cX6_isPoint 11 = .ok (.iaload, 1) := by decide +kernel
theorem dX6_isPoint_12 : decode cX6_isPoint 12 = .ok (.if_icmp .ne 7, 3) := by decide +kernel
theorem dX6_isPoint_15 : decode cX6_isPoint 15 = .ok (.iconst 1, 1) := by decide +kernel
theorem dX6_isPoint_16 : decode cX6_isPoint 16 = .ok (.goto 4, 3) := by decide +kernel
theorem dX6_isPoint_19 : decode cX6_isPoint 19 = .ok (.iconst 0, 1) := by decide +kernel
theorem dX6_isPoint_20 : decode cX6_isPoint 20 = .ok (.ireturn, 1) := by decide +kernel
theorem dX6_hasZero_0 : decode cX6_hasZero 0 = .ok (.aload_n 0, 1) := by decide +kernel
theorem dX6_hasZero_1 : decode cX6_hasZero 1 = .ok (.getfield 18, 3) := by decide +kernel
theorem dX6_hasZero_4 : decode cX6_hasZero 4 = .ok (.iload_n 1, 1) := by decide +kernel
theorem dX6_hasZero_5 : decode cX6_hasZero 5 = .ok (.iaload, 1) := by decide +kernel
theorem dX6_hasZero_6 : decode cX6_hasZero 6 = .ok (.ifCond .gt 17, 3) := by decide +kernel
theorem dX6_hasZero_9 : decode cX6_hasZero 9 = .ok (.aload_n 0, 1) := by decide +kernel
theorem dX6_hasZero_10 : decode cX6_hasZero 10 = .ok (.getfield 22, 3) := by decide +kernel
theorem dX6_hasZero_13 : decode cX6_hasZero 13 = .ok (.iload_n 1, 1) := by decide +kernel
theorem dX6_hasZero_14 : decode cX6_hasZero 14 = .ok (.iaload, 1) := by decide +kernel
theorem dX6_hasZero_15 : decode cX6_hasZero 15 = .ok (.iconst (-1), 1) := by decide +kernel
theorem dX6_hasZero_16 : decode cX6_hasZero 16 = .ok (.if_icmp .lt 7, 3) := by decide +kernel
theorem dX6_hasZero_19 : decode cX6_hasZero 19 = .ok (.iconst 1, 1) := by decide +kernel
theorem dX6_hasZero_20 : decode cX6_hasZero 20 = .ok (.goto 4, 3) := by decide +kernel
theorem dX6_hasZero_23 : decode cX6_hasZero 23 = .ok (.iconst 0, 1) := by decide +kernel
theorem dX6_hasZero_24 : decode cX6_hasZero 24 = .ok (.ireturn, 1) := by decide +kernel
theorem dX6_endsInfinite_0 : decode cX6_endsInfinite 0 = .ok (.aload_n 0, 1) := by decide +kernel
theorem dX6_endsInfinite_1 : decode cX6_endsInfinite 1 = .ok (.getfield 18, 3) := by decide +kernel
theorem dX6_endsInfinite_4 : decode cX6_endsInfinite 4 = .ok (.iload_n 1, 1) := by decide +kernel
theorem dX6_endsInfinite_5 : decode cX6_endsInfinite 5 = .ok (.iaload, 1) := by decide +kernel
theorem dX6_endsInfinite_6 : decode cX6_endsInfinite 6 = .ok (.ldc 95, 2) := by decide +kernel
theorem dX6_endsInfinite_8 : decode cX6_endsInfinite 8 = .ok (.if_icmp .eq 14, 3) := by decide +kernel
theorem dX6_endsInfinite_11 : decode cX6_endsInfinite 11 = .ok (.aload_n 0, 1) := by decide +kernel
theorem dX6_endsInfinite_12 : decode cX6_endsInfinite 12 = .ok (.getfield 22, 3) := by decide +kernel
theorem dX6_endsInfinite_15 : decode cX6_endsInfinite 15 = .ok (.iload_n 1, 1) := by decide +kernel
theorem dX6_endsInfinite_16 : decode cX6_endsInfinite 16 = .ok (.iaload, 1) := by decide +kernel
theorem dX6_endsInfinite_17 : decode cX6_endsInfinite 17 = .ok (.ldc 96, 2) := by decide +kernel
theorem dX6_endsInfinite_19 : decode cX6_endsInfinite 19 = .ok (.if_icmp .ne 7, 3) := by decide +kernel
theorem dX6_endsInfinite_22 : decode cX6_endsInfinite 22 = .ok (.iconst 1, 1) := by decide +kernel
theorem dX6_endsInfinite_23 : decode cX6_endsInfinite 23 = .ok (.goto 4, 3) := by decide +kernel
theorem dX6_endsInfinite_26 : decode cX6_endsInfinite 26 = .ok (.iconst 0, 1) := by decide +kernel
theorem dX6_endsInfinite_27 : decode cX6_endsInfinite 27 = .ok (.ireturn, 1) := by decide +kernel
theorem dX7_init_0 : decode cX7_init 0 = .ok (.aload_n 0, 1) := by decide +kernel
theorem dX7_init_1 : decode cX7_init 1 = .ok (.invokespecial 7, 3) := by decide +kernel
theorem dX7_init_4 : decode cX7_init 4 = .ok (.aload_n 0, 1) := by decide +kernel
theorem dX7_init_5 : decode cX7_init 5 = .ok (.new 13, 3) := by decide +kernel
theorem dX7_init_8 : decode cX7_init 8 = .ok (.dup, 1) := by decide +kernel
theorem dX7_init_9 : decode cX7_init 9 = .ok (.invokespecial 15, 3) := by decide +kernel
theorem dX7_init_12 : decode cX7_init 12 = .ok (.putfield 16, 3) := by decide +kernel
theorem dX7_init_15 : decode cX7_init 15 = .ok (.aload_n 0, 1) := by decide +kernel
theorem dX7_init_16 : decode cX7_init 16 = .ok (.new 20, 3) := by decide +kernel
theorem dX7_init_19 : decode cX7_init 19 = .ok (.dup, 1) := by decide +kernel
theorem dX7_init_20 : decode cX7_init 20 = .ok (.invokespecial 22, 3) := by decide +kernel
theorem dX7_init_23 : decode cX7_init 23 = .ok (.putfield 23, 3) := by decide +kernel
theorem dX7_init_26 : decode cX7_init 26 = .ok (.aload_n 0, 1) := by decide +kernel
theorem dX7_init_27 : decode cX7_init 27 = .ok (.new 27, 3) := by decide +kernel
theorem dX7_init_30 : decode cX7_init 30 = .ok (.dup, 1) := by decide +kernel
theorem dX7_init_31 : decode cX7_init 31 = .ok (.invokespecial 29, 3) := by decide +kernel
theorem dX7_init_34 : decode cX7_init 34 = .ok (.putfield 30, 3) := by decide +kernel
theorem dX7_init_37 : decode cX7_init 37 = .ok (.aload_n 0, 1) := by decide +kernel
theorem dX7_init_38 : decode cX7_init 38 = .ok (.iconst 4, 1) := by decide +kernel
theorem dX7_init_39 : decode cX7_init 39 = .ok (.newarray .int, 2) := by decide +kernel
theorem dX7_init_41 : decode cX7_init 41 = .ok (.putfield 34, 3) := by decide +kernel
theorem dX7_init_44 : decode cX7_init 44 = .ok (.aload_n 0, 1) := by decide +kernel
theorem dX7_init_45 : decode cX7_init 45 = .ok (.new 38, 3) := by decide +kernel
theorem dX7_init_48 : decode cX7_init 48 = .ok (.dup, 1) := by decide +kernel
theorem dX7_init_49 : decode cX7_init 49 = .ok (.aload_n 0, 1) := by decide +kernel
theorem dX7_init_50 : decode cX7_init 50 = .ok (.getfield 16, 3) := by decide +kernel
theorem dX7_init_53 : decode cX7_init 53 = .ok (.invokespecial 40, 3) := by decide +kernel
theorem dX7_init_56 : decode cX7_init 56 = .ok (.putfield 43, 3) := by decide +kernel
theorem dX7_init_59 : decode cX7_init 59 = .ok (.aload_n 0, 1) := by decide +kernel
theorem dX7_init_60 : decode cX7_init 60 = .ok (.new 47, 3) := by decide +kernel
theorem dX7_init_63 : decode cX7_init 63 = .ok (.dup, 1) := by decide +kernel
theorem dX7_init_64 : decode cX7_init 64 = .ok (.aload_n 0, 1) := by decide +kernel
theorem dX7_init_65 : decode cX7_init 65 = .ok (.getfield 16, 3) := by decide +kernel
theorem dX7_init_68 : decode cX7_init 68 = .ok (.aload_n 0, 1) := by decide +kernel
theorem dX7_init_69 : decode cX7_init 69 = .ok (.getfield 23, 3) := by decide +kernel
theorem dX7_init_72 : decode cX7_init 72 = .ok (.aload_n 0, 1) := by decide +kernel
theorem dX7_init_73 : decode cX7_init 73 = .ok (.getfield 43, 3) := by decide +kernel
theorem dX7_init_76 : decode cX7_init 76 = .ok (.aload_n 0, 1) := by decide +kernel
theorem dX7_init_77 : decode cX7_init 77 = .ok (.getfield 30, 3) := by decide +kernel
theorem dX7_init_80 : decode cX7_init 80 = .ok (.invokespecial 49, 3) := by decide +kernel
theorem dX7_init_83 : decode cX7_init 83 = .ok (.putfield 52, 3) := by decide +kernel
theorem dX7_init_86 : decode cX7_init 86 = .ok (.return_, 1) := by decide +kernel
theorem dX7_node_0 : decode cX7_node 0 = .ok (.iload_n 1, 1) := by decide +kernel
theorem dX7_node_1 : decode cX7_node 1 = .ok (.ifCond .lt 9, 3) := by decide +kernel
theorem dX7_node_4 : decode cX7_node 4 = .ok (.iload_n 1, 1) := by decide +kernel
theorem dX7_node_5 : decode cX7_node 5 = .ok (.bipush 15, 2) := by decide +kernel
theorem dX7_node_7 : decode cX7_node 7 = .ok (.if_icmp .le 6, 3) := by decide +kernel
theorem dX7_node_10 : decode cX7_node 10 = .ok (.bipush (-2), 2) := by decide +kernel
theorem dX7_node_12 : decode cX7_node 12 = .ok (.ireturn, 1) := by decide +kernel
theorem dX7_node_13 : decode cX7_node 13 = .ok (.iload_n 1, 1) := by decide +kernel
theorem dX7_node_14 : decode cX7_node 14 = .ok (.iconst 1, 1) := by decide +kernel
theorem dX7_node_15 : decode cX7_node 15 = .ok (.if_icmp .ne 12, 3) := by decide +kernel
theorem dX7_node_18 : decode cX7_node 18 = .ok (.iload_n 2, 1) := by decide +kernel
theorem dX7_node_19 : decode cX7_node 19 = .ok (.invokestatic 56, 3) := by decide +kernel
theorem dX7_node_22 : decode cX7_node 22 = .ok (.ifCond .ne 5, 3) := by decide +kernel
theorem dX7_node_25 : decode cX7_node 25 = .ok (.iconst (-1), 1) := by decide +kernel
theorem dX7_node_26 : decode cX7_node 26 = .ok (.ireturn, 1) := by decide +kernel
theorem dX7_node_27 : decode cX7_node 27 = .ok (.iload_n 1, 1) := by decide +kernel
theorem dX7_node_28 : decode cX7_node 28 = .ok (.invokestatic 60, 3) := by decide +kernel
theorem dX7_node_31 : decode cX7_node 31 = .ok (.ifCond .eq 16, 3) := by decide +kernel
theorem dX7_node_34 : decode cX7_node 34 = .ok (.aload_n 0, 1) := by decide +kernel
theorem dX7_node_35 : decode cX7_node 35 = .ok (.getfield 16, 3) := by decide +kernel
theorem dX7_node_38 : decode cX7_node 38 = .ok (.iload_n 2, 1) := by decide +kernel
theorem dX7_node_39 : decode cX7_node 39 = .ok (.invokevirtual 63, 3) := by decide +kernel
theorem dX7_node_42 : decode cX7_node 42 = .ok (.ifCond .ne 5, 3) := by decide +kernel
theorem dX7_node_45 : decode cX7_node 45 = .ok (.iconst (-1), 1) := by decide +kernel
theorem dX7_node_46 : decode cX7_node 46 = .ok (.ireturn, 1) := by decide +kernel
theorem dX7_node_47 : decode cX7_node 47 = .ok (.iload_n 1, 1) := by decide +kernel
theorem dX7_node_48 : decode cX7_node 48 = .ok (.invokestatic 66, 3) := by decide +kernel
theorem dX7_node_51 : decode cX7_node 51 = .ok (.ifCond .eq 16, 3) := by decide +kernel
theorem dX7_node_54 : decode cX7_node 54 = .ok (.aload_n 0, 1) := by decide +kernel
theorem dX7_node_55 : decode cX7_node 55 = .ok (.getfield 16, 3) := by decide +kernel
theorem dX7_node_58 : decode cX7_node 58 = .ok (.iload_n 3, 1) := by decide +kernel
theorem dX7_node_59 : decode cX7_node 59 = .ok (.invokevirtual 63, 3) := by decide +kernel
theorem dX7_node_62 : decode cX7_node 62 = .ok (.ifCond .ne 5, 3) := by decide +kernel
theorem dX7_node_65 : decode cX7_node 65 = .ok (.iconst (-1), 1) := by decide +kernel
theorem dX7_node_66 : decode cX7_node 66 = .ok (.ireturn, 1) := by decide +kernel
theorem dX7_node_67 : decode cX7_node 67 = .ok (.aload_n 0, 1) := by decide +kernel
theorem dX7_node_68 : decode cX7_node 68 = .ok (.getfield 16, 3) := by decide +kernel
theorem dX7_node_71 : decode cX7_node 71 = .ok (.getfield 69, 3) := by decide +kernel
theorem dX7_node_74 : decode cX7_node 74 = .ok (.bipush 40, 2) := by decide +kernel
theorem dX7_node_76 : decode cX7_node 76 = .ok (.if_icmp .ne 8, 3) := by decide +kernel
theorem dX7_node_79 : decode cX7_node 79 = .ok (.bipush (-4), 2) := by decide +kernel
theorem dX7_node_81 : decode cX7_node 81 = .ok (.goto 13, 3) := by decide +kernel
theorem dX7_node_84 : decode cX7_node 84 = .ok (.aload_n 0, 1) := by decide +kernel
theorem dX7_node_85 : decode cX7_node 85 = .ok (.getfield 16, 3) := by decide +kernel
theorem dX7_node_88 : decode cX7_node 88 = .ok (.iload_n 1, 1) := by decide +kernel
theorem dX7_node_89 : decode cX7_node 89 = .ok (.iload_n 2, 1) := by decide +kernel
theorem dX7_node_90 : decode cX7_node 90 = .ok (.iload_n 3, 1) := by decide +kernel
theorem dX7_node_91 : decode cX7_node 91 = .ok (.invokevirtual 73, 3) := by decide +kernel
theorem dX7_node_94 : decode cX7_node 94 = .ok (.ireturn, 1) := by decide +kernel
theorem dX7_rule_0 : decode cX7_rule 0 = .ok (.iload_n 1, 1) := by decide +kernel
theorem dX7_rule_1 : decode cX7_rule 1 = .ok (.iconst 4, 1) := by decide +kernel
theorem dX7_rule_2 : decode cX7_rule 2 = .ok (.if_icmp .eq 12, 3) := by decide +kernel
theorem dX7_rule_5 : decode cX7_rule 5 = .ok (.iload_n 1, 1) := by decide +kernel
theorem dX7_rule_6 : decode cX7_rule 6 = .ok (.iconst 5, 1) := by decide +kernel
theorem dX7_rule_7 : decode cX7_rule 7 = .ok (.if_icmp .eq 7, 3) := by decide +kernel
theorem dX7_rule_10 : decode cX7_rule 10 = .ok (.iconst 1, 1) := by decide +kernel
theorem dX7_rule_11 : decode cX7_rule 11 = .ok (.goto 4, 3) := by decide +kernel
theorem dX7_rule_14 : decode cX7_rule 14 = .ok (.iconst 0, 1) := by decide +kernel
theorem dX7_rule_15 : decode cX7_rule 15 = .ok (.istore 4, 2) := by decide +kernel
theorem dX7_rule_17 : decode cX7_rule 17 = .ok (.aload_n 0, 1) := by decide +kernel
theorem dX7_rule_18 : decode cX7_rule 18 = .ok (.getfield 16, 3) := by decide +kernel
theorem dX7_rule_21 : decode cX7_rule 21 = .ok (.iload_n 2, 1) := by decide +kernel
theorem dX7_rule_22 : decode cX7_rule 22 = .ok (.invokevirtual 63, 3) := by decide +kernel
theorem dX7_rule_25 : decode cX7_rule 25 = .ok (.ifCond .eq 19, 3) := by decide +kernel
theorem dX7_rule_28 : decode cX7_rule 28 = .ok (.iload 4, 2) := by decide +kernel
theorem dX7_rule_30 : decode cX7_rule 30 = .ok (.ifCond .eq 16, 3) := by decide +kernel
theorem dX7_rule_33 : decode cX7_rule 33 = .ok (.aload_n 0, 1) := by decide +kernel
theorem dX7_rule_34 : decode cX7_rule 34 = .ok (.getfield 16, 3) := by decide +kernel
theorem dX7_rule_37 : decode cX7_rule 37 = .ok (.iload_n 3, 1) := by decide +kernel
theorem dX7_rule_38 : decode cX7_rule 38 = .ok (.invokevirtual 63, 3) := by decide +kernel
theorem dX7_rule_41 : decode cX7_rule 41 = .ok (.ifCond .ne 5, 3) := by decide +kernel
theorem dX7_rule_44 : decode cX7_rule 44 = .ok (.iconst (-1), 1) := by decide +kernel
theorem dX7_rule_45 : decode cX7_rule 45 = .ok (.ireturn, 1) := by decide +kernel
theorem dX7_rule_46 : decode cX7_rule 46 = .ok (.iload_n 1, 1) := by decide +kernel
theorem dX7_rule_47 : decode cX7_rule 47 = .ok (.ifCond .lt 8, 3) := by decide +kernel
theorem dX7_rule_50 : decode cX7_rule 50 = .ok (.iload_n 1, 1) := by decide +kernel
theorem dX7_rule_51 : decode cX7_rule 51 = .ok (.iconst 5, 1) := by decide +kernel
theorem dX7_rule_52 : decode cX7_rule 52 = .ok (.if_icmp .le 6, 3) := by decide +kernel
theorem dX7_rule_55 : decode cX7_rule 55 = .ok (.bipush (-2), 2) := by decide +kernel
theorem dX7_rule_57 : decode cX7_rule 57 = .ok (.ireturn, 1) := by decide +kernel
theorem dX7_rule_58 : decode cX7_rule 58 = .ok (.aload_n 0, 1) := by decide +kernel
theorem dX7_rule_59 : decode cX7_rule 59 = .ok (.getfield 23, 3) := by decide +kernel
theorem dX7_rule_62 : decode cX7_rule 62 = .ok (.getfield 77, 3) := by decide +kernel
theorem dX7_rule_65 : decode cX7_rule 65 = .ok (.bipush 12, 2) := by decide +kernel
theorem dX7_rule_67 : decode cX7_rule 67 = .ok (.if_icmp .ne 8, 3) := by decide +kernel
theorem dX7_rule_70 : decode cX7_rule 70 = .ok (.bipush (-4), 2) := by decide +kernel
theorem dX7_rule_72 : decode cX7_rule 72 = .ok (.goto 22, 3) := by decide +kernel
theorem dX7_rule_75 : decode cX7_rule 75 = .ok (.aload_n 0, 1) := by decide +kernel
theorem dX7_rule_76 : decode cX7_rule 76 = .ok (.getfield 23, 3) := by decide +kernel
theorem dX7_rule_79 : decode cX7_rule 79 = .ok (.iload_n 1, 1) := by decide +kernel
theorem dX7_rule_80 : decode cX7_rule 80 = .ok (.iload_n 2, 1) := by decide +kernel
theorem dX7_rule_81 : decode cX7_rule 81 = .ok (.iload 4, 2) := by decide +kernel
theorem dX7_rule_83 : decode cX7_rule 83 = .ok (.ifCond .eq 7, 3) := by decide +kernel
theorem dX7_rule_86 : decode cX7_rule 86 = .ok (.iload_n 3, 1) := by decide +kernel
theorem dX7_rule_87 : decode cX7_rule 87 = .ok (.goto 4, 3) := by decide +kernel
theorem dX7_rule_90 : decode cX7_rule 90 = .ok (.iload_n 2, 1) := by decide +kernel
theorem dX7_rule_91 : decode cX7_rule 91 = .ok (.invokevirtual 78, 3) := by decide +kernel
theorem dX7_rule_94 : decode cX7_rule 94 = .ok (.ireturn, 1) := by decide +kernel
theorem dX7_noRules_0 : decode cX7_noRules 0 = .ok (.aload_n 0, 1) := by decide +kernel
theorem dX7_noRules_1 : decode cX7_noRules 1 = .ok (.getfield 23, 3) := by decide +kernel
theorem dX7_noRules_4 : decode cX7_noRules 4 = .ok (.invokevirtual 79, 3) := by decide +kernel
theorem dX7_noRules_7 : decode cX7_noRules 7 = .ok (.ireturn, 1) := by decide +kernel
theorem dX7_range_0 : decode cX7_range 0 = .ok (.iload_n 1, 1) := by decide +kernel
theorem dX7_range_1 : decode cX7_range 1 = .ok (.invokestatic 56, 3) := by decide +kernel
theorem dX7_range_4 : decode cX7_range 4 = .ok (.ifCond .ne 5, 3) := by decide +kernel
theorem dX7_range_7 : decode cX7_range 7 = .ok (.iconst (-1), 1) := by decide +kernel
theorem dX7_range_8 : decode cX7_range 8 = .ok (.ireturn, 1) := by decide +kernel
theorem dX7_range_9 : decode cX7_range 9 = .ok (.iload_n 2, 1) := by decide +kernel
theorem dX7_range_10 : decode cX7_range 10 = .ok (.invokestatic 83, 3) := by decide +kernel
theorem dX7_range_13 : decode cX7_range 13 = .ok (.ifCond .eq 15, 3) := by decide +kernel
theorem dX7_range_16 : decode cX7_range 16 = .ok (.iload_n 3, 1) := by decide +kernel
theorem dX7_range_17 : decode cX7_range 17 = .ok (.invokestatic 83, 3) := by decide +kernel
theorem dX7_range_20 : decode cX7_range 20 = .ok (.ifCond .eq 8, 3) := by decide +kernel
theorem dX7_range_23 : decode cX7_range 23 = .ok (.iload_n 2, 1) := by decide +kernel
theorem dX7_range_24 : decode cX7_range 24 = .ok (.iload_n 3, 1) := by decide +kernel
theorem dX7_range_25 : decode cX7_range 25 = .ok (.if_icmp .le 6, 3) := by decide +kernel
theorem dX7_range_28 : decode cX7_range 28 = .ok (.bipush (-2), 2) := by decide +kernel
theorem dX7_range_30 : decode cX7_range 30 = .ok (.ireturn, 1) := by decide +kernel
theorem dX7_range_31 : decode cX7_range 31 = .ok (.aload_n 0, 1) := by decide +kernel
theorem dX7_range_32 : decode cX7_range 32 = .ok (.getfield 30, 3) := by decide +kernel
theorem dX7_range_35 : decode cX7_range 35 = .ok (.iload_n 1, 1) := by decide +kernel
theorem dX7_range_36 : decode cX7_range 36 = .ok (.iload_n 2, 1) := by decide +kernel
theorem dX7_range_37 : decode cX7_range 37 = .ok (.iload_n 3, 1) := by decide +kernel
theorem dX7_range_38 : decode cX7_range 38 = .ok (.invokevirtual 86, 3) := by decide +kernel
theorem dX7_range_41 : decode cX7_range 41 = .ok (.iconst 1, 1) := by decide +kernel
theorem dX7_range_42 : decode cX7_range 42 = .ok (.ireturn, 1) := by decide +kernel
theorem dX7_set_0 : decode cX7_set 0 = .ok (.iload_n 1, 1) := by decide +kernel
theorem dX7_set_1 : decode cX7_set 1 = .ok (.invokestatic 56, 3) := by decide +kernel
theorem dX7_set_4 : decode cX7_set 4 = .ok (.ifCond .ne 5, 3) := by decide +kernel
theorem dX7_set_7 : decode cX7_set 7 = .ok (.iconst (-1), 1) := by decide +kernel
theorem dX7_set_8 : decode cX7_set 8 = .ok (.ireturn, 1) := by decide +kernel
theorem dX7_set_9 : decode cX7_set 9 = .ok (.iload_n 2, 1) := by decide +kernel
theorem dX7_set_10 : decode cX7_set 10 = .ok (.invokestatic 83, 3) := by decide +kernel
theorem dX7_set_13 : decode cX7_set 13 = .ok (.ifCond .ne 6, 3) := by decide +kernel
theorem dX7_set_16 : decode cX7_set 16 = .ok (.bipush (-2), 2) := by decide +kernel
theorem dX7_set_18 : decode cX7_set 18 = .ok (.ireturn, 1) := by decide +kernel
theorem dX7_set_19 : decode cX7_set 19 = .ok (.aload_n 0, 1) := by decide +kernel
theorem dX7_set_20 : decode cX7_set 20 = .ok (.getfield 34, 3) := by decide +kernel
theorem dX7_set_23 : decode cX7_set 23 = .ok (.iload_n 1, 1) := by decide +kernel
theorem dX7_set_24 : decode cX7_set 24 = .ok (.iload_n 2, 1) := by decide +kernel
theorem dX7_set_25 : decode cX7_set 25 = .ok (.iastore, 1) := by decide +kernel
theorem dX7_set_26 : decode cX7_set 26 = .ok (.iconst 1, 1) := by decide +kernel
theorem dX7_set_27 : decode cX7_set 27 = .ok (.ireturn, 1) := by decide +kernel
theorem dX7_place_0 : decode cX7_place 0 = .ok (.iload_n 1, 1) := by decide +kernel
theorem dX7_place_1 : decode cX7_place 1 = .ok (.invokestatic 90, 3) := by decide +kernel
theorem dX7_place_4 : decode cX7_place 4 = .ok (.ifCond .eq 9, 3) := by decide +kernel
theorem dX7_place_7 : decode cX7_place 7 = .ok (.ldc2_w 95, 3) := by decide +kernel
theorem dX7_place_10 : decode cX7_place 10 = .ok (.goto 8, 3) := by decide +kernel
theorem dX7_place_13 : decode cX7_place 13 = .ok (.iload_n 1, 1) := by decide +kernel
theorem dX7_place_14 : decode cX7_place 14 = .ok (.invokestatic 97, 3) := by decide +kernel
theorem dX7_place_17 : decode cX7_place 17 = .ok (.i2l, 1) := by decide +kernel
theorem dX7_place_18 : decode cX7_place 18 = .ok (.lreturn, 1) := by decide +kernel
theorem dX7_bits_0 : decode cX7_bits 0 = .ok (.iload_n 1, 1) := by decide +kernel
theorem dX7_bits_1 : decode cX7_bits 1 = .ok (.invokestatic 83, 3) := by decide +kernel
theorem dX7_bits_4 : decode cX7_bits 4 = .ok (.ifCond .eq 11, 3) := by decide +kernel
theorem dX7_bits_7 : decode cX7_bits 7 = .ok (.iload_n 1, 1) := by decide +kernel
theorem dX7_bits_8 : decode cX7_bits 8 = .ok (.invokestatic 101, 3) := by decide +kernel
theorem dX7_bits_11 : decode cX7_bits 11 = .ok (.i2l, 1) := by decide +kernel
theorem dX7_bits_12 : decode cX7_bits 12 = .ok (.goto 6, 3) := by decide +kernel
theorem dX7_bits_15 : decode cX7_bits 15 = .ok (.ldc2_w 95, 3) := by decide +kernel
theorem dX7_bits_18 : decode cX7_bits 18 = .ok (.lreturn, 1) := by decide +kernel
theorem dX7_value_0 : decode cX7_value 0 = .ok (.aload_n 0, 1) := by decide +kernel
theorem dX7_value_1 : decode cX7_value 1 = .ok (.getfield 16, 3) := by decide +kernel
theorem dX7_value_4 : decode cX7_value 4 = .ok (.iload_n 1, 1) := by decide +kernel
theorem dX7_value_5 : decode cX7_value 5 = .ok (.invokevirtual 63, 3) := by decide +kernel
theorem dX7_value_8 : decode cX7_value 8 = .ok (.ifCond .ne 7, 3) := by decide +kernel
theorem dX7_value_11 : decode cX7_value 11 = .ok (.ldc2_w 95, 3) := by decide +kernel
theorem dX7_value_14 : decode cX7_value 14 = .ok (.lreturn, 1) := by decide +kernel
theorem dX7_value_15 : decode cX7_value 15 = .ok (.aload_n 0, 1) := by decide +kernel
theorem dX7_value_16 : decode cX7_value 16 = .ok (.getfield 16, 3) := by decide +kernel
theorem dX7_value_19 : decode cX7_value 19 = .ok (.aload_n 0, 1) := by decide +kernel
theorem dX7_value_20 : decode cX7_value 20 = .ok (.getfield 34, 3) := by decide +kernel
theorem dX7_value_23 : decode cX7_value 23 = .ok (.invokevirtual 104, 3) := by decide +kernel
theorem dX7_value_26 : decode cX7_value 26 = .ok (.aload_n 0, 1) := by decide +kernel
theorem dX7_value_27 : decode cX7_value 27 = .ok (.getfield 16, 3) := by decide +kernel
theorem dX7_value_30 : decode cX7_value 30 = .ok (.getfield 108, 3) := by decide +kernel
theorem dX7_value_33 : decode cX7_value 33 = .ok (.iload_n 1, 1) := by decide +kernel
theorem dX7_value_34 : decode cX7_value 34 = .ok (.iaload, 1) := by decide +kernel
theorem dX7_value_35 : decode cX7_value 35 = .ok (.i2l, 1) := by decide +kernel
theorem dX7_value_36 : decode cX7_value 36 = .ok (.lreturn, 1) := by decide +kernel
theorem dX7_holds_0 : decode cX7_holds 0 = .ok (.aload_n 0, 1) := by decide +kernel
theorem dX7_holds_1 : decode cX7_holds 1 = .ok (.getfield 23, 3) := by decide +kernel
theorem dX7_holds_4 : decode cX7_holds 4 = .ok (.iload_n 1, 1) := by decide +kernel
theorem dX7_holds_5 : decode cX7_holds 5 = .ok (.invokevirtual 111, 3) := by decide +kernel
theorem dX7_holds_8 : decode cX7_holds 8 = .ok (.ifCond .ne 5, 3) := by decide +kernel
theorem dX7_holds_11 : decode cX7_holds 11 = .ok (.iconst (-1), 1) := by decide +kernel
theorem dX7_holds_12 : decode cX7_holds 12 = .ok (.ireturn, 1) := by decide +kernel
theorem dX7_holds_13 : decode cX7_holds 13 = .ok (.aload_n 0, 1) := by decide +kernel
theorem dX7_holds_14 : decode cX7_holds 14 = .ok (.getfield 16, 3) := by decide +kernel
theorem dX7_holds_17 : decode cX7_holds 17 = .ok (.aload_n 0, 1) := by decide +kernel
theorem dX7_holds_18 : decode cX7_holds 18 = .ok (.getfield 34, 3) := by decide +kernel
theorem dX7_holds_21 : decode cX7_holds 21 = .ok (.invokevirtual 104, 3) := by decide +kernel
theorem dX7_holds_24 : decode cX7_holds 24 = .ok (.aload_n 0, 1) := by decide +kernel
theorem dX7_holds_25 : decode cX7_holds 25 = .ok (.getfield 23, 3) := by decide +kernel
theorem dX7_holds_28 : decode cX7_holds 28 = .ok (.iload_n 1, 1) := by decide +kernel
theorem dX7_holds_29 : decode cX7_holds 29 = .ok (.aload_n 0, 1) := by decide +kernel
theorem dX7_holds_30 : decode cX7_holds 30 = .ok (.getfield 16, 3) := by decide +kernel
theorem dX7_holds_33 : decode cX7_holds 33 = .ok (.getfield 108, 3) := by decide +kernel
theorem dX7_holds_36 : decode cX7_holds 36 = .ok (.invokevirtual 112, 3) := by decide +kernel
theorem dX7_holds_39 : decode cX7_holds 39 = .ok (.ifCond .eq 7, 3) := by decide +kernel
theorem dX7_holds_42 : decode cX7_holds 42 = .ok (.iconst 1, 1) := by decide +kernel
theorem dX7_holds_43 : decode cX7_holds 43 = .ok (.goto 4, 3) := by decide +kernel
theorem dX7_holds_46 : decode cX7_holds 46 = .ok (.iconst 0, 1) := by decide +kernel
theorem dX7_holds_47 : decode cX7_holds 47 = .ok (.ireturn, 1) := by decide +kernel
theorem dX7_span_0 : decode cX7_span 0 = .ok (.aload_n 0, 1) := by decide +kernel
theorem dX7_span_1 : decode cX7_span 1 = .ok (.getfield 16, 3) := by decide +kernel
theorem dX7_span_4 : decode cX7_span 4 = .ok (.iload_n 1, 1) := by decide +kernel
theorem dX7_span_5 : decode cX7_span 5 = .ok (.invokevirtual 63, 3) := by decide +kernel
theorem dX7_span_8 : decode cX7_span 8 = .ok (.ifCond .ne 7, 3) := by decide +kernel
theorem dX7_span_11 : decode cX7_span 11 = .ok (.ldc2_w 95, 3) := by decide +kernel
theorem dX7_span_14 : decode cX7_span 14 = .ok (.lreturn, 1) := by decide +kernel
theorem dX7_span_15 : decode cX7_span 15 = .ok (.aload_n 0, 1) := by decide +kernel
theorem dX7_span_16 : decode cX7_span 16 = .ok (.getfield 43, 3) := by decide +kernel
theorem dX7_span_19 : decode cX7_span 19 = .ok (.aload_n 0, 1) := by decide +kernel
theorem dX7_span_20 : decode cX7_span 20 = .ok (.getfield 30, 3) := by decide +kernel
theorem dX7_span_23 : decode cX7_span 23 = .ok (.aload_n 0, 1) := by decide +kernel
theorem dX7_span_24 : decode cX7_span 24 = .ok (.getfield 16, 3) := by decide +kernel
theorem dX7_span_27 : decode cX7_span 27 = .ok (.getfield 116, 3) := by decide +kernel
theorem dX7_span_30 : decode cX7_span 30 = .ok (.iload_n 1, 1) := by decide +kernel
theorem dX7_span_31 : decode cX7_span 31 = .ok (.laload, 1) := by decide +kernel
theorem dX7_span_32 : decode cX7_span 32 = .ok (.invokevirtual 120, 3) := by decide +kernel
theorem dX7_span_35 : decode cX7_span 35 = .ok (.iload_n 2, 1) := by decide +kernel
theorem dX7_span_36 : decode cX7_span 36 = .ok (.tableswitch 126 0 3 #[32, 50, 79, 108], 32) := by decide +kernel
theorem dX7_span_68 : decode cX7_span 68 = .ok (.aload_n 0, 1) := by decide +kernel
theorem dX7_span_69 : decode cX7_span 69 = .ok (.getfield 43, 3) := by decide +kernel
theorem dX7_span_72 : decode cX7_span 72 = .ok (.getfield 124, 3) := by decide +kernel
theorem dX7_span_75 : decode cX7_span 75 = .ok (.iload_n 1, 1) := by decide +kernel
theorem dX7_span_76 : decode cX7_span 76 = .ok (.baload, 1) := by decide +kernel
theorem dX7_span_77 : decode cX7_span 77 = .ok (.ifCond .eq 7, 3) := by decide +kernel
theorem dX7_span_80 : decode cX7_span 80 = .ok (.lconst 1, 1) := by decide +kernel
theorem dX7_span_81 : decode cX7_span 81 = .ok (.goto 4, 3) := by decide +kernel
theorem dX7_span_84 : decode cX7_span 84 = .ok (.lconst 0, 1) := by decide +kernel
theorem dX7_span_85 : decode cX7_span 85 = .ok (.lreturn, 1) := by decide +kernel
theorem dX7_span_86 : decode cX7_span 86 = .ok (.aload_n 0, 1) := by decide +kernel
theorem dX7_span_87 : decode cX7_span 87 = .ok (.getfield 43, 3) := by decide +kernel
theorem dX7_span_90 : decode cX7_span 90 = .ok (.getfield 124, 3) := by decide +kernel
theorem dX7_span_93 : decode cX7_span 93 = .ok (.iload_n 1, 1) := by decide +kernel
theorem dX7_span_94 : decode cX7_span 94 = .ok (.baload, 1) := by decide +kernel
theorem dX7_span_95 : decode cX7_span 95 = .ok (.ifCond .eq 16, 3) := by decide +kernel
theorem dX7_span_98 : decode cX7_span 98 = .ok (.aload_n 0, 1) := by decide +kernel
theorem dX7_span_99 : decode cX7_span 99 = .ok (.getfield 43, 3) := by decide +kernel
theorem dX7_span_102 : decode cX7_span 102 = .ok (.getfield 128, 3) := by decide +kernel
theorem dX7_span_105 : decode cX7_span 105 = .ok (.iload_n 1, 1) := by decide +kernel
theorem dX7_span_106 : decode cX7_span 106 = .ok (.iaload, 1) := by decide +kernel
theorem dX7_span_107 : decode cX7_span 107 = .ok (.i2l, 1) := by decide +kernel
theorem dX7_span_108 : decode cX7_span 108 = .ok (.goto 6, 3) := by decide +kernel
theorem dX7_span_111 : decode cX7_span 111 = .ok (.ldc2_w 95, 3) := by decide +kernel
theorem dX7_span_114 : decode cX7_span 114 = .ok (.lreturn, 1) := by decide +kernel
theorem dX7_span_115 : decode cX7_span 115 = .ok (.aload_n 0, 1) := by decide +kernel
theorem dX7_span_116 : decode cX7_span 116 = .ok (.getfield 43, 3) := by decide +kernel
theorem dX7_span_119 : decode cX7_span 119 = .ok (.getfield 124, 3) := by decide +kernel
theorem dX7_span_122 : decode cX7_span 122 = .ok (.iload_n 1, 1) := by decide +kernel
theorem dX7_span_123 : decode cX7_span 123 = .ok (.baload, 1) := by decide +kernel
theorem dX7_span_124 : decode cX7_span 124 = .ok (.ifCond .eq 16, 3) := by decide +kernel
theorem dX7_span_127 : decode cX7_span 127 = .ok (.aload_n 0, 1) := by decide +kernel
theorem dX7_span_128 : decode cX7_span 128 = .ok (.getfield 43, 3) := by decide +kernel
theorem dX7_span_131 : decode cX7_span 131 = .ok (.getfield 131, 3) := by decide +kernel
theorem dX7_span_134 : decode cX7_span 134 = .ok (.iload_n 1, 1) := by decide +kernel
theorem dX7_span_135 : decode cX7_span 135 = .ok (.iaload, 1) := by decide +kernel
theorem dX7_span_136 : decode cX7_span 136 = .ok (.i2l, 1) := by decide +kernel
theorem dX7_span_137 : decode cX7_span 137 = .ok (.goto 6, 3) := by decide +kernel
theorem dX7_span_140 : decode cX7_span 140 = .ok (.ldc2_w 95, 3) := by decide +kernel
theorem dX7_span_143 : decode cX7_span 143 = .ok (.lreturn, 1) := by decide +kernel
theorem dX7_span_144 : decode cX7_span 144 = .ok (.aload_n 0, 1) := by decide +kernel
theorem dX7_span_145 : decode cX7_span 145 = .ok (.getfield 43, 3) := by decide +kernel
theorem dX7_span_148 : decode cX7_span 148 = .ok (.getfield 134, 3) := by decide +kernel
theorem dX7_span_151 : decode cX7_span 151 = .ok (.iload_n 1, 1) := by decide +kernel
theorem dX7_span_152 : decode cX7_span 152 = .ok (.baload, 1) := by decide +kernel
theorem dX7_span_153 : decode cX7_span 153 = .ok (.ifCond .eq 7, 3) := by decide +kernel
theorem dX7_span_156 : decode cX7_span 156 = .ok (.lconst 1, 1) := by decide +kernel
theorem dX7_span_157 : decode cX7_span 157 = .ok (.goto 4, 3) := by decide +kernel
theorem dX7_span_160 : decode cX7_span 160 = .ok (.lconst 0, 1) := by decide +kernel
theorem dX7_span_161 : decode cX7_span 161 = .ok (.lreturn, 1) := by decide +kernel
theorem dX7_span_162 : decode cX7_span 162 = .ok (.ldc2_w 95, 3) := by decide +kernel
theorem dX7_span_165 : decode cX7_span 165 = .ok (.lreturn, 1) := by decide +kernel
theorem dX7_judge_0 : decode cX7_judge 0 = .ok (.aload_n 0, 1) := by decide +kernel
theorem dX7_judge_1 : decode cX7_judge 1 = .ok (.getfield 23, 3) := by decide +kernel
theorem dX7_judge_4 : decode cX7_judge 4 = .ok (.iload_n 1, 1) := by decide +kernel
theorem dX7_judge_5 : decode cX7_judge 5 = .ok (.invokevirtual 111, 3) := by decide +kernel
theorem dX7_judge_8 : decode cX7_judge 8 = .ok (.ifCond .ne 5, 3) := by decide +kernel
theorem dX7_judge_11 : decode cX7_judge 11 = .ok (.iconst (-1), 1) := by decide +kernel
theorem dX7_judge_12 : decode cX7_judge 12 = .ok (.ireturn, 1) := by decide +kernel
theorem dX7_judge_13 : decode cX7_judge 13 = .ok (.aload_n 0, 1) := by decide +kernel
theorem dX7_judge_14 : decode cX7_judge 14 = .ok (.getfield 43, 3) := by decide +kernel
theorem dX7_judge_17 : decode cX7_judge 17 = .ok (.aload_n 0, 1) := by decide +kernel
theorem dX7_judge_18 : decode cX7_judge 18 = .ok (.getfield 30, 3) := by decide +kernel
theorem dX7_judge_21 : decode cX7_judge 21 = .ok (.aload_n 0, 1) := by decide +kernel
theorem dX7_judge_22 : decode cX7_judge 22 = .ok (.getfield 23, 3) := by decide +kernel
theorem dX7_judge_25 : decode cX7_judge 25 = .ok (.iload_n 1, 1) := by decide +kernel
theorem dX7_judge_26 : decode cX7_judge 26 = .ok (.aload_n 0, 1) := by decide +kernel
theorem dX7_judge_27 : decode cX7_judge 27 = .ok (.getfield 16, 3) := by decide +kernel
theorem dX7_judge_30 : decode cX7_judge 30 = .ok (.invokevirtual 137, 3) := by decide +kernel
theorem dX7_judge_33 : decode cX7_judge 33 = .ok (.invokevirtual 120, 3) := by decide +kernel
theorem dX7_judge_36 : decode cX7_judge 36 = .ok (.aload_n 0, 1) := by decide +kernel
theorem dX7_judge_37 : decode cX7_judge 37 = .ok (.getfield 23, 3) := by decide +kernel
theorem dX7_judge_40 : decode cX7_judge 40 = .ok (.iload_n 1, 1) := by decide +kernel
theorem dX7_judge_41 : decode cX7_judge 41 = .ok (.aload_n 0, 1) := by decide +kernel
theorem dX7_judge_42 : decode cX7_judge 42 = .ok (.getfield 43, 3) := by decide +kernel
theorem dX7_judge_45 : decode cX7_judge 45 = .ok (.invokevirtual 141, 3) := by decide +kernel
theorem dX7_judge_48 : decode cX7_judge 48 = .ok (.ireturn, 1) := by decide +kernel
theorem dX7_solve_0 : decode cX7_solve 0 = .ok (.iload_n 1, 1) := by decide +kernel
theorem dX7_solve_1 : decode cX7_solve 1 = .ok (.iconst 1, 1) := by decide +kernel
theorem dX7_solve_2 : decode cX7_solve 2 = .ok (.if_icmp .lt 10, 3) := by decide +kernel
theorem dX7_solve_5 : decode cX7_solve 5 = .ok (.iload_n 1, 1) := by decide +kernel
theorem dX7_solve_6 : decode cX7_solve 6 = .ok (.sipush 5000, 3) := by decide +kernel
theorem dX7_solve_9 : decode cX7_solve 9 = .ok (.if_icmp .le 6, 3) := by decide +kernel
theorem dX7_solve_12 : decode cX7_solve 12 = .ok (.bipush (-2), 2) := by decide +kernel
theorem dX7_solve_14 : decode cX7_solve 14 = .ok (.ireturn, 1) := by decide +kernel
theorem dX7_solve_15 : decode cX7_solve 15 = .ok (.aload_n 0, 1) := by decide +kernel
theorem dX7_solve_16 : decode cX7_solve 16 = .ok (.getfield 52, 3) := by decide +kernel
theorem dX7_solve_19 : decode cX7_solve 19 = .ok (.iload_n 1, 1) := by decide +kernel
theorem dX7_solve_20 : decode cX7_solve 20 = .ok (.invokevirtual 145, 3) := by decide +kernel
theorem dX7_solve_23 : decode cX7_solve 23 = .ok (.ireturn, 1) := by decide +kernel
theorem dX7_solved_0 : decode cX7_solved 0 = .ok (.aload_n 0, 1) := by decide +kernel
theorem dX7_solved_1 : decode cX7_solved 1 = .ok (.getfield 52, 3) := by decide +kernel
theorem dX7_solved_4 : decode cX7_solved 4 = .ok (.getfield 148, 3) := by decide +kernel
theorem dX7_solved_7 : decode cX7_solved 7 = .ok (.ifCond .ne 7, 3) := by decide +kernel
theorem dX7_solved_10 : decode cX7_solved 10 = .ok (.ldc2_w 95, 3) := by decide +kernel
theorem dX7_solved_13 : decode cX7_solved 13 = .ok (.lreturn, 1) := by decide +kernel
theorem dX7_solved_14 : decode cX7_solved 14 = .ok (.iload_n 1, 1) := by decide +kernel
theorem dX7_solved_15 : decode cX7_solved 15 = .ok (.tableswitch 52 0 2 #[25, 34, 43], 25) := by decide +kernel
theorem dX7_solved_40 : decode cX7_solved 40 = .ok (.aload_n 0, 1) := by decide +kernel
theorem dX7_solved_41 : decode cX7_solved 41 = .ok (.getfield 52, 3) := by decide +kernel
theorem dX7_solved_44 : decode cX7_solved 44 = .ok (.getfield 152, 3) := by decide +kernel
theorem dX7_solved_47 : decode cX7_solved 47 = .ok (.i2l, 1) := by decide +kernel
theorem dX7_solved_48 : decode cX7_solved 48 = .ok (.lreturn, 1) := by decide +kernel
theorem dX7_solved_49 : decode cX7_solved 49 = .ok (.aload_n 0, 1) := by decide +kernel
theorem dX7_solved_50 : decode cX7_solved 50 = .ok (.getfield 52, 3) := by decide +kernel
theorem dX7_solved_53 : decode cX7_solved 53 = .ok (.getfield 155, 3) := by decide +kernel
theorem dX7_solved_56 : decode cX7_solved 56 = .ok (.i2l, 1) := by decide +kernel
theorem dX7_solved_57 : decode cX7_solved 57 = .ok (.lreturn, 1) := by decide +kernel
theorem dX7_solved_58 : decode cX7_solved 58 = .ok (.aload_n 0, 1) := by decide +kernel
theorem dX7_solved_59 : decode cX7_solved 59 = .ok (.getfield 52, 3) := by decide +kernel
theorem dX7_solved_62 : decode cX7_solved 62 = .ok (.getfield 158, 3) := by decide +kernel
theorem dX7_solved_65 : decode cX7_solved 65 = .ok (.i2l, 1) := by decide +kernel
theorem dX7_solved_66 : decode cX7_solved 66 = .ok (.lreturn, 1) := by decide +kernel
theorem dX7_solved_67 : decode cX7_solved 67 = .ok (.iload_n 1, 1) := by decide +kernel
theorem dX7_solved_68 : decode cX7_solved 68 = .ok (.iconst 3, 1) := by decide +kernel
theorem dX7_solved_69 : decode cX7_solved 69 = .ok (.isub, 1) := by decide +kernel
theorem dX7_solved_70 : decode cX7_solved 70 = .ok (.invokestatic 56, 3) := by decide +kernel
theorem dX7_solved_73 : decode cX7_solved 73 = .ok (.ifCond .eq 32, 3) := by decide +kernel
theorem dX7_solved_76 : decode cX7_solved 76 = .ok (.aload_n 0, 1) := by decide +kernel
theorem dX7_solved_77 : decode cX7_solved 77 = .ok (.getfield 52, 3) := by decide +kernel
theorem dX7_solved_80 : decode cX7_solved 80 = .ok (.getfield 152, 3) := by decide +kernel
theorem dX7_solved_83 : decode cX7_solved 83 = .ok (.iconst 1, 1) := by decide +kernel
theorem dX7_solved_84 : decode cX7_solved 84 = .ok (.if_icmp .ne 21, 3) := by decide +kernel
theorem dX7_solved_87 : decode cX7_solved 87 = .ok (.aload_n 0, 1) := by decide +kernel
theorem dX7_solved_88 : decode cX7_solved 88 = .ok (.getfield 52, 3) := by decide +kernel
theorem dX7_solved_91 : decode cX7_solved 91 = .ok (.getfield 161, 3) := by decide +kernel
theorem dX7_solved_94 : decode cX7_solved 94 = .ok (.getfield 164, 3) := by decide +kernel
theorem dX7_solved_97 : decode cX7_solved 97 = .ok (.iload_n 1, 1) := by decide +kernel
theorem dX7_solved_98 : decode cX7_solved 98 = .ok (.iconst 3, 1) := by decide +kernel
theorem dX7_solved_99 : decode cX7_solved 99 = .ok (.isub, 1) := by decide +kernel
theorem dX7_solved_100 : decode cX7_solved 100 = .ok (.iaload, 1) := by decide +kernel
theorem dX7_solved_101 : decode cX7_solved 101 = .ok (.i2l, 1) := by decide +kernel
theorem dX7_solved_102 : decode cX7_solved 102 = .ok (.goto 6, 3) := by decide +kernel
theorem dX7_solved_105 : decode cX7_solved 105 = .ok (.ldc2_w 95, 3) := by decide +kernel
theorem dX7_solved_108 : decode cX7_solved 108 = .ok (.lreturn, 1) := by decide +kernel
theorem dX7_width_0 : decode cX7_width 0 = .ok (.iload_n 1, 1) := by decide +kernel
theorem dX7_width_1 : decode cX7_width 1 = .ok (.invokestatic 56, 3) := by decide +kernel
theorem dX7_width_4 : decode cX7_width 4 = .ok (.ifCond .ne 7, 3) := by decide +kernel
theorem dX7_width_7 : decode cX7_width 7 = .ok (.ldc2_w 95, 3) := by decide +kernel
theorem dX7_width_10 : decode cX7_width 10 = .ok (.lreturn, 1) := by decide +kernel
theorem dX7_width_11 : decode cX7_width 11 = .ok (.iload_n 2, 1) := by decide +kernel
theorem dX7_width_12 : decode cX7_width 12 = .ok (.ifCond .ne 13, 3) := by decide +kernel
theorem dX7_width_15 : decode cX7_width 15 = .ok (.new 165, 3) := by decide +kernel
theorem dX7_width_18 : decode cX7_width 18 = .ok (.dup, 1) := by decide +kernel
theorem dX7_width_19 : decode cX7_width 19 = .ok (.ldc 167, 2) := by decide +kernel
theorem dX7_width_21 : decode cX7_width 21 = .ok (.invokespecial 169, 3) := by decide +kernel
theorem dX7_width_24 : decode cX7_width 24 = .ok (.athrow, 1) := by decide +kernel
theorem dX7_width_25 : decode cX7_width 25 = .ok (.aload_n 0, 1) := by decide +kernel
theorem dX7_width_26 : decode cX7_width 26 = .ok (.getfield 30, 3) := by decide +kernel
theorem dX7_width_29 : decode cX7_width 29 = .ok (.getfield 172, 3) := by decide +kernel
theorem dX7_width_32 : decode cX7_width 32 = .ok (.iload_n 1, 1) := by decide +kernel
theorem dX7_width_33 : decode cX7_width 33 = .ok (.iaload, 1) := by decide +kernel
theorem dX7_width_34 : decode cX7_width 34 = .ok (.i2l, 1) := by decide +kernel
theorem dX7_width_35 : decode cX7_width 35 = .ok (.aload_n 0, 1) := by decide +kernel
theorem dX7_width_36 : decode cX7_width 36 = .ok (.getfield 30, 3) := by decide +kernel
theorem dX7_width_39 : decode cX7_width 39 = .ok (.getfield 164, 3) := by decide +kernel
theorem dX7_width_42 : decode cX7_width 42 = .ok (.iload_n 1, 1) := by decide +kernel
theorem dX7_width_43 : decode cX7_width 43 = .ok (.iaload, 1) := by decide +kernel
theorem dX7_width_44 : decode cX7_width 44 = .ok (.i2l, 1) := by decide +kernel
theorem dX7_width_45 : decode cX7_width 45 = .ok (.lsub, 1) := by decide +kernel
theorem dX7_width_46 : decode cX7_width 46 = .ok (.lconst 1, 1) := by decide +kernel
theorem dX7_width_47 : decode cX7_width 47 = .ok (.ladd, 1) := by decide +kernel
theorem dX7_width_48 : decode cX7_width 48 = .ok (.iload_n 2, 1) := by decide +kernel
theorem dX7_width_49 : decode cX7_width 49 = .ok (.i2l, 1) := by decide +kernel
theorem dX7_width_50 : decode cX7_width 50 = .ok (.ldiv, 1) := by decide +kernel
theorem dX7_width_51 : decode cX7_width 51 = .ok (.lreturn, 1) := by decide +kernel
theorem dX7_isVariable_0 : decode cX7_isVariable 0 = .ok (.iload_n 0, 1) := by decide +kernel
theorem dX7_isVariable_1 : decode cX7_isVariable 1 = .ok (.ifCond .lt 12, 3) := by decide +kernel
theorem dX7_isVariable_4 : decode cX7_isVariable 4 = .ok (.iload_n 0, 1) := by decide +kernel
theorem dX7_isVariable_5 : decode cX7_isVariable 5 = .ok (.iconst 4, 1) := by decide +kernel
theorem dX7_isVariable_6 : decode cX7_isVariable 6 = .ok (.if_icmp .ge 7, 3) := by decide +kernel
theorem dX7_isVariable_9 : decode cX7_isVariable 9 = .ok (.iconst 1, 1) := by decide +kernel
theorem dX7_isVariable_10 : decode cX7_isVariable 10 = .ok (.goto 4, 3) := by decide +kernel
theorem dX7_isVariable_13 : decode cX7_isVariable 13 = .ok (.iconst 0, 1) := by decide +kernel
theorem dX7_isVariable_14 : decode cX7_isVariable 14 = .ok (.ireturn, 1) := by decide +kernel
theorem dX7_isPlace_0 : decode cX7_isPlace 0 = .ok (.iload_n 0, 1) := by decide +kernel
theorem dX7_isPlace_1 : decode cX7_isPlace 1 = .ok (.ldc 173, 2) := by decide +kernel
theorem dX7_isPlace_3 : decode cX7_isPlace 3 = .ok (.if_icmp .lt 13, 3) := by decide +kernel
theorem dX7_isPlace_6 : decode cX7_isPlace 6 = .ok (.iload_n 0, 1) := by decide +kernel
theorem dX7_isPlace_7 : decode cX7_isPlace 7 = .ok (.ldc 174, 2) := by decide +kernel
theorem dX7_isPlace_9 : decode cX7_isPlace 9 = .ok (.if_icmp .gt 7, 3) := by decide +kernel
theorem dX7_isPlace_12 : decode cX7_isPlace 12 = .ok (.iconst 1, 1) := by decide +kernel
theorem dX7_isPlace_13 : decode cX7_isPlace 13 = .ok (.goto 4, 3) := by decide +kernel
theorem dX7_isPlace_16 : decode cX7_isPlace 16 = .ok (.iconst 0, 1) := by decide +kernel
theorem dX7_isPlace_17 : decode cX7_isPlace 17 = .ok (.ireturn, 1) := by decide +kernel
theorem dX8_init_0 : decode cX8_init 0 = .ok (.aload_n 0, 1) := by decide +kernel
theorem dX8_init_1 : decode cX8_init 1 = .ok (.invokespecial 1, 3) := by decide +kernel
theorem dX8_init_4 : decode cX8_init 4 = .ok (.aload_n 0, 1) := by decide +kernel
theorem dX8_init_5 : decode cX8_init 5 = .ok (.bipush 40, 2) := by decide +kernel
theorem dX8_init_7 : decode cX8_init 7 = .ok (.newarray .int, 2) := by decide +kernel
theorem dX8_init_9 : decode cX8_init 9 = .ok (.putfield 7, 3) := by decide +kernel
theorem dX8_init_12 : decode cX8_init 12 = .ok (.aload_n 0, 1) := by decide +kernel
theorem dX8_init_13 : decode cX8_init 13 = .ok (.bipush 40, 2) := by decide +kernel
theorem dX8_init_15 : decode cX8_init 15 = .ok (.newarray .int, 2) := by decide +kernel
theorem dX8_init_17 : decode cX8_init 17 = .ok (.putfield 13, 3) := by decide +kernel
theorem dX8_init_20 : decode cX8_init 20 = .ok (.aload_n 0, 1) := by decide +kernel
theorem dX8_init_21 : decode cX8_init 21 = .ok (.bipush 40, 2) := by decide +kernel
theorem dX8_init_23 : decode cX8_init 23 = .ok (.newarray .int, 2) := by decide +kernel
theorem dX8_init_25 : decode cX8_init 25 = .ok (.putfield 16, 3) := by decide +kernel
theorem dX8_init_28 : decode cX8_init 28 = .ok (.aload_n 0, 1) := by decide +kernel
theorem dX8_init_29 : decode cX8_init 29 = .ok (.bipush 12, 2) := by decide +kernel
theorem dX8_init_31 : decode cX8_init 31 = .ok (.newarray .int, 2) := by decide +kernel
theorem dX8_init_33 : decode cX8_init 33 = .ok (.putfield 19, 3) := by decide +kernel
theorem dX8_init_36 : decode cX8_init 36 = .ok (.aload_n 0, 1) := by decide +kernel
theorem dX8_init_37 : decode cX8_init 37 = .ok (.bipush 12, 2) := by decide +kernel
theorem dX8_init_39 : decode cX8_init 39 = .ok (.newarray .int, 2) := by decide +kernel
theorem dX8_init_41 : decode cX8_init 41 = .ok (.putfield 22, 3) := by decide +kernel
theorem dX8_init_44 : decode cX8_init 44 = .ok (.aload_n 0, 1) := by decide +kernel
theorem dX8_init_45 : decode cX8_init 45 = .ok (.bipush 12, 2) := by decide +kernel
theorem dX8_init_47 : decode cX8_init 47 = .ok (.newarray .int, 2) := by decide +kernel
theorem dX8_init_49 : decode cX8_init 49 = .ok (.putfield 25, 3) := by decide +kernel
theorem dX8_init_52 : decode cX8_init 52 = .ok (.aload_n 0, 1) := by decide +kernel
theorem dX8_init_53 : decode cX8_init 53 = .ok (.iconst 4, 1) := by decide +kernel
theorem dX8_init_54 : decode cX8_init 54 = .ok (.newarray .long, 2) := by decide +kernel
theorem dX8_init_56 : decode cX8_init 56 = .ok (.putfield 28, 3) := by decide +kernel
theorem dX8_init_59 : decode cX8_init 59 = .ok (.aload_n 0, 1) := by decide +kernel
theorem dX8_init_60 : decode cX8_init 60 = .ok (.iconst 4, 1) := by decide +kernel
theorem dX8_init_61 : decode cX8_init 61 = .ok (.newarray .long, 2) := by decide +kernel
theorem dX8_init_63 : decode cX8_init 63 = .ok (.putfield 32, 3) := by decide +kernel
theorem dX8_init_66 : decode cX8_init 66 = .ok (.aload_n 0, 1) := by decide +kernel
theorem dX8_init_67 : decode cX8_init 67 = .ok (.iconst 4, 1) := by decide +kernel
theorem dX8_init_68 : decode cX8_init 68 = .ok (.newarray .long, 2) := by decide +kernel
theorem dX8_init_70 : decode cX8_init 70 = .ok (.putfield 35, 3) := by decide +kernel
theorem dX8_init_73 : decode cX8_init 73 = .ok (.aload_n 0, 1) := by decide +kernel
theorem dX8_init_74 : decode cX8_init 74 = .ok (.iconst 4, 1) := by decide +kernel
theorem dX8_init_75 : decode cX8_init 75 = .ok (.newarray .long, 2) := by decide +kernel
theorem dX8_init_77 : decode cX8_init 77 = .ok (.putfield 38, 3) := by decide +kernel
theorem dX8_init_80 : decode cX8_init 80 = .ok (.aload_n 0, 1) := by decide +kernel
theorem dX8_init_81 : decode cX8_init 81 = .ok (.bipush 40, 2) := by decide +kernel
theorem dX8_init_83 : decode cX8_init 83 = .ok (.newarray .long, 2) := by decide +kernel
theorem dX8_init_85 : decode cX8_init 85 = .ok (.putfield 41, 3) := by decide +kernel
theorem dX8_init_88 : decode cX8_init 88 = .ok (.aload_n 0, 1) := by decide +kernel
theorem dX8_init_89 : decode cX8_init 89 = .ok (.iconst 4, 1) := by decide +kernel
theorem dX8_init_90 : decode cX8_init 90 = .ok (.newarray .long, 2) := by decide +kernel
theorem dX8_init_92 : decode cX8_init 92 = .ok (.putfield 44, 3) := by decide +kernel
theorem dX8_init_95 : decode cX8_init 95 = .ok (.aload_n 0, 1) := by decide +kernel
theorem dX8_init_96 : decode cX8_init 96 = .ok (.iconst 4, 1) := by decide +kernel
theorem dX8_init_97 : decode cX8_init 97 = .ok (.newarray .long, 2) := by decide +kernel
theorem dX8_init_99 : decode cX8_init 99 = .ok (.putfield 47, 3) := by decide +kernel
theorem dX8_init_102 : decode cX8_init 102 = .ok (.aload_n 0, 1) := by decide +kernel
theorem dX8_init_103 : decode cX8_init 103 = .ok (.bipush 40, 2) := by decide +kernel
theorem dX8_init_105 : decode cX8_init 105 = .ok (.newarray .boolean, 2) := by decide +kernel
theorem dX8_init_107 : decode cX8_init 107 = .ok (.putfield 50, 3) := by decide +kernel
theorem dX8_init_110 : decode cX8_init 110 = .ok (.aload_n 0, 1) := by decide +kernel
theorem dX8_init_111 : decode cX8_init 111 = .ok (.bipush 40, 2) := by decide +kernel
theorem dX8_init_113 : decode cX8_init 113 = .ok (.newarray .long, 2) := by decide +kernel
theorem dX8_init_115 : decode cX8_init 115 = .ok (.putfield 54, 3) := by decide +kernel
theorem dX8_init_118 : decode cX8_init 118 = .ok (.aload_n 0, 1) := by decide +kernel
theorem dX8_init_119 : decode cX8_init 119 = .ok (.bipush 40, 2) := by decide +kernel
theorem dX8_init_121 : decode cX8_init 121 = .ok (.newarray .long, 2) := by decide +kernel
theorem dX8_init_123 : decode cX8_init 123 = .ok (.putfield 57, 3) := by decide +kernel
theorem dX8_init_126 : decode cX8_init 126 = .ok (.aload_n 0, 1) := by decide +kernel
theorem dX8_init_127 : decode cX8_init 127 = .ok (.bipush 40, 2) := by decide +kernel
theorem dX8_init_129 : decode cX8_init 129 = .ok (.newarray .boolean, 2) := by decide +kernel
theorem dX8_init_131 : decode cX8_init 131 = .ok (.putfield 60, 3) := by decide +kernel
theorem dX8_init_134 : decode cX8_init 134 = .ok (.aload_n 0, 1) := by decide +kernel
theorem dX8_init_135 : decode cX8_init 135 = .ok (.sipush 1200, 3) := by decide +kernel
theorem dX8_init_138 : decode cX8_init 138 = .ok (.newarray .long, 2) := by decide +kernel
theorem dX8_init_140 : decode cX8_init 140 = .ok (.putfield 63, 3) := by decide +kernel
theorem dX8_init_143 : decode cX8_init 143 = .ok (.iconst 0, 1) := by decide +kernel
theorem dX8_init_144 : decode cX8_init 144 = .ok (.istore_n 1, 1) := by decide +kernel
theorem dX8_init_145 : decode cX8_init 145 = .ok (.iload_n 1, 1) := by decide +kernel
theorem dX8_init_146 : decode cX8_init 146 = .ok (.iconst 4, 1) := by decide +kernel
theorem dX8_init_147 : decode cX8_init 147 = .ok (.if_icmp .ge 27, 3) := by decide +kernel
theorem dX8_init_150 : decode cX8_init 150 = .ok (.aload_n 0, 1) := by decide +kernel
theorem dX8_init_151 : decode cX8_init 151 = .ok (.getfield 28, 3) := by decide +kernel
theorem dX8_init_154 : decode cX8_init 154 = .ok (.iload_n 1, 1) := by decide +kernel
theorem dX8_init_155 : decode cX8_init 155 = .ok (.ldc2_w 66, 3) := by decide +kernel
theorem dX8_init_158 : decode cX8_init 158 = .ok (.lastore, 1) := by decide +kernel
theorem dX8_init_159 : decode cX8_init 159 = .ok (.aload_n 0, 1) := by decide +kernel
theorem dX8_init_160 : decode cX8_init 160 = .ok (.getfield 32, 3) := by decide +kernel
theorem dX8_init_163 : decode cX8_init 163 = .ok (.iload_n 1, 1) := by decide +kernel
theorem dX8_init_164 : decode cX8_init 164 = .ok (.ldc2_w 68, 3) := by decide +kernel
theorem dX8_init_167 : decode cX8_init 167 = .ok (.lastore, 1) := by decide +kernel
theorem dX8_init_168 : decode cX8_init 168 = .ok (.iinc 1 1, 3) := by decide +kernel
theorem dX8_init_171 : decode cX8_init 171 = .ok (.goto (-26), 3) := by decide +kernel
theorem dX8_init_174 : decode cX8_init 174 = .ok (.return_, 1) := by decide +kernel
theorem dX8_in_0 : decode cX8_in 0 = .ok (.lload_n 0, 1) := by decide +kernel
theorem dX8_in_1 : decode cX8_in 1 = .ok (.lload_n 2, 1) := by decide +kernel
theorem dX8_in_2 : decode cX8_in 2 = .ok (.lcmp, 1) := by decide +kernel
theorem dX8_in_3 : decode cX8_in 3 = .ok (.ifCond .lt 14, 3) := by decide +kernel
theorem dX8_in_6 : decode cX8_in 6 = .ok (.lload_n 0, 1) := by decide +kernel
theorem dX8_in_7 : decode cX8_in 7 = .ok (.lload 4, 2) := by decide +kernel
theorem dX8_in_9 : decode cX8_in 9 = .ok (.lcmp, 1) := by decide +kernel
theorem dX8_in_10 : decode cX8_in 10 = .ok (.ifCond .gt 7, 3) := by decide +kernel
theorem dX8_in_13 : decode cX8_in 13 = .ok (.iconst 1, 1) := by decide +kernel
theorem dX8_in_14 : decode cX8_in 14 = .ok (.goto 4, 3) := by decide +kernel
theorem dX8_in_17 : decode cX8_in 17 = .ok (.iconst 0, 1) := by decide +kernel
theorem dX8_in_18 : decode cX8_in 18 = .ok (.ireturn, 1) := by decide +kernel
theorem dX8_magOf_0 : decode cX8_magOf 0 = .ok (.lload_n 0, 1) := by decide +kernel
theorem dX8_magOf_1 : decode cX8_magOf 1 = .ok (.lconst 0, 1) := by decide +kernel
theorem dX8_magOf_2 : decode cX8_magOf 2 = .ok (.lcmp, 1) := by decide +kernel
theorem dX8_magOf_3 : decode cX8_magOf 3 = .ok (.ifCond .ge 11, 3) := by decide +kernel
theorem dX8_magOf_6 : decode cX8_magOf 6 = .ok (.ldc2_w 74, 3) := by decide +kernel
theorem dX8_magOf_9 : decode cX8_magOf 9 = .ok (.lload_n 0, 1) := by decide +kernel
theorem dX8_magOf_10 : decode cX8_magOf 10 = .ok (.lsub, 1) := by decide +kernel
theorem dX8_magOf_11 : decode cX8_magOf 11 = .ok (.goto 4, 3) := by decide +kernel
theorem dX8_magOf_14 : decode cX8_magOf 14 = .ok (.lload_n 0, 1) := by decide +kernel
theorem dX8_magOf_15 : decode cX8_magOf 15 = .ok (.lreturn, 1) := by decide +kernel
theorem dX8_placeOf_0 : decode cX8_placeOf 0 = .ok (.iload_n 0, 1) := by decide +kernel
theorem dX8_placeOf_1 : decode cX8_placeOf 1 = .ok (.ifCond .eq 11, 3) := by decide +kernel
theorem dX8_placeOf_4 : decode cX8_placeOf 4 = .ok (.ldc2_w 74, 3) := by decide +kernel
theorem dX8_placeOf_7 : decode cX8_placeOf 7 = .ok (.lload_n 1, 1) := by decide +kernel
theorem dX8_placeOf_8 : decode cX8_placeOf 8 = .ok (.lsub, 1) := by decide +kernel
theorem dX8_placeOf_9 : decode cX8_placeOf 9 = .ok (.goto 4, 3) := by decide +kernel
theorem dX8_placeOf_12 : decode cX8_placeOf 12 = .ok (.lload_n 1, 1) := by decide +kernel
theorem dX8_placeOf_13 : decode cX8_placeOf 13 = .ok (.lreturn, 1) := by decide +kernel
theorem dX8_digits_0 : decode cX8_digits 0 = .ok (.lload_n 0, 1) := by decide +kernel
theorem dX8_digits_1 : decode cX8_digits 1 = .ok (.invokestatic 76, 3) := by decide +kernel
theorem dX8_digits_4 : decode cX8_digits 4 = .ok (.lstore_n 2, 1) := by decide +kernel
theorem dX8_digits_5 : decode cX8_digits 5 = .ok (.lload_n 2, 1) := by decide +kernel
theorem dX8_digits_6 : decode cX8_digits 6 = .ok (.ldc2_w 80, 3) := by decide +kernel
theorem dX8_digits_9 : decode cX8_digits 9 = .ok (.lcmp, 1) := by decide +kernel
theorem dX8_digits_10 : decode cX8_digits 10 = .ok (.ifCond .ge 7, 3) := by decide +kernel
theorem dX8_digits_13 : decode cX8_digits 13 = .ok (.lload_n 2, 1) := by decide +kernel
theorem dX8_digits_14 : decode cX8_digits 14 = .ok (.goto 12, 3) := by decide +kernel
theorem dX8_digits_17 : decode cX8_digits 17 = .ok (.lload_n 2, 1) := by decide +kernel
theorem dX8_digits_18 : decode cX8_digits 18 = .ok (.ldc2_w 80, 3) := by decide +kernel
theorem dX8_digits_21 : decode cX8_digits 21 = .ok (.lrem, 1) := by decide +kernel
theorem dX8_digits_22 : decode cX8_digits 22 = .ok (.ldc2_w 80, 3) := by decide +kernel
theorem dX8_digits_25 : decode cX8_digits 25 = .ok (.ladd, 1) := by decide +kernel
theorem dX8_digits_26 : decode cX8_digits 26 = .ok (.lreturn, 1) := by decide +kernel
theorem dX8_power_0 : decode cX8_power 0 = .ok (.lload_n 0, 1) := by decide +kernel
theorem dX8_power_1 : decode cX8_power 1 = .ok (.invokestatic 76, 3) := by decide +kernel
theorem dX8_power_4 : decode cX8_power 4 = .ok (.ldc2_w 80, 3) := by decide +kernel
theorem dX8_power_7 : decode cX8_power 7 = .ok (.ldiv, 1) := by decide +kernel
theorem dX8_power_8 : decode cX8_power 8 = .ok (.l2i, 1) := by decide +kernel
theorem dX8_power_9 : decode cX8_power 9 = .ok (.istore_n 2, 1) := by decide +kernel
theorem dX8_power_10 : decode cX8_power 10 = .ok (.iload_n 2, 1) := by decide +kernel
theorem dX8_power_11 : decode cX8_power 11 = .ok (.ifCond .ne 9, 3) := by decide +kernel
theorem dX8_power_14 : decode cX8_power 14 = .ok (.sipush (-149), 3) := by decide +kernel
theorem dX8_power_17 : decode cX8_power 17 = .ok (.goto 8, 3) := by decide +kernel
theorem dX8_power_20 : decode cX8_power 20 = .ok (.iload_n 2, 1) := by decide +kernel
theorem dX8_power_21 : decode cX8_power 21 = .ok (.sipush 150, 3) := by decide +kernel
theorem dX8_power_24 : decode cX8_power 24 = .ok (.isub, 1) := by decide +kernel
theorem dX8_power_25 : decode cX8_power 25 = .ok (.ireturn, 1) := by decide +kernel
theorem dX8_isInfinite_0 : decode cX8_isInfinite 0 = .ok (.lload_n 0, 1) := by decide +kernel
theorem dX8_isInfinite_1 : decode cX8_isInfinite 1 = .ok (.ldc2_w 82, 3) := by decide +kernel
theorem dX8_isInfinite_4 : decode cX8_isInfinite 4 = .ok (.lcmp, 1) := by decide +kernel
theorem dX8_isInfinite_5 : decode cX8_isInfinite 5 = .ok (.ifCond .eq 18, 3) := by decide +kernel
theorem dX8_isInfinite_8 : decode cX8_isInfinite 8 = .ok (.lload_n 0, 1) := by decide +kernel
theorem dX8_isInfinite_9 : decode cX8_isInfinite 9 = .ok (.invokestatic 76, 3) := by decide +kernel
theorem dX8_isInfinite_12 : decode cX8_isInfinite 12 = .ok (.ldc2_w 68, 3) := by decide +kernel
theorem dX8_isInfinite_15 : decode cX8_isInfinite 15 = .ok (.lcmp, 1) := by decide +kernel
theorem dX8_isInfinite_16 : decode cX8_isInfinite 16 = .ok (.ifCond .ne 7, 3) := by decide +kernel
theorem dX8_isInfinite_19 : decode cX8_isInfinite 19 = .ok (.iconst 1, 1) := by decide +kernel
theorem dX8_isInfinite_20 : decode cX8_isInfinite 20 = .ok (.goto 4, 3) := by decide +kernel
theorem dX8_isInfinite_23 : decode cX8_isInfinite 23 = .ok (.iconst 0, 1) := by decide +kernel
theorem dX8_isInfinite_24 : decode cX8_isInfinite 24 = .ok (.ireturn, 1) := by decide +kernel
theorem dX8_isZero_0 : decode cX8_isZero 0 = .ok (.lload_n 0, 1) := by decide +kernel
theorem dX8_isZero_1 : decode cX8_isZero 1 = .ok (.lconst 0, 1) := by decide +kernel
theorem dX8_isZero_2 : decode cX8_isZero 2 = .ok (.lcmp, 1) := by decide +kernel
theorem dX8_isZero_3 : decode cX8_isZero 3 = .ok (.ifCond .eq 11, 3) := by decide +kernel
theorem dX8_isZero_6 : decode cX8_isZero 6 = .ok (.lload_n 0, 1) := by decide +kernel
theorem dX8_isZero_7 : decode cX8_isZero 7 = .ok (.ldc2_w 74, 3) := by decide +kernel
theorem dX8_isZero_10 : decode cX8_isZero 10 = .ok (.lcmp, 1) := by decide +kernel
theorem dX8_isZero_11 : decode cX8_isZero 11 = .ok (.ifCond .ne 7, 3) := by decide +kernel
theorem dX8_isZero_14 : decode cX8_isZero 14 = .ok (.iconst 1, 1) := by decide +kernel
theorem dX8_isZero_15 : decode cX8_isZero 15 = .ok (.goto 4, 3) := by decide +kernel
theorem dX8_isZero_18 : decode cX8_isZero 18 = .ok (.iconst 0, 1) := by decide +kernel
theorem dX8_isZero_19 : decode cX8_isZero 19 = .ok (.ireturn, 1) := by decide +kernel
theorem dX8_pack_0 : decode cX8_pack 0 = .ok (.lload_n 1, 1) := by decide +kernel
theorem dX8_pack_1 : decode cX8_pack 1 = .ok (.lconst 0, 1) := by decide +kernel
theorem dX8_pack_2 : decode cX8_pack 2 = .ok (.lcmp, 1) := by decide +kernel
theorem dX8_pack_3 : decode cX8_pack 3 = .ok (.ifCond .ne 9, 3) := by decide +kernel
theorem dX8_pack_6 : decode cX8_pack 6 = .ok (.iload_n 0, 1) := by decide +kernel
theorem dX8_pack_7 : decode cX8_pack 7 = .ok (.lconst 0, 1) := by decide +kernel
theorem dX8_pack_8 : decode cX8_pack 8 = .ok (.invokestatic 84, 3) := by decide +kernel
theorem dX8_pack_11 : decode cX8_pack 11 = .ok (.lreturn, 1) := by decide +kernel
theorem dX8_pack_12 : decode cX8_pack 12 = .ok (.lload_n 1, 1) := by decide +kernel
theorem dX8_pack_13 : decode cX8_pack 13 = .ok (.lstore 5, 2) := by decide +kernel
theorem dX8_pack_15 : decode cX8_pack 15 = .ok (.iload_n 3, 1) := by decide +kernel
theorem dX8_pack_16 : decode cX8_pack 16 = .ok (.istore 7, 2) := by decide +kernel
theorem dX8_pack_18 : decode cX8_pack 18 = .ok (.iconst 0, 1) := by decide +kernel
theorem dX8_pack_19 : decode cX8_pack 19 = .ok (.istore 8, 2) := by decide +kernel
theorem dX8_pack_21 : decode cX8_pack 21 = .ok (.iload 4, 2) := by decide +kernel
theorem dX8_pack_23 : decode cX8_pack 23 = .ok (.istore 9, 2) := by decide +kernel
theorem dX8_pack_25 : decode cX8_pack 25 = .ok (.lload 5, 2) := by decide +kernel
theorem dX8_pack_27 : decode cX8_pack 27 = .ok (.ldc2_w 88, 3) := by decide +kernel
theorem dX8_pack_30 : decode cX8_pack 30 = .ok (.lcmp, 1) := by decide +kernel
theorem dX8_pack_31 : decode cX8_pack 31 = .ok (.ifCond .ge 11, 3) := by decide +kernel
theorem dX8_pack_34 : decode cX8_pack 34 = .ok (.iload 7, 2) := by decide +kernel
theorem dX8_pack_36 : decode cX8_pack 36 = .ok (.sipush (-149), 3) := by decide +kernel
theorem dX8_pack_39 : decode cX8_pack 39 = .ok (.if_icmp .ge 52, 3) := by decide +kernel
theorem dX8_pack_42 : decode cX8_pack 42 = .ok (.iload 9, 2) := by decide +kernel
theorem dX8_pack_44 : decode cX8_pack 44 = .ok (.ifCond .ne 8, 3) := by decide +kernel
theorem dX8_pack_47 : decode cX8_pack 47 = .ok (.iload 8, 2) := by decide +kernel
theorem dX8_pack_49 : decode cX8_pack 49 = .ok (.ifCond .eq 7, 3) := by decide +kernel
theorem dX8_pack_52 : decode cX8_pack 52 = .ok (.iconst 1, 1) := by decide +kernel
theorem dX8_pack_53 : decode cX8_pack 53 = .ok (.goto 4, 3) := by decide +kernel
theorem dX8_pack_56 : decode cX8_pack 56 = .ok (.iconst 0, 1) := by decide +kernel
theorem dX8_pack_57 : decode cX8_pack 57 = .ok (.istore 9, 2) := by decide +kernel
theorem dX8_pack_59 : decode cX8_pack 59 = .ok (.lload 5, 2) := by decide +kernel
theorem dX8_pack_61 : decode cX8_pack 61 = .ok (.ldc2_w 90, 3) := by decide +kernel
theorem dX8_pack_64 : decode cX8_pack 64 = .ok (.lrem, 1) := by decide +kernel
theorem dX8_pack_65 : decode cX8_pack 65 = .ok (.lconst 1, 1) := by decide +kernel
theorem dX8_pack_66 : decode cX8_pack 66 = .ok (.lcmp, 1) := by decide +kernel
theorem dX8_pack_67 : decode cX8_pack 67 = .ok (.ifCond .ne 7, 3) := by decide +kernel
theorem dX8_pack_70 : decode cX8_pack 70 = .ok (.iconst 1, 1) := by decide +kernel
theorem dX8_pack_71 : decode cX8_pack 71 = .ok (.goto 4, 3) := by decide +kernel
theorem dX8_pack_74 : decode cX8_pack 74 = .ok (.iconst 0, 1) := by decide +kernel
theorem dX8_pack_75 : decode cX8_pack 75 = .ok (.istore 8, 2) := by decide +kernel
theorem dX8_pack_77 : decode cX8_pack 77 = .ok (.lload 5, 2) := by decide +kernel
theorem dX8_pack_79 : decode cX8_pack 79 = .ok (.ldc2_w 90, 3) := by decide +kernel
theorem dX8_pack_82 : decode cX8_pack 82 = .ok (.ldiv, 1) := by decide +kernel
theorem dX8_pack_83 : decode cX8_pack 83 = .ok (.lstore 5, 2) := by decide +kernel
theorem dX8_pack_85 : decode cX8_pack 85 = .ok (.iinc 7 1, 3) := by decide +kernel
theorem dX8_pack_88 : decode cX8_pack 88 = .ok (.goto (-63), 3) := by decide +kernel
theorem dX8_pack_91 : decode cX8_pack 91 = .ok (.lload 5, 2) := by decide +kernel
theorem dX8_pack_93 : decode cX8_pack 93 = .ok (.ldc2_w 80, 3) := by decide +kernel
theorem dX8_pack_96 : decode cX8_pack 96 = .ok (.lcmp, 1) := by decide +kernel
theorem dX8_pack_97 : decode cX8_pack 97 = .ok (.ifCond .ge 25, 3) := by decide +kernel
theorem dX8_pack_100 : decode cX8_pack 100 = .ok (.iload 7, 2) := by decide +kernel
theorem dX8_pack_102 : decode cX8_pack 102 = .ok (.sipush (-149), 3) := by decide +kernel
theorem dX8_pack_105 : decode cX8_pack 105 = .ok (.if_icmp .le 17, 3) := by decide +kernel
theorem dX8_pack_108 : decode cX8_pack 108 = .ok (.lload 5, 2) := by decide +kernel
theorem dX8_pack_110 : decode cX8_pack 110 = .ok (.ldc2_w 90, 3) := by decide +kernel
theorem dX8_pack_113 : decode cX8_pack 113 = .ok (.lmul, 1) := by decide +kernel
theorem dX8_pack_114 : decode cX8_pack 114 = .ok (.lstore 5, 2) := by decide +kernel
theorem dX8_pack_116 : decode cX8_pack 116 = .ok (.iinc 7 (-1), 3) := by decide +kernel
theorem dX8_pack_119 : decode cX8_pack 119 = .ok (.goto (-28), 3) := by decide +kernel
theorem dX8_pack_122 : decode cX8_pack 122 = .ok (.iload 8, 2) := by decide +kernel
theorem dX8_pack_124 : decode cX8_pack 124 = .ok (.ifCond .eq 42, 3) := by decide +kernel
theorem dX8_pack_127 : decode cX8_pack 127 = .ok (.iload 9, 2) := by decide +kernel
theorem dX8_pack_129 : decode cX8_pack 129 = .ok (.ifCond .ne 14, 3) := by decide +kernel
theorem dX8_pack_132 : decode cX8_pack 132 = .ok (.lload 5, 2) := by decide +kernel
theorem dX8_pack_134 : decode cX8_pack 134 = .ok (.ldc2_w 90, 3) := by decide +kernel
theorem dX8_pack_137 : decode cX8_pack 137 = .ok (.lrem, 1) := by decide +kernel
theorem dX8_pack_138 : decode cX8_pack 138 = .ok (.lconst 1, 1) := by decide +kernel
theorem dX8_pack_139 : decode cX8_pack 139 = .ok (.lcmp, 1) := by decide +kernel
theorem dX8_pack_140 : decode cX8_pack 140 = .ok (.ifCond .ne 26, 3) := by decide +kernel
theorem dX8_pack_143 : decode cX8_pack 143 = .ok (.lload 5, 2) := by decide +kernel
theorem dX8_pack_145 : decode cX8_pack 145 = .ok (.lconst 1, 1) := by decide +kernel
theorem dX8_pack_146 : decode cX8_pack 146 = .ok (.ladd, 1) := by decide +kernel
theorem dX8_pack_147 : decode cX8_pack 147 = .ok (.lstore 5, 2) := by decide +kernel
theorem dX8_pack_149 : decode cX8_pack 149 = .ok (.lload 5, 2) := by decide +kernel
theorem dX8_pack_151 : decode cX8_pack 151 = .ok (.ldc2_w 88, 3) := by decide +kernel
theorem dX8_pack_154 : decode cX8_pack 154 = .ok (.lcmp, 1) := by decide +kernel
theorem dX8_pack_155 : decode cX8_pack 155 = .ok (.ifCond .ne 11, 3) := by decide +kernel
theorem dX8_pack_158 : decode cX8_pack 158 = .ok (.ldc2_w 80, 3) := by decide +kernel
theorem dX8_pack_161 : decode cX8_pack 161 = .ok (.lstore 5, 2) := by decide +kernel
theorem dX8_pack_163 : decode cX8_pack 163 = .ok (.iinc 7 1, 3) := by decide +kernel
theorem dX8_pack_166 : decode cX8_pack 166 = .ok (.iload 7, 2) := by decide +kernel
theorem dX8_pack_168 : decode cX8_pack 168 = .ok (.sipush 150, 3) := by decide +kernel
theorem dX8_pack_171 : decode cX8_pack 171 = .ok (.iadd, 1) := by decide +kernel
theorem dX8_pack_172 : decode cX8_pack 172 = .ok (.sipush 254, 3) := by decide +kernel
theorem dX8_pack_175 : decode cX8_pack 175 = .ok (.if_icmp .le 11, 3) := by decide +kernel
theorem dX8_pack_178 : decode cX8_pack 178 = .ok (.iload_n 0, 1) := by decide +kernel
theorem dX8_pack_179 : decode cX8_pack 179 = .ok (.ldc2_w 68, 3) := by decide +kernel
theorem dX8_pack_182 : decode cX8_pack 182 = .ok (.invokestatic 84, 3) := by decide +kernel
theorem dX8_pack_185 : decode cX8_pack 185 = .ok (.lreturn, 1) := by decide +kernel
theorem dX8_pack_186 : decode cX8_pack 186 = .ok (.iload_n 0, 1) := by decide +kernel
theorem dX8_pack_187 : decode cX8_pack 187 = .ok (.lload 5, 2) := by decide +kernel
theorem dX8_pack_189 : decode cX8_pack 189 = .ok (.ldc2_w 80, 3) := by decide +kernel
theorem dX8_pack_192 : decode cX8_pack 192 = .ok (.lcmp, 1) := by decide +kernel
theorem dX8_pack_193 : decode cX8_pack 193 = .ok (.ifCond .ge 8, 3) := by decide +kernel
theorem dX8_pack_196 : decode cX8_pack 196 = .ok (.lload 5, 2) := by decide +kernel
theorem dX8_pack_198 : decode cX8_pack 198 = .ok (.goto 21, 3) := by decide +kernel
theorem dX8_pack_201 : decode cX8_pack 201 = .ok (.iload 7, 2) := by decide +kernel
theorem dX8_pack_203 : decode cX8_pack 203 = .ok (.i2l, 1) := by decide +kernel
theorem dX8_pack_204 : decode cX8_pack 204 = .ok (.ldc2_w 92, 3) := by decide +kernel
theorem dX8_pack_207 : decode cX8_pack 207 = .ok (.ladd, 1) := by decide +kernel
theorem dX8_pack_208 : decode cX8_pack 208 = .ok (.ldc2_w 80, 3) := by decide +kernel
theorem dX8_pack_211 : decode cX8_pack 211 = .ok (.lmul, 1) := by decide +kernel
theorem dX8_pack_212 : decode cX8_pack 212 = .ok (.lload 5, 2) := by decide +kernel
theorem dX8_pack_214 : decode cX8_pack 214 = .ok (.ladd, 1) := by decide +kernel
theorem dX8_pack_215 : decode cX8_pack 215 = .ok (.ldc2_w 80, 3) := by decide +kernel
theorem dX8_pack_218 : decode cX8_pack 218 = .ok (.lsub, 1) := by decide +kernel
theorem dX8_pack_219 : decode cX8_pack 219 = .ok (.invokestatic 84, 3) := by decide +kernel
theorem dX8_pack_222 : decode cX8_pack 222 = .ok (.lreturn, 1) := by decide +kernel
theorem dX8_turned_0 : decode cX8_turned 0 = .ok (.lload_n 0, 1) := by decide +kernel
theorem dX8_turned_1 : decode cX8_turned 1 = .ok (.ldc2_w 82, 3) := by decide +kernel
theorem dX8_turned_4 : decode cX8_turned 4 = .ok (.lcmp, 1) := by decide +kernel
theorem dX8_turned_5 : decode cX8_turned 5 = .ok (.ifCond .ne 9, 3) := by decide +kernel
theorem dX8_turned_8 : decode cX8_turned 8 = .ok (.ldc2_w 82, 3) := by decide +kernel
theorem dX8_turned_11 : decode cX8_turned 11 = .ok (.goto 8, 3) := by decide +kernel
theorem dX8_turned_14 : decode cX8_turned 14 = .ok (.ldc2_w 74, 3) := by decide +kernel
theorem dX8_turned_17 : decode cX8_turned 17 = .ok (.lload_n 0, 1) := by decide +kernel
theorem dX8_turned_18 : decode cX8_turned 18 = .ok (.lsub, 1) := by decide +kernel
theorem dX8_turned_19 : decode cX8_turned 19 = .ok (.lreturn, 1) := by decide +kernel
theorem dX8_plus_0 : decode cX8_plus 0 = .ok (.lload_n 0, 1) := by decide +kernel
theorem dX8_plus_1 : decode cX8_plus 1 = .ok (.ldc2_w 82, 3) := by decide +kernel
theorem dX8_plus_4 : decode cX8_plus 4 = .ok (.lcmp, 1) := by decide +kernel
theorem dX8_plus_5 : decode cX8_plus 5 = .ok (.ifCond .eq 11, 3) := by decide +kernel
theorem dX8_plus_8 : decode cX8_plus 8 = .ok (.lload_n 2, 1) := by decide +kernel
theorem dX8_plus_9 : decode cX8_plus 9 = .ok (.ldc2_w 82, 3) := by decide +kernel
theorem dX8_plus_12 : decode cX8_plus 12 = .ok (.lcmp, 1) := by decide +kernel
theorem dX8_plus_13 : decode cX8_plus 13 = .ok (.ifCond .ne 7, 3) := by decide +kernel
theorem dX8_plus_16 : decode cX8_plus 16 = .ok (.ldc2_w 82, 3) := by decide +kernel
theorem dX8_plus_19 : decode cX8_plus 19 = .ok (.lreturn, 1) := by decide +kernel
theorem dX8_plus_20 : decode cX8_plus 20 = .ok (.lload_n 0, 1) := by decide +kernel
theorem dX8_plus_21 : decode cX8_plus 21 = .ok (.invokestatic 94, 3) := by decide +kernel
theorem dX8_plus_24 : decode cX8_plus 24 = .ok (.ifCond .ne 10, 3) := by decide +kernel
theorem dX8_plus_27 : decode cX8_plus 27 = .ok (.lload_n 2, 1) := by decide +kernel
theorem dX8_plus_28 : decode cX8_plus 28 = .ok (.invokestatic 94, 3) := by decide +kernel
theorem dX8_plus_31 : decode cX8_plus 31 = .ok (.ifCond .eq 42, 3) := by decide +kernel
theorem dX8_plus_34 : decode cX8_plus 34 = .ok (.lload_n 0, 1) := by decide +kernel
theorem dX8_plus_35 : decode cX8_plus 35 = .ok (.invokestatic 94, 3) := by decide +kernel
theorem dX8_plus_38 : decode cX8_plus 38 = .ok (.ifCond .eq 22, 3) := by decide +kernel
theorem dX8_plus_41 : decode cX8_plus 41 = .ok (.lload_n 2, 1) := by decide +kernel
theorem dX8_plus_42 : decode cX8_plus 42 = .ok (.invokestatic 94, 3) := by decide +kernel
theorem dX8_plus_45 : decode cX8_plus 45 = .ok (.ifCond .eq 15, 3) := by decide +kernel
theorem dX8_plus_48 : decode cX8_plus 48 = .ok (.lload_n 0, 1) := by decide +kernel
theorem dX8_plus_49 : decode cX8_plus 49 = .ok (.lload_n 2, 1) := by decide +kernel
theorem dX8_plus_50 : decode cX8_plus 50 = .ok (.lcmp, 1) := by decide +kernel
theorem dX8_plus_51 : decode cX8_plus 51 = .ok (.ifCond .eq 9, 3) := by decide +kernel
theorem dX8_plus_54 : decode cX8_plus 54 = .ok (.ldc2_w 82, 3) := by decide +kernel
theorem dX8_plus_57 : decode cX8_plus 57 = .ok (.goto 15, 3) := by decide +kernel
theorem dX8_plus_60 : decode cX8_plus 60 = .ok (.lload_n 0, 1) := by decide +kernel
theorem dX8_plus_61 : decode cX8_plus 61 = .ok (.invokestatic 94, 3) := by decide +kernel
theorem dX8_plus_64 : decode cX8_plus 64 = .ok (.ifCond .eq 7, 3) := by decide +kernel
theorem dX8_plus_67 : decode cX8_plus 67 = .ok (.lload_n 0, 1) := by decide +kernel
theorem dX8_plus_68 : decode cX8_plus 68 = .ok (.goto 4, 3) := by decide +kernel
theorem dX8_plus_71 : decode cX8_plus 71 = .ok (.lload_n 2, 1) := by decide +kernel
theorem dX8_plus_72 : decode cX8_plus 72 = .ok (.lreturn, 1) := by decide +kernel
theorem dX8_plus_73 : decode cX8_plus 73 = .ok (.lload_n 0, 1) := by decide +kernel
theorem dX8_plus_74 : decode cX8_plus 74 = .ok (.invokestatic 98, 3) := by decide +kernel
theorem dX8_plus_77 : decode cX8_plus 77 = .ok (.lload_n 2, 1) := by decide +kernel
theorem dX8_plus_78 : decode cX8_plus 78 = .ok (.invokestatic 98, 3) := by decide +kernel
theorem dX8_plus_81 : decode cX8_plus 81 = .ok (.if_icmp .lt 7, 3) := by decide +kernel
theorem dX8_plus_84 : decode cX8_plus 84 = .ok (.lload_n 0, 1) := by decide +kernel
theorem dX8_plus_85 : decode cX8_plus 85 = .ok (.goto 4, 3) := by decide +kernel
theorem dX8_plus_88 : decode cX8_plus 88 = .ok (.lload_n 2, 1) := by decide +kernel
theorem dX8_plus_89 : decode cX8_plus 89 = .ok (.lstore 4, 2) := by decide +kernel
theorem dX8_plus_91 : decode cX8_plus 91 = .ok (.lload_n 0, 1) := by decide +kernel
theorem dX8_plus_92 : decode cX8_plus 92 = .ok (.invokestatic 98, 3) := by decide +kernel
theorem dX8_plus_95 : decode cX8_plus 95 = .ok (.lload_n 2, 1) := by decide +kernel
theorem dX8_plus_96 : decode cX8_plus 96 = .ok (.invokestatic 98, 3) := by decide +kernel
theorem dX8_plus_99 : decode cX8_plus 99 = .ok (.if_icmp .lt 7, 3) := by decide +kernel
theorem dX8_plus_102 : decode cX8_plus 102 = .ok (.lload_n 2, 1) := by decide +kernel
theorem dX8_plus_103 : decode cX8_plus 103 = .ok (.goto 4, 3) := by decide +kernel
theorem dX8_plus_106 : decode cX8_plus 106 = .ok (.lload_n 0, 1) := by decide +kernel
theorem dX8_plus_107 : decode cX8_plus 107 = .ok (.lstore 6, 2) := by decide +kernel
theorem dX8_plus_109 : decode cX8_plus 109 = .ok (.lload 4, 2) := by decide +kernel
theorem dX8_plus_111 : decode cX8_plus 111 = .ok (.invokestatic 98, 3) := by decide +kernel
theorem dX8_plus_114 : decode cX8_plus 114 = .ok (.lload 6, 2) := by decide +kernel
theorem dX8_plus_116 : decode cX8_plus 116 = .ok (.invokestatic 98, 3) := by decide +kernel
theorem dX8_plus_119 : decode cX8_plus 119 = .ok (.isub, 1) := by decide +kernel
theorem dX8_plus_120 : decode cX8_plus 120 = .ok (.istore 8, 2) := by decide +kernel
theorem dX8_plus_122 : decode cX8_plus 122 = .ok (.iload 8, 2) := by decide +kernel
theorem dX8_plus_124 : decode cX8_plus 124 = .ok (.bipush 38, 2) := by decide +kernel
theorem dX8_plus_126 : decode cX8_plus 126 = .ok (.if_icmp .ge 8, 3) := by decide +kernel
theorem dX8_plus_129 : decode cX8_plus 129 = .ok (.iload 8, 2) := by decide +kernel
theorem dX8_plus_131 : decode cX8_plus 131 = .ok (.goto 5, 3) := by decide +kernel
theorem dX8_plus_134 : decode cX8_plus 134 = .ok (.bipush 38, 2) := by decide +kernel
theorem dX8_plus_136 : decode cX8_plus 136 = .ok (.istore 9, 2) := by decide +kernel
theorem dX8_plus_138 : decode cX8_plus 138 = .ok (.lload 4, 2) := by decide +kernel
theorem dX8_plus_140 : decode cX8_plus 140 = .ok (.invokestatic 102, 3) := by decide +kernel
theorem dX8_plus_143 : decode cX8_plus 143 = .ok (.iload 9, 2) := by decide +kernel
theorem dX8_plus_145 : decode cX8_plus 145 = .ok (.lshl, 1) := by decide +kernel
theorem dX8_plus_146 : decode cX8_plus 146 = .ok (.lstore 10, 2) := by decide +kernel
theorem dX8_plus_148 : decode cX8_plus 148 = .ok (.lload 4, 2) := by decide +kernel
theorem dX8_plus_150 : decode cX8_plus 150 = .ok (.invokestatic 98, 3) := by decide +kernel
theorem dX8_plus_153 : decode cX8_plus 153 = .ok (.iload 9, 2) := by decide +kernel
theorem dX8_plus_155 : decode cX8_plus 155 = .ok (.isub, 1) := by decide +kernel
theorem dX8_plus_156 : decode cX8_plus 156 = .ok (.istore 12, 2) := by decide +kernel
theorem dX8_plus_158 : decode cX8_plus 158 = .ok (.iload 8, 2) := by decide +kernel
theorem dX8_plus_160 : decode cX8_plus 160 = .ok (.iload 9, 2) := by decide +kernel
theorem dX8_plus_162 : decode cX8_plus 162 = .ok (.isub, 1) := by decide +kernel
theorem dX8_plus_163 : decode cX8_plus 163 = .ok (.istore 13, 2) := by decide +kernel
theorem dX8_plus_165 : decode cX8_plus 165 = .ok (.iload 13, 2) := by decide +kernel
theorem dX8_plus_167 : decode cX8_plus 167 = .ok (.bipush 40, 2) := by decide +kernel
theorem dX8_plus_169 : decode cX8_plus 169 = .ok (.if_icmp .le 7, 3) := by decide +kernel
theorem dX8_plus_172 : decode cX8_plus 172 = .ok (.lconst 0, 1) := by decide +kernel
theorem dX8_plus_173 : decode cX8_plus 173 = .ok (.goto 11, 3) := by decide +kernel
theorem dX8_plus_176 : decode cX8_plus 176 = .ok (.lload 6, 2) := by decide +kernel
theorem dX8_plus_178 : decode cX8_plus 178 = .ok (.invokestatic 102, 3) := by decide +kernel
theorem dX8_plus_181 : decode cX8_plus 181 = .ok (.iload 13, 2) := by decide +kernel
theorem dX8_plus_183 : decode cX8_plus 183 = .ok (.lshr, 1) := by decide +kernel
theorem dX8_plus_184 : decode cX8_plus 184 = .ok (.lstore 14, 2) := by decide +kernel
theorem dX8_plus_186 : decode cX8_plus 186 = .ok (.iload 13, 2) := by decide +kernel
theorem dX8_plus_188 : decode cX8_plus 188 = .ok (.bipush 40, 2) := by decide +kernel
theorem dX8_plus_190 : decode cX8_plus 190 = .ok (.if_icmp .le 21, 3) := by decide +kernel
theorem dX8_plus_193 : decode cX8_plus 193 = .ok (.lload 6, 2) := by decide +kernel
theorem dX8_plus_195 : decode cX8_plus 195 = .ok (.invokestatic 102, 3) := by decide +kernel
theorem dX8_plus_198 : decode cX8_plus 198 = .ok (.lconst 0, 1) := by decide +kernel
theorem dX8_plus_199 : decode cX8_plus 199 = .ok (.lcmp, 1) := by decide +kernel
theorem dX8_plus_200 : decode cX8_plus 200 = .ok (.ifCond .eq 7, 3) := by decide +kernel
theorem dX8_plus_203 : decode cX8_plus 203 = .ok (.iconst 1, 1) := by decide +kernel
theorem dX8_plus_204 : decode cX8_plus 204 = .ok (.goto 26, 3) := by decide +kernel
theorem dX8_plus_207 : decode cX8_plus 207 = .ok (.iconst 0, 1) := by decide +kernel
theorem dX8_plus_208 : decode cX8_plus 208 = .ok (.goto 22, 3) := by decide +kernel
theorem dX8_plus_211 : decode cX8_plus 211 = .ok (.lload 14, 2) := by decide +kernel
theorem dX8_plus_213 : decode cX8_plus 213 = .ok (.iload 13, 2) := by decide +kernel
theorem dX8_plus_215 : decode cX8_plus 215 = .ok (.lshl, 1) := by decide +kernel
theorem dX8_plus_216 : decode cX8_plus 216 = .ok (.lload 6, 2) := by decide +kernel
theorem dX8_plus_218 : decode cX8_plus 218 = .ok (.invokestatic 102, 3) := by decide +kernel
theorem dX8_plus_221 : decode cX8_plus 221 = .ok (.lcmp, 1) := by decide +kernel
theorem dX8_plus_222 : decode cX8_plus 222 = .ok (.ifCond .eq 7, 3) := by decide +kernel
theorem dX8_plus_225 : decode cX8_plus 225 = .ok (.iconst 1, 1) := by decide +kernel
theorem dX8_plus_226 : decode cX8_plus 226 = .ok (.goto 4, 3) := by decide +kernel
theorem dX8_plus_229 : decode cX8_plus 229 = .ok (.iconst 0, 1) := by decide +kernel
theorem dX8_plus_230 : decode cX8_plus 230 = .ok (.istore 16, 2) := by decide +kernel
theorem dX8_plus_232 : decode cX8_plus 232 = .ok (.lload 4, 2) := by decide +kernel
theorem dX8_plus_234 : decode cX8_plus 234 = .ok (.lconst 0, 1) := by decide +kernel
theorem dX8_plus_235 : decode cX8_plus 235 = .ok (.lcmp, 1) := by decide +kernel
theorem dX8_plus_236 : decode cX8_plus 236 = .ok (.ifCond .ge 7, 3) := by decide +kernel
theorem dX8_plus_239 : decode cX8_plus 239 = .ok (.iconst 1, 1) := by decide +kernel
theorem dX8_plus_240 : decode cX8_plus 240 = .ok (.goto 4, 3) := by decide +kernel
theorem dX8_plus_243 : decode cX8_plus 243 = .ok (.iconst 0, 1) := by decide +kernel
theorem dX8_plus_244 : decode cX8_plus 244 = .ok (.lload 6, 2) := by decide +kernel
theorem dX8_plus_246 : decode cX8_plus 246 = .ok (.lconst 0, 1) := by decide +kernel
theorem dX8_plus_247 : decode cX8_plus 247 = .ok (.lcmp, 1) := by decide +kernel
theorem dX8_plus_248 : decode cX8_plus 248 = .ok (.ifCond .ge 7, 3) := by decide +kernel
theorem dX8_plus_251 : decode cX8_plus 251 = .ok (.iconst 1, 1) := by decide +kernel
theorem dX8_plus_252 : decode cX8_plus 252 = .ok (.goto 4, 3) := by decide +kernel
theorem dX8_plus_255 : decode cX8_plus 255 = .ok (.iconst 0, 1) := by decide +kernel
theorem dX8_plus_256 : decode cX8_plus 256 = .ok (.if_icmp .ne 28, 3) := by decide +kernel
theorem dX8_plus_259 : decode cX8_plus 259 = .ok (.lload 4, 2) := by decide +kernel
theorem dX8_plus_261 : decode cX8_plus 261 = .ok (.lconst 0, 1) := by decide +kernel
theorem dX8_plus_262 : decode cX8_plus 262 = .ok (.lcmp, 1) := by decide +kernel
theorem dX8_plus_263 : decode cX8_plus 263 = .ok (.ifCond .ge 7, 3) := by decide +kernel
theorem dX8_plus_266 : decode cX8_plus 266 = .ok (.iconst 1, 1) := by decide +kernel
theorem dX8_plus_267 : decode cX8_plus 267 = .ok (.goto 4, 3) := by decide +kernel
theorem dX8_plus_270 : decode cX8_plus 270 = .ok (.iconst 0, 1) := by decide +kernel
theorem dX8_plus_271 : decode cX8_plus 271 = .ok (.lload 10, 2) := by decide +kernel
theorem dX8_plus_273 : decode cX8_plus 273 = .ok (.lload 14, 2) := by decide +kernel
theorem dX8_plus_275 : decode cX8_plus 275 = .ok (.ladd, 1) := by decide +kernel
theorem dX8_plus_276 : decode cX8_plus 276 = .ok (.iload 12, 2) := by decide +kernel
theorem dX8_plus_278 : decode cX8_plus 278 = .ok (.iload 16, 2) := by decide +kernel
theorem dX8_plus_280 : decode cX8_plus 280 = .ok (.invokestatic 105, 3) := by decide +kernel
theorem dX8_plus_283 : decode cX8_plus 283 = .ok (.lreturn, 1) := by decide +kernel
theorem dX8_plus_284 : decode cX8_plus 284 = .ok (.lload 10, 2) := by decide +kernel
theorem dX8_plus_286 : decode cX8_plus 286 = .ok (.lload 14, 2) := by decide +kernel
theorem dX8_plus_288 : decode cX8_plus 288 = .ok (.lsub, 1) := by decide +kernel
theorem dX8_plus_289 : decode cX8_plus 289 = .ok (.iload 16, 2) := by decide +kernel
theorem dX8_plus_291 : decode cX8_plus 291 = .ok (.ifCond .eq 7, 3) := by decide +kernel
theorem dX8_plus_294 : decode cX8_plus 294 = .ok (.lconst 1, 1) := by decide +kernel
theorem dX8_plus_295 : decode cX8_plus 295 = .ok (.goto 4, 3) := by decide +kernel
theorem dX8_plus_298 : decode cX8_plus 298 = .ok (.lconst 0, 1) := by decide +kernel
theorem dX8_plus_299 : decode cX8_plus 299 = .ok (.lsub, 1) := by decide +kernel
theorem dX8_plus_300 : decode cX8_plus 300 = .ok (.lstore 17, 2) := by decide +kernel
theorem dX8_plus_302 : decode cX8_plus 302 = .ok (.lload 17, 2) := by decide +kernel
theorem dX8_plus_304 : decode cX8_plus 304 = .ok (.lconst 0, 1) := by decide +kernel
theorem dX8_plus_305 : decode cX8_plus 305 = .ok (.lcmp, 1) := by decide +kernel
theorem dX8_plus_306 : decode cX8_plus 306 = .ok (.ifCond .ne 10, 3) := by decide +kernel
theorem dX8_plus_309 : decode cX8_plus 309 = .ok (.iload 16, 2) := by decide +kernel
theorem dX8_plus_311 : decode cX8_plus 311 = .ok (.ifCond .ne 5, 3) := by decide +kernel
theorem dX8_plus_314 : decode cX8_plus 314 = .ok (.lconst 0, 1) := by decide +kernel
theorem dX8_plus_315 : decode cX8_plus 315 = .ok (.lreturn, 1) := by decide +kernel
theorem dX8_plus_316 : decode cX8_plus 316 = .ok (.lload 17, 2) := by decide +kernel
theorem dX8_plus_318 : decode cX8_plus 318 = .ok (.lconst 0, 1) := by decide +kernel
theorem dX8_plus_319 : decode cX8_plus 319 = .ok (.lcmp, 1) := by decide +kernel
theorem dX8_plus_320 : decode cX8_plus 320 = .ok (.ifCond .ge 27, 3) := by decide +kernel
theorem dX8_plus_323 : decode cX8_plus 323 = .ok (.lload 6, 2) := by decide +kernel
theorem dX8_plus_325 : decode cX8_plus 325 = .ok (.lconst 0, 1) := by decide +kernel
theorem dX8_plus_326 : decode cX8_plus 326 = .ok (.lcmp, 1) := by decide +kernel
theorem dX8_plus_327 : decode cX8_plus 327 = .ok (.ifCond .ge 7, 3) := by decide +kernel
theorem dX8_plus_330 : decode cX8_plus 330 = .ok (.iconst 1, 1) := by decide +kernel
theorem dX8_plus_331 : decode cX8_plus 331 = .ok (.goto 4, 3) := by decide +kernel
theorem dX8_plus_334 : decode cX8_plus 334 = .ok (.iconst 0, 1) := by decide +kernel
theorem dX8_plus_335 : decode cX8_plus 335 = .ok (.lload 17, 2) := by decide +kernel
theorem dX8_plus_337 : decode cX8_plus 337 = .ok (.lneg, 1) := by decide +kernel
theorem dX8_plus_338 : decode cX8_plus 338 = .ok (.iload 12, 2) := by decide +kernel
theorem dX8_plus_340 : decode cX8_plus 340 = .ok (.iconst 0, 1) := by decide +kernel
theorem dX8_plus_341 : decode cX8_plus 341 = .ok (.invokestatic 105, 3) := by decide +kernel
theorem dX8_plus_344 : decode cX8_plus 344 = .ok (.goto 24, 3) := by decide +kernel
theorem dX8_plus_347 : decode cX8_plus 347 = .ok (.lload 4, 2) := by decide +kernel
theorem dX8_plus_349 : decode cX8_plus 349 = .ok (.lconst 0, 1) := by decide +kernel
theorem dX8_plus_350 : decode cX8_plus 350 = .ok (.lcmp, 1) := by decide +kernel
theorem dX8_plus_351 : decode cX8_plus 351 = .ok (.ifCond .ge 7, 3) := by decide +kernel
theorem dX8_plus_354 : decode cX8_plus 354 = .ok (.iconst 1, 1) := by decide +kernel
theorem dX8_plus_355 : decode cX8_plus 355 = .ok (.goto 4, 3) := by decide +kernel
theorem dX8_plus_358 : decode cX8_plus 358 = .ok (.iconst 0, 1) := by decide +kernel
theorem dX8_plus_359 : decode cX8_plus 359 = .ok (.lload 17, 2) := by decide +kernel
theorem dX8_plus_361 : decode cX8_plus 361 = .ok (.iload 12, 2) := by decide +kernel
theorem dX8_plus_363 : decode cX8_plus 363 = .ok (.iload 16, 2) := by decide +kernel
theorem dX8_plus_365 : decode cX8_plus 365 = .ok (.invokestatic 105, 3) := by decide +kernel
theorem dX8_plus_368 : decode cX8_plus 368 = .ok (.lreturn, 1) := by decide +kernel
theorem dX8_timesOf_0 : decode cX8_timesOf 0 = .ok (.lload_n 0, 1) := by decide +kernel
theorem dX8_timesOf_1 : decode cX8_timesOf 1 = .ok (.ldc2_w 82, 3) := by decide +kernel
theorem dX8_timesOf_4 : decode cX8_timesOf 4 = .ok (.lcmp, 1) := by decide +kernel
theorem dX8_timesOf_5 : decode cX8_timesOf 5 = .ok (.ifCond .eq 39, 3) := by decide +kernel
theorem dX8_timesOf_8 : decode cX8_timesOf 8 = .ok (.lload_n 2, 1) := by decide +kernel
theorem dX8_timesOf_9 : decode cX8_timesOf 9 = .ok (.ldc2_w 82, 3) := by decide +kernel
theorem dX8_timesOf_12 : decode cX8_timesOf 12 = .ok (.lcmp, 1) := by decide +kernel
theorem dX8_timesOf_13 : decode cX8_timesOf 13 = .ok (.ifCond .eq 31, 3) := by decide +kernel
theorem dX8_timesOf_16 : decode cX8_timesOf 16 = .ok (.lload_n 0, 1) := by decide +kernel
theorem dX8_timesOf_17 : decode cX8_timesOf 17 = .ok (.invokestatic 94, 3) := by decide +kernel
theorem dX8_timesOf_20 : decode cX8_timesOf 20 = .ok (.ifCond .eq 10, 3) := by decide +kernel
theorem dX8_timesOf_23 : decode cX8_timesOf 23 = .ok (.lload_n 2, 1) := by decide +kernel
theorem dX8_timesOf_24 : decode cX8_timesOf 24 = .ok (.invokestatic 109, 3) := by decide +kernel
theorem dX8_timesOf_27 : decode cX8_timesOf 27 = .ok (.ifCond .ne 17, 3) := by decide +kernel
theorem dX8_timesOf_30 : decode cX8_timesOf 30 = .ok (.lload_n 0, 1) := by decide +kernel
theorem dX8_timesOf_31 : decode cX8_timesOf 31 = .ok (.invokestatic 109, 3) := by decide +kernel
theorem dX8_timesOf_34 : decode cX8_timesOf 34 = .ok (.ifCond .eq 14, 3) := by decide +kernel
theorem dX8_timesOf_37 : decode cX8_timesOf 37 = .ok (.lload_n 2, 1) := by decide +kernel
theorem dX8_timesOf_38 : decode cX8_timesOf 38 = .ok (.invokestatic 94, 3) := by decide +kernel
theorem dX8_timesOf_41 : decode cX8_timesOf 41 = .ok (.ifCond .eq 7, 3) := by decide +kernel
theorem dX8_timesOf_44 : decode cX8_timesOf 44 = .ok (.ldc2_w 82, 3) := by decide +kernel
theorem dX8_timesOf_47 : decode cX8_timesOf 47 = .ok (.lreturn, 1) := by decide +kernel
theorem dX8_timesOf_48 : decode cX8_timesOf 48 = .ok (.lload_n 0, 1) := by decide +kernel
theorem dX8_timesOf_49 : decode cX8_timesOf 49 = .ok (.lconst 0, 1) := by decide +kernel
theorem dX8_timesOf_50 : decode cX8_timesOf 50 = .ok (.lcmp, 1) := by decide +kernel
theorem dX8_timesOf_51 : decode cX8_timesOf 51 = .ok (.ifCond .ge 7, 3) := by decide +kernel
theorem dX8_timesOf_54 : decode cX8_timesOf 54 = .ok (.iconst 1, 1) := by decide +kernel
theorem dX8_timesOf_55 : decode cX8_timesOf 55 = .ok (.goto 4, 3) := by decide +kernel
theorem dX8_timesOf_58 : decode cX8_timesOf 58 = .ok (.iconst 0, 1) := by decide +kernel
theorem dX8_timesOf_59 : decode cX8_timesOf 59 = .ok (.lload_n 2, 1) := by decide +kernel
theorem dX8_timesOf_60 : decode cX8_timesOf 60 = .ok (.lconst 0, 1) := by decide +kernel
theorem dX8_timesOf_61 : decode cX8_timesOf 61 = .ok (.lcmp, 1) := by decide +kernel
theorem dX8_timesOf_62 : decode cX8_timesOf 62 = .ok (.ifCond .ge 7, 3) := by decide +kernel
theorem dX8_timesOf_65 : decode cX8_timesOf 65 = .ok (.iconst 1, 1) := by decide +kernel
theorem dX8_timesOf_66 : decode cX8_timesOf 66 = .ok (.goto 4, 3) := by decide +kernel
theorem dX8_timesOf_69 : decode cX8_timesOf 69 = .ok (.iconst 0, 1) := by decide +kernel
theorem dX8_timesOf_70 : decode cX8_timesOf 70 = .ok (.if_icmp .eq 7, 3) := by decide +kernel
theorem dX8_timesOf_73 : decode cX8_timesOf 73 = .ok (.iconst 1, 1) := by decide +kernel
theorem dX8_timesOf_74 : decode cX8_timesOf 74 = .ok (.goto 4, 3) := by decide +kernel
theorem dX8_timesOf_77 : decode cX8_timesOf 77 = .ok (.iconst 0, 1) := by decide +kernel
theorem dX8_timesOf_78 : decode cX8_timesOf 78 = .ok (.istore 4, 2) := by decide +kernel
theorem dX8_timesOf_80 : decode cX8_timesOf 80 = .ok (.lload_n 0, 1) := by decide +kernel
theorem dX8_timesOf_81 : decode cX8_timesOf 81 = .ok (.invokestatic 94, 3) := by decide +kernel
theorem dX8_timesOf_84 : decode cX8_timesOf 84 = .ok (.ifCond .ne 10, 3) := by decide +kernel
theorem dX8_timesOf_87 : decode cX8_timesOf 87 = .ok (.lload_n 2, 1) := by decide +kernel
theorem dX8_timesOf_88 : decode cX8_timesOf 88 = .ok (.invokestatic 94, 3) := by decide +kernel
theorem dX8_timesOf_91 : decode cX8_timesOf 91 = .ok (.ifCond .eq 12, 3) := by decide +kernel
theorem dX8_timesOf_94 : decode cX8_timesOf 94 = .ok (.iload 4, 2) := by decide +kernel
theorem dX8_timesOf_96 : decode cX8_timesOf 96 = .ok (.ldc2_w 68, 3) := by decide +kernel
theorem dX8_timesOf_99 : decode cX8_timesOf 99 = .ok (.invokestatic 84, 3) := by decide +kernel
theorem dX8_timesOf_102 : decode cX8_timesOf 102 = .ok (.lreturn, 1) := by decide +kernel
theorem dX8_timesOf_103 : decode cX8_timesOf 103 = .ok (.iload 4, 2) := by decide +kernel
theorem dX8_timesOf_105 : decode cX8_timesOf 105 = .ok (.lload_n 0, 1) := by decide +kernel
theorem dX8_timesOf_106 : decode cX8_timesOf 106 = .ok (.invokestatic 102, 3) := by decide +kernel
theorem dX8_timesOf_109 : decode cX8_timesOf 109 = .ok (.lload_n 2, 1) := by decide +kernel
theorem dX8_timesOf_110 : decode cX8_timesOf 110 = .ok (.invokestatic 102, 3) := by decide +kernel
theorem dX8_timesOf_113 : decode cX8_timesOf 113 = .ok (.lmul, 1) := by decide +kernel
theorem dX8_timesOf_114 : decode cX8_timesOf 114 = .ok (.lload_n 0, 1) := by decide +kernel
theorem dX8_timesOf_115 : decode cX8_timesOf 115 = .ok (.invokestatic 98, 3) := by decide +kernel
theorem dX8_timesOf_118 : decode cX8_timesOf 118 = .ok (.lload_n 2, 1) := by decide +kernel
theorem dX8_timesOf_119 : decode cX8_timesOf 119 = .ok (.invokestatic 98, 3) := by decide +kernel
theorem dX8_timesOf_122 : decode cX8_timesOf 122 = .ok (.iadd, 1) := by decide +kernel
theorem dX8_timesOf_123 : decode cX8_timesOf 123 = .ok (.iconst 0, 1) := by decide +kernel
theorem dX8_timesOf_124 : decode cX8_timesOf 124 = .ok (.invokestatic 105, 3) := by decide +kernel
theorem dX8_timesOf_127 : decode cX8_timesOf 127 = .ok (.lreturn, 1) := by decide +kernel
theorem dX8_byOf_0 : decode cX8_byOf 0 = .ok (.lload_n 0, 1) := by decide +kernel
theorem dX8_byOf_1 : decode cX8_byOf 1 = .ok (.ldc2_w 82, 3) := by decide +kernel
theorem dX8_byOf_4 : decode cX8_byOf 4 = .ok (.lcmp, 1) := by decide +kernel
theorem dX8_byOf_5 : decode cX8_byOf 5 = .ok (.ifCond .eq 39, 3) := by decide +kernel
theorem dX8_byOf_8 : decode cX8_byOf 8 = .ok (.lload_n 2, 1) := by decide +kernel
theorem dX8_byOf_9 : decode cX8_byOf 9 = .ok (.ldc2_w 82, 3) := by decide +kernel
theorem dX8_byOf_12 : decode cX8_byOf 12 = .ok (.lcmp, 1) := by decide +kernel
theorem dX8_byOf_13 : decode cX8_byOf 13 = .ok (.ifCond .eq 31, 3) := by decide +kernel
theorem dX8_byOf_16 : decode cX8_byOf 16 = .ok (.lload_n 0, 1) := by decide +kernel
theorem dX8_byOf_17 : decode cX8_byOf 17 = .ok (.invokestatic 94, 3) := by decide +kernel
theorem dX8_byOf_20 : decode cX8_byOf 20 = .ok (.ifCond .eq 10, 3) := by decide +kernel
theorem dX8_byOf_23 : decode cX8_byOf 23 = .ok (.lload_n 2, 1) := by decide +kernel
theorem dX8_byOf_24 : decode cX8_byOf 24 = .ok (.invokestatic 94, 3) := by decide +kernel
theorem dX8_byOf_27 : decode cX8_byOf 27 = .ok (.ifCond .ne 17, 3) := by decide +kernel
theorem dX8_byOf_30 : decode cX8_byOf 30 = .ok (.lload_n 0, 1) := by decide +kernel
theorem dX8_byOf_31 : decode cX8_byOf 31 = .ok (.invokestatic 109, 3) := by decide +kernel
theorem dX8_byOf_34 : decode cX8_byOf 34 = .ok (.ifCond .eq 14, 3) := by decide +kernel
theorem dX8_byOf_37 : decode cX8_byOf 37 = .ok (.lload_n 2, 1) := by decide +kernel
theorem dX8_byOf_38 : decode cX8_byOf 38 = .ok (.invokestatic 109, 3) := by decide +kernel
theorem dX8_byOf_41 : decode cX8_byOf 41 = .ok (.ifCond .eq 7, 3) := by decide +kernel
theorem dX8_byOf_44 : decode cX8_byOf 44 = .ok (.ldc2_w 82, 3) := by decide +kernel
theorem dX8_byOf_47 : decode cX8_byOf 47 = .ok (.lreturn, 1) := by decide +kernel
theorem dX8_byOf_48 : decode cX8_byOf 48 = .ok (.lload_n 0, 1) := by decide +kernel
theorem dX8_byOf_49 : decode cX8_byOf 49 = .ok (.lconst 0, 1) := by decide +kernel
theorem dX8_byOf_50 : decode cX8_byOf 50 = .ok (.lcmp, 1) := by decide +kernel
theorem dX8_byOf_51 : decode cX8_byOf 51 = .ok (.ifCond .ge 7, 3) := by decide +kernel
theorem dX8_byOf_54 : decode cX8_byOf 54 = .ok (.iconst 1, 1) := by decide +kernel
theorem dX8_byOf_55 : decode cX8_byOf 55 = .ok (.goto 4, 3) := by decide +kernel
theorem dX8_byOf_58 : decode cX8_byOf 58 = .ok (.iconst 0, 1) := by decide +kernel
theorem dX8_byOf_59 : decode cX8_byOf 59 = .ok (.lload_n 2, 1) := by decide +kernel
theorem dX8_byOf_60 : decode cX8_byOf 60 = .ok (.lconst 0, 1) := by decide +kernel
theorem dX8_byOf_61 : decode cX8_byOf 61 = .ok (.lcmp, 1) := by decide +kernel
theorem dX8_byOf_62 : decode cX8_byOf 62 = .ok (.ifCond .ge 7, 3) := by decide +kernel
theorem dX8_byOf_65 : decode cX8_byOf 65 = .ok (.iconst 1, 1) := by decide +kernel
theorem dX8_byOf_66 : decode cX8_byOf 66 = .ok (.goto 4, 3) := by decide +kernel
theorem dX8_byOf_69 : decode cX8_byOf 69 = .ok (.iconst 0, 1) := by decide +kernel
theorem dX8_byOf_70 : decode cX8_byOf 70 = .ok (.if_icmp .eq 7, 3) := by decide +kernel
theorem dX8_byOf_73 : decode cX8_byOf 73 = .ok (.iconst 1, 1) := by decide +kernel
theorem dX8_byOf_74 : decode cX8_byOf 74 = .ok (.goto 4, 3) := by decide +kernel
theorem dX8_byOf_77 : decode cX8_byOf 77 = .ok (.iconst 0, 1) := by decide +kernel
theorem dX8_byOf_78 : decode cX8_byOf 78 = .ok (.istore 4, 2) := by decide +kernel
theorem dX8_byOf_80 : decode cX8_byOf 80 = .ok (.lload_n 0, 1) := by decide +kernel
theorem dX8_byOf_81 : decode cX8_byOf 81 = .ok (.invokestatic 94, 3) := by decide +kernel
theorem dX8_byOf_84 : decode cX8_byOf 84 = .ok (.ifCond .ne 10, 3) := by decide +kernel
theorem dX8_byOf_87 : decode cX8_byOf 87 = .ok (.lload_n 2, 1) := by decide +kernel
theorem dX8_byOf_88 : decode cX8_byOf 88 = .ok (.invokestatic 109, 3) := by decide +kernel
theorem dX8_byOf_91 : decode cX8_byOf 91 = .ok (.ifCond .eq 12, 3) := by decide +kernel
theorem dX8_byOf_94 : decode cX8_byOf 94 = .ok (.iload 4, 2) := by decide +kernel
theorem dX8_byOf_96 : decode cX8_byOf 96 = .ok (.ldc2_w 68, 3) := by decide +kernel
theorem dX8_byOf_99 : decode cX8_byOf 99 = .ok (.invokestatic 84, 3) := by decide +kernel
theorem dX8_byOf_102 : decode cX8_byOf 102 = .ok (.lreturn, 1) := by decide +kernel
theorem dX8_byOf_103 : decode cX8_byOf 103 = .ok (.lload_n 0, 1) := by decide +kernel
theorem dX8_byOf_104 : decode cX8_byOf 104 = .ok (.invokestatic 109, 3) := by decide +kernel
theorem dX8_byOf_107 : decode cX8_byOf 107 = .ok (.ifCond .ne 10, 3) := by decide +kernel
theorem dX8_byOf_110 : decode cX8_byOf 110 = .ok (.lload_n 2, 1) := by decide +kernel
theorem dX8_byOf_111 : decode cX8_byOf 111 = .ok (.invokestatic 94, 3) := by decide +kernel
theorem dX8_byOf_114 : decode cX8_byOf 114 = .ok (.ifCond .eq 10, 3) := by decide +kernel
theorem dX8_byOf_117 : decode cX8_byOf 117 = .ok (.iload 4, 2) := by decide +kernel
theorem dX8_byOf_119 : decode cX8_byOf 119 = .ok (.lconst 0, 1) := by decide +kernel
theorem dX8_byOf_120 : decode cX8_byOf 120 = .ok (.invokestatic 84, 3) := by decide +kernel
theorem dX8_byOf_123 : decode cX8_byOf 123 = .ok (.lreturn, 1) := by decide +kernel
theorem dX8_byOf_124 : decode cX8_byOf 124 = .ok (.lload_n 0, 1) := by decide +kernel
theorem dX8_byOf_125 : decode cX8_byOf 125 = .ok (.invokestatic 102, 3) := by decide +kernel
theorem dX8_byOf_128 : decode cX8_byOf 128 = .ok (.lstore 5, 2) := by decide +kernel
theorem dX8_byOf_130 : decode cX8_byOf 130 = .ok (.lload_n 0, 1) := by decide +kernel
theorem dX8_byOf_131 : decode cX8_byOf 131 = .ok (.invokestatic 98, 3) := by decide +kernel
theorem dX8_byOf_134 : decode cX8_byOf 134 = .ok (.istore 7, 2) := by decide +kernel
theorem dX8_byOf_136 : decode cX8_byOf 136 = .ok (.lload 5, 2) := by decide +kernel
theorem dX8_byOf_138 : decode cX8_byOf 138 = .ok (.ldc2_w 80, 3) := by decide +kernel
theorem dX8_byOf_141 : decode cX8_byOf 141 = .ok (.lcmp, 1) := by decide +kernel
theorem dX8_byOf_142 : decode cX8_byOf 142 = .ok (.ifCond .ge 17, 3) := by decide +kernel
theorem dX8_byOf_145 : decode cX8_byOf 145 = .ok (.lload 5, 2) := by decide +kernel
theorem dX8_byOf_147 : decode cX8_byOf 147 = .ok (.ldc2_w 90, 3) := by decide +kernel
theorem dX8_byOf_150 : decode cX8_byOf 150 = .ok (.lmul, 1) := by decide +kernel
theorem dX8_byOf_151 : decode cX8_byOf 151 = .ok (.lstore 5, 2) := by decide +kernel
theorem dX8_byOf_153 : decode cX8_byOf 153 = .ok (.iinc 7 (-1), 3) := by decide +kernel
theorem dX8_byOf_156 : decode cX8_byOf 156 = .ok (.goto (-20), 3) := by decide +kernel
theorem dX8_byOf_159 : decode cX8_byOf 159 = .ok (.lload_n 2, 1) := by decide +kernel
theorem dX8_byOf_160 : decode cX8_byOf 160 = .ok (.invokestatic 102, 3) := by decide +kernel
theorem dX8_byOf_163 : decode cX8_byOf 163 = .ok (.lstore 8, 2) := by decide +kernel
theorem dX8_byOf_165 : decode cX8_byOf 165 = .ok (.lload 5, 2) := by decide +kernel
theorem dX8_byOf_167 : decode cX8_byOf 167 = .ok (.bipush 38, 2) := by decide +kernel
theorem dX8_byOf_169 : decode cX8_byOf 169 = .ok (.lshl, 1) := by decide +kernel
theorem dX8_byOf_170 : decode cX8_byOf 170 = .ok (.lstore 10, 2) := by decide +kernel
theorem dX8_byOf_172 : decode cX8_byOf 172 = .ok (.iload 4, 2) := by decide +kernel
theorem dX8_byOf_174 : decode cX8_byOf 174 = .ok (.lload 10, 2) := by decide +kernel
theorem dX8_byOf_176 : decode cX8_byOf 176 = .ok (.lload 8, 2) := by decide +kernel
theorem dX8_byOf_178 : decode cX8_byOf 178 = .ok (.ldiv, 1) := by decide +kernel
theorem dX8_byOf_179 : decode cX8_byOf 179 = .ok (.iload 7, 2) := by decide +kernel
theorem dX8_byOf_181 : decode cX8_byOf 181 = .ok (.bipush 38, 2) := by decide +kernel
theorem dX8_byOf_183 : decode cX8_byOf 183 = .ok (.isub, 1) := by decide +kernel
theorem dX8_byOf_184 : decode cX8_byOf 184 = .ok (.lload_n 2, 1) := by decide +kernel
theorem dX8_byOf_185 : decode cX8_byOf 185 = .ok (.invokestatic 98, 3) := by decide +kernel
theorem dX8_byOf_188 : decode cX8_byOf 188 = .ok (.isub, 1) := by decide +kernel
theorem dX8_byOf_189 : decode cX8_byOf 189 = .ok (.lload 10, 2) := by decide +kernel
theorem dX8_byOf_191 : decode cX8_byOf 191 = .ok (.lload 8, 2) := by decide +kernel
theorem dX8_byOf_193 : decode cX8_byOf 193 = .ok (.lrem, 1) := by decide +kernel
theorem dX8_byOf_194 : decode cX8_byOf 194 = .ok (.lconst 0, 1) := by decide +kernel
theorem dX8_byOf_195 : decode cX8_byOf 195 = .ok (.lcmp, 1) := by decide +kernel
theorem dX8_byOf_196 : decode cX8_byOf 196 = .ok (.ifCond .eq 7, 3) := by decide +kernel
theorem dX8_byOf_199 : decode cX8_byOf 199 = .ok (.iconst 1, 1) := by decide +kernel
theorem dX8_byOf_200 : decode cX8_byOf 200 = .ok (.goto 4, 3) := by decide +kernel
theorem dX8_byOf_203 : decode cX8_byOf 203 = .ok (.iconst 0, 1) := by decide +kernel
theorem dX8_byOf_204 : decode cX8_byOf 204 = .ok (.invokestatic 105, 3) := by decide +kernel
theorem dX8_byOf_207 : decode cX8_byOf 207 = .ok (.lreturn, 1) := by decide +kernel
theorem dX8_restOf_0 : decode cX8_restOf 0 = .ok (.lload_n 0, 1) := by decide +kernel
theorem dX8_restOf_1 : decode cX8_restOf 1 = .ok (.ldc2_w 82, 3) := by decide +kernel
theorem dX8_restOf_4 : decode cX8_restOf 4 = .ok (.lcmp, 1) := by decide +kernel
theorem dX8_restOf_5 : decode cX8_restOf 5 = .ok (.ifCond .eq 25, 3) := by decide +kernel
theorem dX8_restOf_8 : decode cX8_restOf 8 = .ok (.lload_n 2, 1) := by decide +kernel
theorem dX8_restOf_9 : decode cX8_restOf 9 = .ok (.ldc2_w 82, 3) := by decide +kernel
theorem dX8_restOf_12 : decode cX8_restOf 12 = .ok (.lcmp, 1) := by decide +kernel
theorem dX8_restOf_13 : decode cX8_restOf 13 = .ok (.ifCond .eq 17, 3) := by decide +kernel
theorem dX8_restOf_16 : decode cX8_restOf 16 = .ok (.lload_n 0, 1) := by decide +kernel
theorem dX8_restOf_17 : decode cX8_restOf 17 = .ok (.invokestatic 94, 3) := by decide +kernel
theorem dX8_restOf_20 : decode cX8_restOf 20 = .ok (.ifCond .ne 10, 3) := by decide +kernel
theorem dX8_restOf_23 : decode cX8_restOf 23 = .ok (.lload_n 2, 1) := by decide +kernel
theorem dX8_restOf_24 : decode cX8_restOf 24 = .ok (.invokestatic 109, 3) := by decide +kernel
theorem dX8_restOf_27 : decode cX8_restOf 27 = .ok (.ifCond .eq 7, 3) := by decide +kernel
theorem dX8_restOf_30 : decode cX8_restOf 30 = .ok (.ldc2_w 82, 3) := by decide +kernel
theorem dX8_restOf_33 : decode cX8_restOf 33 = .ok (.lreturn, 1) := by decide +kernel
theorem dX8_restOf_34 : decode cX8_restOf 34 = .ok (.lload_n 2, 1) := by decide +kernel
theorem dX8_restOf_35 : decode cX8_restOf 35 = .ok (.invokestatic 94, 3) := by decide +kernel
theorem dX8_restOf_38 : decode cX8_restOf 38 = .ok (.ifCond .ne 21, 3) := by decide +kernel
theorem dX8_restOf_41 : decode cX8_restOf 41 = .ok (.lload_n 0, 1) := by decide +kernel
theorem dX8_restOf_42 : decode cX8_restOf 42 = .ok (.invokestatic 109, 3) := by decide +kernel
theorem dX8_restOf_45 : decode cX8_restOf 45 = .ok (.ifCond .ne 14, 3) := by decide +kernel
theorem dX8_restOf_48 : decode cX8_restOf 48 = .ok (.lload_n 0, 1) := by decide +kernel
theorem dX8_restOf_49 : decode cX8_restOf 49 = .ok (.invokestatic 98, 3) := by decide +kernel
theorem dX8_restOf_52 : decode cX8_restOf 52 = .ok (.lload_n 2, 1) := by decide +kernel
theorem dX8_restOf_53 : decode cX8_restOf 53 = .ok (.invokestatic 98, 3) := by decide +kernel
theorem dX8_restOf_56 : decode cX8_restOf 56 = .ok (.if_icmp .ge 5, 3) := by decide +kernel
theorem dX8_restOf_59 : decode cX8_restOf 59 = .ok (.lload_n 0, 1) := by decide +kernel
theorem dX8_restOf_60 : decode cX8_restOf 60 = .ok (.lreturn, 1) := by decide +kernel
theorem dX8_restOf_61 : decode cX8_restOf 61 = .ok (.lload_n 2, 1) := by decide +kernel
theorem dX8_restOf_62 : decode cX8_restOf 62 = .ok (.invokestatic 102, 3) := by decide +kernel
theorem dX8_restOf_65 : decode cX8_restOf 65 = .ok (.lstore 4, 2) := by decide +kernel
theorem dX8_restOf_67 : decode cX8_restOf 67 = .ok (.lload_n 0, 1) := by decide +kernel
theorem dX8_restOf_68 : decode cX8_restOf 68 = .ok (.invokestatic 102, 3) := by decide +kernel
theorem dX8_restOf_71 : decode cX8_restOf 71 = .ok (.lload 4, 2) := by decide +kernel
theorem dX8_restOf_73 : decode cX8_restOf 73 = .ok (.lrem, 1) := by decide +kernel
theorem dX8_restOf_74 : decode cX8_restOf 74 = .ok (.lstore 6, 2) := by decide +kernel
theorem dX8_restOf_76 : decode cX8_restOf 76 = .ok (.lload_n 0, 1) := by decide +kernel
theorem dX8_restOf_77 : decode cX8_restOf 77 = .ok (.invokestatic 98, 3) := by decide +kernel
theorem dX8_restOf_80 : decode cX8_restOf 80 = .ok (.lload_n 2, 1) := by decide +kernel
theorem dX8_restOf_81 : decode cX8_restOf 81 = .ok (.invokestatic 98, 3) := by decide +kernel
theorem dX8_restOf_84 : decode cX8_restOf 84 = .ok (.isub, 1) := by decide +kernel
theorem dX8_restOf_85 : decode cX8_restOf 85 = .ok (.istore 8, 2) := by decide +kernel
theorem dX8_restOf_87 : decode cX8_restOf 87 = .ok (.iload 8, 2) := by decide +kernel
theorem dX8_restOf_89 : decode cX8_restOf 89 = .ok (.ifCond .le 20, 3) := by decide +kernel
theorem dX8_restOf_92 : decode cX8_restOf 92 = .ok (.lload 6, 2) := by decide +kernel
theorem dX8_restOf_94 : decode cX8_restOf 94 = .ok (.ldc2_w 90, 3) := by decide +kernel
theorem dX8_restOf_97 : decode cX8_restOf 97 = .ok (.lmul, 1) := by decide +kernel
theorem dX8_restOf_98 : decode cX8_restOf 98 = .ok (.lload 4, 2) := by decide +kernel
theorem dX8_restOf_100 : decode cX8_restOf 100 = .ok (.lrem, 1) := by decide +kernel
theorem dX8_restOf_101 : decode cX8_restOf 101 = .ok (.lstore 6, 2) := by decide +kernel
theorem dX8_restOf_103 : decode cX8_restOf 103 = .ok (.iinc 8 (-1), 3) := by decide +kernel
theorem dX8_restOf_106 : decode cX8_restOf 106 = .ok (.goto (-19), 3) := by decide +kernel
theorem dX8_restOf_109 : decode cX8_restOf 109 = .ok (.lload_n 0, 1) := by decide +kernel
theorem dX8_restOf_110 : decode cX8_restOf 110 = .ok (.lconst 0, 1) := by decide +kernel
theorem dX8_restOf_111 : decode cX8_restOf 111 = .ok (.lcmp, 1) := by decide +kernel
theorem dX8_restOf_112 : decode cX8_restOf 112 = .ok (.ifCond .ge 7, 3) := by decide +kernel
theorem dX8_restOf_115 : decode cX8_restOf 115 = .ok (.iconst 1, 1) := by decide +kernel
theorem dX8_restOf_116 : decode cX8_restOf 116 = .ok (.goto 4, 3) := by decide +kernel
theorem dX8_restOf_119 : decode cX8_restOf 119 = .ok (.iconst 0, 1) := by decide +kernel
theorem dX8_restOf_120 : decode cX8_restOf 120 = .ok (.lload 6, 2) := by decide +kernel
theorem dX8_restOf_122 : decode cX8_restOf 122 = .ok (.lload_n 2, 1) := by decide +kernel
theorem dX8_restOf_123 : decode cX8_restOf 123 = .ok (.invokestatic 98, 3) := by decide +kernel
theorem dX8_restOf_126 : decode cX8_restOf 126 = .ok (.iconst 0, 1) := by decide +kernel
theorem dX8_restOf_127 : decode cX8_restOf 127 = .ok (.invokestatic 105, 3) := by decide +kernel
theorem dX8_restOf_130 : decode cX8_restOf 130 = .ok (.lreturn, 1) := by decide +kernel
theorem dX8_rootOf_0 : decode cX8_rootOf 0 = .ok (.lload_n 0, 1) := by decide +kernel
theorem dX8_rootOf_1 : decode cX8_rootOf 1 = .ok (.ldc2_w 82, 3) := by decide +kernel
theorem dX8_rootOf_4 : decode cX8_rootOf 4 = .ok (.lcmp, 1) := by decide +kernel
theorem dX8_rootOf_5 : decode cX8_rootOf 5 = .ok (.ifCond .eq 11, 3) := by decide +kernel
theorem dX8_rootOf_8 : decode cX8_rootOf 8 = .ok (.lload_n 0, 1) := by decide +kernel
theorem dX8_rootOf_9 : decode cX8_rootOf 9 = .ok (.ldc2_w 74, 3) := by decide +kernel
theorem dX8_rootOf_12 : decode cX8_rootOf 12 = .ok (.lcmp, 1) := by decide +kernel
theorem dX8_rootOf_13 : decode cX8_rootOf 13 = .ok (.ifCond .ge 7, 3) := by decide +kernel
theorem dX8_rootOf_16 : decode cX8_rootOf 16 = .ok (.ldc2_w 82, 3) := by decide +kernel
theorem dX8_rootOf_19 : decode cX8_rootOf 19 = .ok (.lreturn, 1) := by decide +kernel
theorem dX8_rootOf_20 : decode cX8_rootOf 20 = .ok (.lload_n 0, 1) := by decide +kernel
theorem dX8_rootOf_21 : decode cX8_rootOf 21 = .ok (.invokestatic 109, 3) := by decide +kernel
theorem dX8_rootOf_24 : decode cX8_rootOf 24 = .ok (.ifCond .ne 10, 3) := by decide +kernel
theorem dX8_rootOf_27 : decode cX8_rootOf 27 = .ok (.lload_n 0, 1) := by decide +kernel
theorem dX8_rootOf_28 : decode cX8_rootOf 28 = .ok (.invokestatic 94, 3) := by decide +kernel
theorem dX8_rootOf_31 : decode cX8_rootOf 31 = .ok (.ifCond .eq 5, 3) := by decide +kernel
theorem dX8_rootOf_34 : decode cX8_rootOf 34 = .ok (.lload_n 0, 1) := by decide +kernel
theorem dX8_rootOf_35 : decode cX8_rootOf 35 = .ok (.lreturn, 1) := by decide +kernel
theorem dX8_rootOf_36 : decode cX8_rootOf 36 = .ok (.lload_n 0, 1) := by decide +kernel
theorem dX8_rootOf_37 : decode cX8_rootOf 37 = .ok (.invokestatic 102, 3) := by decide +kernel
theorem dX8_rootOf_40 : decode cX8_rootOf 40 = .ok (.lstore_n 2, 1) := by decide +kernel
theorem dX8_rootOf_41 : decode cX8_rootOf 41 = .ok (.lload_n 0, 1) := by decide +kernel
theorem dX8_rootOf_42 : decode cX8_rootOf 42 = .ok (.invokestatic 98, 3) := by decide +kernel
theorem dX8_rootOf_45 : decode cX8_rootOf 45 = .ok (.istore 4, 2) := by decide +kernel
theorem dX8_rootOf_47 : decode cX8_rootOf 47 = .ok (.lload_n 2, 1) := by decide +kernel
theorem dX8_rootOf_48 : decode cX8_rootOf 48 = .ok (.ldc2_w 80, 3) := by decide +kernel
theorem dX8_rootOf_51 : decode cX8_rootOf 51 = .ok (.lcmp, 1) := by decide +kernel
theorem dX8_rootOf_52 : decode cX8_rootOf 52 = .ok (.ifCond .ge 15, 3) := by decide +kernel
theorem dX8_rootOf_55 : decode cX8_rootOf 55 = .ok (.lload_n 2, 1) := by decide +kernel
theorem dX8_rootOf_56 : decode cX8_rootOf 56 = .ok (.ldc2_w 90, 3) := by decide +kernel
theorem dX8_rootOf_59 : decode cX8_rootOf 59 = .ok (.lmul, 1) := by decide +kernel
theorem dX8_rootOf_60 : decode cX8_rootOf 60 = .ok (.lstore_n 2, 1) := by decide +kernel
theorem dX8_rootOf_61 : decode cX8_rootOf 61 = .ok (.iinc 4 (-1), 3) := by decide +kernel
theorem dX8_rootOf_64 : decode cX8_rootOf 64 = .ok (.goto (-17), 3) := by decide +kernel
theorem dX8_rootOf_67 : decode cX8_rootOf 67 = .ok (.iload 4, 2) := by decide +kernel
theorem dX8_rootOf_69 : decode cX8_rootOf 69 = .ok (.bipush 37, 2) := by decide +kernel
theorem dX8_rootOf_71 : decode cX8_rootOf 71 = .ok (.isub, 1) := by decide +kernel
theorem dX8_rootOf_72 : decode cX8_rootOf 72 = .ok (.iconst 2, 1) := by decide +kernel
theorem dX8_rootOf_73 : decode cX8_rootOf 73 = .ok (.irem, 1) := by decide +kernel
theorem dX8_rootOf_74 : decode cX8_rootOf 74 = .ok (.ifCond .ne 8, 3) := by decide +kernel
theorem dX8_rootOf_77 : decode cX8_rootOf 77 = .ok (.bipush 37, 2) := by decide +kernel
theorem dX8_rootOf_79 : decode cX8_rootOf 79 = .ok (.goto 5, 3) := by decide +kernel
theorem dX8_rootOf_82 : decode cX8_rootOf 82 = .ok (.bipush 38, 2) := by decide +kernel
theorem dX8_rootOf_84 : decode cX8_rootOf 84 = .ok (.istore 5, 2) := by decide +kernel
theorem dX8_rootOf_86 : decode cX8_rootOf 86 = .ok (.lload_n 2, 1) := by decide +kernel
theorem dX8_rootOf_87 : decode cX8_rootOf 87 = .ok (.iload 5, 2) := by decide +kernel
theorem dX8_rootOf_89 : decode cX8_rootOf 89 = .ok (.lshl, 1) := by decide +kernel
theorem dX8_rootOf_90 : decode cX8_rootOf 90 = .ok (.lstore_n 2, 1) := by decide +kernel
theorem dX8_rootOf_91 : decode cX8_rootOf 91 = .ok (.iload 4, 2) := by decide +kernel
theorem dX8_rootOf_93 : decode cX8_rootOf 93 = .ok (.iload 5, 2) := by decide +kernel
theorem dX8_rootOf_95 : decode cX8_rootOf 95 = .ok (.isub, 1) := by decide +kernel
theorem dX8_rootOf_96 : decode cX8_rootOf 96 = .ok (.istore 4, 2) := by decide +kernel
theorem dX8_rootOf_98 : decode cX8_rootOf 98 = .ok (.lconst 0, 1) := by decide +kernel
theorem dX8_rootOf_99 : decode cX8_rootOf 99 = .ok (.lstore 6, 2) := by decide +kernel
theorem dX8_rootOf_101 : decode cX8_rootOf 101 = .ok (.ldc2_w 112, 3) := by decide +kernel
theorem dX8_rootOf_104 : decode cX8_rootOf 104 = .ok (.lstore 8, 2) := by decide +kernel
theorem dX8_rootOf_106 : decode cX8_rootOf 106 = .ok (.lload 8, 2) := by decide +kernel
theorem dX8_rootOf_108 : decode cX8_rootOf 108 = .ok (.lconst 0, 1) := by decide +kernel
theorem dX8_rootOf_109 : decode cX8_rootOf 109 = .ok (.lcmp, 1) := by decide +kernel
theorem dX8_rootOf_110 : decode cX8_rootOf 110 = .ok (.ifCond .le 39, 3) := by decide +kernel
theorem dX8_rootOf_113 : decode cX8_rootOf 113 = .ok (.lload 6, 2) := by decide +kernel
theorem dX8_rootOf_115 : decode cX8_rootOf 115 = .ok (.lload 6, 2) := by decide +kernel
theorem dX8_rootOf_117 : decode cX8_rootOf 117 = .ok (.lload 8, 2) := by decide +kernel
theorem dX8_rootOf_119 : decode cX8_rootOf 119 = .ok (.ladd, 1) := by decide +kernel
theorem dX8_rootOf_120 : decode cX8_rootOf 120 = .ok (.lload 6, 2) := by decide +kernel
theorem dX8_rootOf_122 : decode cX8_rootOf 122 = .ok (.lload 8, 2) := by decide +kernel
theorem dX8_rootOf_124 : decode cX8_rootOf 124 = .ok (.ladd, 1) := by decide +kernel
theorem dX8_rootOf_125 : decode cX8_rootOf 125 = .ok (.lmul, 1) := by decide +kernel
theorem dX8_rootOf_126 : decode cX8_rootOf 126 = .ok (.lload_n 2, 1) := by decide +kernel
theorem dX8_rootOf_127 : decode cX8_rootOf 127 = .ok (.lcmp, 1) := by decide +kernel
theorem dX8_rootOf_128 : decode cX8_rootOf 128 = .ok (.ifCond .gt 8, 3) := by decide +kernel
theorem dX8_rootOf_131 : decode cX8_rootOf 131 = .ok (.lload 8, 2) := by decide +kernel
theorem dX8_rootOf_133 : decode cX8_rootOf 133 = .ok (.goto 4, 3) := by decide +kernel
theorem dX8_rootOf_136 : decode cX8_rootOf 136 = .ok (.lconst 0, 1) := by decide +kernel
theorem dX8_rootOf_137 : decode cX8_rootOf 137 = .ok (.ladd, 1) := by decide +kernel
theorem dX8_rootOf_138 : decode cX8_rootOf 138 = .ok (.lstore 6, 2) := by decide +kernel
theorem dX8_rootOf_140 : decode cX8_rootOf 140 = .ok (.lload 8, 2) := by decide +kernel
theorem dX8_rootOf_142 : decode cX8_rootOf 142 = .ok (.iconst 1, 1) := by decide +kernel
theorem dX8_rootOf_143 : decode cX8_rootOf 143 = .ok (.lshr, 1) := by decide +kernel
theorem dX8_rootOf_144 : decode cX8_rootOf 144 = .ok (.lstore 8, 2) := by decide +kernel
theorem dX8_rootOf_146 : decode cX8_rootOf 146 = .ok (.goto (-40), 3) := by decide +kernel
theorem dX8_rootOf_149 : decode cX8_rootOf 149 = .ok (.iconst 0, 1) := by decide +kernel
theorem dX8_rootOf_150 : decode cX8_rootOf 150 = .ok (.lload 6, 2) := by decide +kernel
theorem dX8_rootOf_152 : decode cX8_rootOf 152 = .ok (.iload 4, 2) := by decide +kernel
theorem dX8_rootOf_154 : decode cX8_rootOf 154 = .ok (.iconst 2, 1) := by decide +kernel
theorem dX8_rootOf_155 : decode cX8_rootOf 155 = .ok (.idiv, 1) := by decide +kernel
theorem dX8_rootOf_156 : decode cX8_rootOf 156 = .ok (.lload 6, 2) := by decide +kernel
theorem dX8_rootOf_158 : decode cX8_rootOf 158 = .ok (.lload 6, 2) := by decide +kernel
theorem dX8_rootOf_160 : decode cX8_rootOf 160 = .ok (.lmul, 1) := by decide +kernel
theorem dX8_rootOf_161 : decode cX8_rootOf 161 = .ok (.lload_n 2, 1) := by decide +kernel
theorem dX8_rootOf_162 : decode cX8_rootOf 162 = .ok (.lcmp, 1) := by decide +kernel
theorem dX8_rootOf_163 : decode cX8_rootOf 163 = .ok (.ifCond .eq 7, 3) := by decide +kernel
theorem dX8_rootOf_166 : decode cX8_rootOf 166 = .ok (.iconst 1, 1) := by decide +kernel
theorem dX8_rootOf_167 : decode cX8_rootOf 167 = .ok (.goto 4, 3) := by decide +kernel
theorem dX8_rootOf_170 : decode cX8_rootOf 170 = .ok (.iconst 0, 1) := by decide +kernel
theorem dX8_rootOf_171 : decode cX8_rootOf 171 = .ok (.invokestatic 105, 3) := by decide +kernel
theorem dX8_rootOf_174 : decode cX8_rootOf 174 = .ok (.lreturn, 1) := by decide +kernel
theorem dX8_wholeOf_0 : decode cX8_wholeOf 0 = .ok (.lload_n 0, 1) := by decide +kernel
theorem dX8_wholeOf_1 : decode cX8_wholeOf 1 = .ok (.ldc2_w 82, 3) := by decide +kernel
theorem dX8_wholeOf_4 : decode cX8_wholeOf 4 = .ok (.lcmp, 1) := by decide +kernel
theorem dX8_wholeOf_5 : decode cX8_wholeOf 5 = .ok (.ifCond .eq 10, 3) := by decide +kernel
theorem dX8_wholeOf_8 : decode cX8_wholeOf 8 = .ok (.lload_n 0, 1) := by decide +kernel
theorem dX8_wholeOf_9 : decode cX8_wholeOf 9 = .ok (.invokestatic 98, 3) := by decide +kernel
theorem dX8_wholeOf_12 : decode cX8_wholeOf 12 = .ok (.ifCond .lt 5, 3) := by decide +kernel
theorem dX8_wholeOf_15 : decode cX8_wholeOf 15 = .ok (.lload_n 0, 1) := by decide +kernel
theorem dX8_wholeOf_16 : decode cX8_wholeOf 16 = .ok (.lreturn, 1) := by decide +kernel
theorem dX8_wholeOf_17 : decode cX8_wholeOf 17 = .ok (.lload_n 0, 1) := by decide +kernel
theorem dX8_wholeOf_18 : decode cX8_wholeOf 18 = .ok (.invokestatic 98, 3) := by decide +kernel
theorem dX8_wholeOf_21 : decode cX8_wholeOf 21 = .ok (.ineg, 1) := by decide +kernel
theorem dX8_wholeOf_22 : decode cX8_wholeOf 22 = .ok (.istore_n 3, 1) := by decide +kernel
theorem dX8_wholeOf_23 : decode cX8_wholeOf 23 = .ok (.iload_n 3, 1) := by decide +kernel
theorem dX8_wholeOf_24 : decode cX8_wholeOf 24 = .ok (.bipush 40, 2) := by decide +kernel
theorem dX8_wholeOf_26 : decode cX8_wholeOf 26 = .ok (.if_icmp .le 7, 3) := by decide +kernel
theorem dX8_wholeOf_29 : decode cX8_wholeOf 29 = .ok (.lconst 0, 1) := by decide +kernel
theorem dX8_wholeOf_30 : decode cX8_wholeOf 30 = .ok (.goto 9, 3) := by decide +kernel
theorem dX8_wholeOf_33 : decode cX8_wholeOf 33 = .ok (.lload_n 0, 1) := by decide +kernel
theorem dX8_wholeOf_34 : decode cX8_wholeOf 34 = .ok (.invokestatic 102, 3) := by decide +kernel
theorem dX8_wholeOf_37 : decode cX8_wholeOf 37 = .ok (.iload_n 3, 1) := by decide +kernel
theorem dX8_wholeOf_38 : decode cX8_wholeOf 38 = .ok (.lshr, 1) := by decide +kernel
theorem dX8_wholeOf_39 : decode cX8_wholeOf 39 = .ok (.lstore 4, 2) := by decide +kernel
theorem dX8_wholeOf_41 : decode cX8_wholeOf 41 = .ok (.iload_n 3, 1) := by decide +kernel
theorem dX8_wholeOf_42 : decode cX8_wholeOf 42 = .ok (.bipush 40, 2) := by decide +kernel
theorem dX8_wholeOf_44 : decode cX8_wholeOf 44 = .ok (.if_icmp .le 20, 3) := by decide +kernel
theorem dX8_wholeOf_47 : decode cX8_wholeOf 47 = .ok (.lload_n 0, 1) := by decide +kernel
theorem dX8_wholeOf_48 : decode cX8_wholeOf 48 = .ok (.invokestatic 102, 3) := by decide +kernel
theorem dX8_wholeOf_51 : decode cX8_wholeOf 51 = .ok (.lconst 0, 1) := by decide +kernel
theorem dX8_wholeOf_52 : decode cX8_wholeOf 52 = .ok (.lcmp, 1) := by decide +kernel
theorem dX8_wholeOf_53 : decode cX8_wholeOf 53 = .ok (.ifCond .ne 7, 3) := by decide +kernel
theorem dX8_wholeOf_56 : decode cX8_wholeOf 56 = .ok (.iconst 1, 1) := by decide +kernel
theorem dX8_wholeOf_57 : decode cX8_wholeOf 57 = .ok (.goto 24, 3) := by decide +kernel
theorem dX8_wholeOf_60 : decode cX8_wholeOf 60 = .ok (.iconst 0, 1) := by decide +kernel
theorem dX8_wholeOf_61 : decode cX8_wholeOf 61 = .ok (.goto 20, 3) := by decide +kernel
theorem dX8_wholeOf_64 : decode cX8_wholeOf 64 = .ok (.lload 4, 2) := by decide +kernel
theorem dX8_wholeOf_66 : decode cX8_wholeOf 66 = .ok (.iload_n 3, 1) := by decide +kernel
theorem dX8_wholeOf_67 : decode cX8_wholeOf 67 = .ok (.lshl, 1) := by decide +kernel
theorem dX8_wholeOf_68 : decode cX8_wholeOf 68 = .ok (.lload_n 0, 1) := by decide +kernel
theorem dX8_wholeOf_69 : decode cX8_wholeOf 69 = .ok (.invokestatic 102, 3) := by decide +kernel
theorem dX8_wholeOf_72 : decode cX8_wholeOf 72 = .ok (.lcmp, 1) := by decide +kernel
theorem dX8_wholeOf_73 : decode cX8_wholeOf 73 = .ok (.ifCond .ne 7, 3) := by decide +kernel
theorem dX8_wholeOf_76 : decode cX8_wholeOf 76 = .ok (.iconst 1, 1) := by decide +kernel
theorem dX8_wholeOf_77 : decode cX8_wholeOf 77 = .ok (.goto 4, 3) := by decide +kernel
theorem dX8_wholeOf_80 : decode cX8_wholeOf 80 = .ok (.iconst 0, 1) := by decide +kernel
theorem dX8_wholeOf_81 : decode cX8_wholeOf 81 = .ok (.istore 6, 2) := by decide +kernel
theorem dX8_wholeOf_83 : decode cX8_wholeOf 83 = .ok (.lload_n 0, 1) := by decide +kernel
theorem dX8_wholeOf_84 : decode cX8_wholeOf 84 = .ok (.lconst 0, 1) := by decide +kernel
theorem dX8_wholeOf_85 : decode cX8_wholeOf 85 = .ok (.lcmp, 1) := by decide +kernel
theorem dX8_wholeOf_86 : decode cX8_wholeOf 86 = .ok (.ifCond .ge 7, 3) := by decide +kernel
theorem dX8_wholeOf_89 : decode cX8_wholeOf 89 = .ok (.iconst 1, 1) := by decide +kernel
theorem dX8_wholeOf_90 : decode cX8_wholeOf 90 = .ok (.goto 4, 3) := by decide +kernel
theorem dX8_wholeOf_93 : decode cX8_wholeOf 93 = .ok (.iconst 0, 1) := by decide +kernel
theorem dX8_wholeOf_94 : decode cX8_wholeOf 94 = .ok (.istore 7, 2) := by decide +kernel
theorem dX8_wholeOf_96 : decode cX8_wholeOf 96 = .ok (.iconst 0, 1) := by decide +kernel
theorem dX8_wholeOf_97 : decode cX8_wholeOf 97 = .ok (.istore 8, 2) := by decide +kernel
theorem dX8_wholeOf_99 : decode cX8_wholeOf 99 = .ok (.iload_n 2, 1) := by decide +kernel
theorem dX8_wholeOf_100 : decode cX8_wholeOf 100 = .ok (.iconst 2, 1) := by decide +kernel
theorem dX8_wholeOf_101 : decode cX8_wholeOf 101 = .ok (.if_icmp .ne 86, 3) := by decide +kernel
theorem dX8_wholeOf_104 : decode cX8_wholeOf 104 = .ok (.iload_n 3, 1) := by decide +kernel
theorem dX8_wholeOf_105 : decode cX8_wholeOf 105 = .ok (.bipush 40, 2) := by decide +kernel
theorem dX8_wholeOf_107 : decode cX8_wholeOf 107 = .ok (.if_icmp .gt 80, 3) := by decide +kernel
theorem dX8_wholeOf_110 : decode cX8_wholeOf 110 = .ok (.lload_n 0, 1) := by decide +kernel
theorem dX8_wholeOf_111 : decode cX8_wholeOf 111 = .ok (.invokestatic 102, 3) := by decide +kernel
theorem dX8_wholeOf_114 : decode cX8_wholeOf 114 = .ok (.iload_n 3, 1) := by decide +kernel
theorem dX8_wholeOf_115 : decode cX8_wholeOf 115 = .ok (.iconst 1, 1) := by decide +kernel
theorem dX8_wholeOf_116 : decode cX8_wholeOf 116 = .ok (.isub, 1) := by decide +kernel
theorem dX8_wholeOf_117 : decode cX8_wholeOf 117 = .ok (.lshr, 1) := by decide +kernel
theorem dX8_wholeOf_118 : decode cX8_wholeOf 118 = .ok (.lstore 9, 2) := by decide +kernel
theorem dX8_wholeOf_120 : decode cX8_wholeOf 120 = .ok (.lload 9, 2) := by decide +kernel
theorem dX8_wholeOf_122 : decode cX8_wholeOf 122 = .ok (.ldc2_w 90, 3) := by decide +kernel
theorem dX8_wholeOf_125 : decode cX8_wholeOf 125 = .ok (.lrem, 1) := by decide +kernel
theorem dX8_wholeOf_126 : decode cX8_wholeOf 126 = .ok (.lconst 1, 1) := by decide +kernel
theorem dX8_wholeOf_127 : decode cX8_wholeOf 127 = .ok (.lcmp, 1) := by decide +kernel
theorem dX8_wholeOf_128 : decode cX8_wholeOf 128 = .ok (.ifCond .ne 7, 3) := by decide +kernel
theorem dX8_wholeOf_131 : decode cX8_wholeOf 131 = .ok (.iconst 1, 1) := by decide +kernel
theorem dX8_wholeOf_132 : decode cX8_wholeOf 132 = .ok (.goto 4, 3) := by decide +kernel
theorem dX8_wholeOf_135 : decode cX8_wholeOf 135 = .ok (.iconst 0, 1) := by decide +kernel
theorem dX8_wholeOf_136 : decode cX8_wholeOf 136 = .ok (.istore 11, 2) := by decide +kernel
theorem dX8_wholeOf_138 : decode cX8_wholeOf 138 = .ok (.lload 9, 2) := by decide +kernel
theorem dX8_wholeOf_140 : decode cX8_wholeOf 140 = .ok (.iload_n 3, 1) := by decide +kernel
theorem dX8_wholeOf_141 : decode cX8_wholeOf 141 = .ok (.iconst 1, 1) := by decide +kernel
theorem dX8_wholeOf_142 : decode cX8_wholeOf 142 = .ok (.isub, 1) := by decide +kernel
theorem dX8_wholeOf_143 : decode cX8_wholeOf 143 = .ok (.lshl, 1) := by decide +kernel
theorem dX8_wholeOf_144 : decode cX8_wholeOf 144 = .ok (.lload_n 0, 1) := by decide +kernel
theorem dX8_wholeOf_145 : decode cX8_wholeOf 145 = .ok (.invokestatic 102, 3) := by decide +kernel
theorem dX8_wholeOf_148 : decode cX8_wholeOf 148 = .ok (.lcmp, 1) := by decide +kernel
theorem dX8_wholeOf_149 : decode cX8_wholeOf 149 = .ok (.ifCond .eq 7, 3) := by decide +kernel
theorem dX8_wholeOf_152 : decode cX8_wholeOf 152 = .ok (.iconst 1, 1) := by decide +kernel
theorem dX8_wholeOf_153 : decode cX8_wholeOf 153 = .ok (.goto 4, 3) := by decide +kernel
theorem dX8_wholeOf_156 : decode cX8_wholeOf 156 = .ok (.iconst 0, 1) := by decide +kernel
theorem dX8_wholeOf_157 : decode cX8_wholeOf 157 = .ok (.istore 12, 2) := by decide +kernel
theorem dX8_wholeOf_159 : decode cX8_wholeOf 159 = .ok (.iload 11, 2) := by decide +kernel
theorem dX8_wholeOf_161 : decode cX8_wholeOf 161 = .ok (.ifCond .eq 23, 3) := by decide +kernel
theorem dX8_wholeOf_164 : decode cX8_wholeOf 164 = .ok (.iload 12, 2) := by decide +kernel
theorem dX8_wholeOf_166 : decode cX8_wholeOf 166 = .ok (.ifCond .ne 14, 3) := by decide +kernel
theorem dX8_wholeOf_169 : decode cX8_wholeOf 169 = .ok (.lload 4, 2) := by decide +kernel
theorem dX8_wholeOf_171 : decode cX8_wholeOf 171 = .ok (.ldc2_w 90, 3) := by decide +kernel
theorem dX8_wholeOf_174 : decode cX8_wholeOf 174 = .ok (.lrem, 1) := by decide +kernel
theorem dX8_wholeOf_175 : decode cX8_wholeOf 175 = .ok (.lconst 1, 1) := by decide +kernel
theorem dX8_wholeOf_176 : decode cX8_wholeOf 176 = .ok (.lcmp, 1) := by decide +kernel
theorem dX8_wholeOf_177 : decode cX8_wholeOf 177 = .ok (.ifCond .ne 7, 3) := by decide +kernel
theorem dX8_wholeOf_180 : decode cX8_wholeOf 180 = .ok (.iconst 1, 1) := by decide +kernel
theorem dX8_wholeOf_181 : decode cX8_wholeOf 181 = .ok (.goto 4, 3) := by decide +kernel
theorem dX8_wholeOf_184 : decode cX8_wholeOf 184 = .ok (.iconst 0, 1) := by decide +kernel
theorem dX8_wholeOf_185 : decode cX8_wholeOf 185 = .ok (.istore 8, 2) := by decide +kernel
theorem dX8_wholeOf_187 : decode cX8_wholeOf 187 = .ok (.iload_n 2, 1) := by decide +kernel
theorem dX8_wholeOf_188 : decode cX8_wholeOf 188 = .ok (.iconst 2, 1) := by decide +kernel
theorem dX8_wholeOf_189 : decode cX8_wholeOf 189 = .ok (.if_icmp .ge 29, 3) := by decide +kernel
theorem dX8_wholeOf_192 : decode cX8_wholeOf 192 = .ok (.iload 6, 2) := by decide +kernel
theorem dX8_wholeOf_194 : decode cX8_wholeOf 194 = .ok (.ifCond .ne 21, 3) := by decide +kernel
theorem dX8_wholeOf_197 : decode cX8_wholeOf 197 = .ok (.iload 7, 2) := by decide +kernel
theorem dX8_wholeOf_199 : decode cX8_wholeOf 199 = .ok (.iload_n 2, 1) := by decide +kernel
theorem dX8_wholeOf_200 : decode cX8_wholeOf 200 = .ok (.ifCond .ne 7, 3) := by decide +kernel
theorem dX8_wholeOf_203 : decode cX8_wholeOf 203 = .ok (.iconst 1, 1) := by decide +kernel
theorem dX8_wholeOf_204 : decode cX8_wholeOf 204 = .ok (.goto 4, 3) := by decide +kernel
theorem dX8_wholeOf_207 : decode cX8_wholeOf 207 = .ok (.iconst 0, 1) := by decide +kernel
theorem dX8_wholeOf_208 : decode cX8_wholeOf 208 = .ok (.if_icmp .ne 7, 3) := by decide +kernel
theorem dX8_wholeOf_211 : decode cX8_wholeOf 211 = .ok (.iconst 1, 1) := by decide +kernel
theorem dX8_wholeOf_212 : decode cX8_wholeOf 212 = .ok (.goto 4, 3) := by decide +kernel
theorem dX8_wholeOf_215 : decode cX8_wholeOf 215 = .ok (.iconst 0, 1) := by decide +kernel
theorem dX8_wholeOf_216 : decode cX8_wholeOf 216 = .ok (.istore 8, 2) := by decide +kernel
theorem dX8_wholeOf_218 : decode cX8_wholeOf 218 = .ok (.iload 7, 2) := by decide +kernel
theorem dX8_wholeOf_220 : decode cX8_wholeOf 220 = .ok (.iload 8, 2) := by decide +kernel
theorem dX8_wholeOf_222 : decode cX8_wholeOf 222 = .ok (.ifCond .eq 10, 3) := by decide +kernel
theorem dX8_wholeOf_225 : decode cX8_wholeOf 225 = .ok (.lload 4, 2) := by decide +kernel
theorem dX8_wholeOf_227 : decode cX8_wholeOf 227 = .ok (.lconst 1, 1) := by decide +kernel
theorem dX8_wholeOf_228 : decode cX8_wholeOf 228 = .ok (.ladd, 1) := by decide +kernel
theorem dX8_wholeOf_229 : decode cX8_wholeOf 229 = .ok (.goto 5, 3) := by decide +kernel
theorem dX8_wholeOf_232 : decode cX8_wholeOf 232 = .ok (.lload 4, 2) := by decide +kernel
theorem dX8_wholeOf_234 : decode cX8_wholeOf 234 = .ok (.iconst 0, 1) := by decide +kernel
theorem dX8_wholeOf_235 : decode cX8_wholeOf 235 = .ok (.iconst 0, 1) := by decide +kernel
theorem dX8_wholeOf_236 : decode cX8_wholeOf 236 = .ok (.invokestatic 105, 3) := by decide +kernel
theorem dX8_wholeOf_239 : decode cX8_wholeOf 239 = .ok (.lreturn, 1) := by decide +kernel
theorem dX8_intOf_0 : decode cX8_intOf 0 = .ok (.lload_n 0, 1) := by decide +kernel
theorem dX8_intOf_1 : decode cX8_intOf 1 = .ok (.ldc2_w 82, 3) := by decide +kernel
theorem dX8_intOf_4 : decode cX8_intOf 4 = .ok (.lcmp, 1) := by decide +kernel
theorem dX8_intOf_5 : decode cX8_intOf 5 = .ok (.ifCond .ne 5, 3) := by decide +kernel
theorem dX8_intOf_8 : decode cX8_intOf 8 = .ok (.lconst 0, 1) := by decide +kernel
theorem dX8_intOf_9 : decode cX8_intOf 9 = .ok (.lreturn, 1) := by decide +kernel
theorem dX8_intOf_10 : decode cX8_intOf 10 = .ok (.lload_n 0, 1) := by decide +kernel
theorem dX8_intOf_11 : decode cX8_intOf 11 = .ok (.iconst 3, 1) := by decide +kernel
theorem dX8_intOf_12 : decode cX8_intOf 12 = .ok (.invokestatic 114, 3) := by decide +kernel
theorem dX8_intOf_15 : decode cX8_intOf 15 = .ok (.lstore_n 2, 1) := by decide +kernel
theorem dX8_intOf_16 : decode cX8_intOf 16 = .ok (.lload_n 2, 1) := by decide +kernel
theorem dX8_intOf_17 : decode cX8_intOf 17 = .ok (.invokestatic 102, 3) := by decide +kernel
theorem dX8_intOf_20 : decode cX8_intOf 20 = .ok (.lstore 4, 2) := by decide +kernel
theorem dX8_intOf_22 : decode cX8_intOf 22 = .ok (.lload_n 2, 1) := by decide +kernel
theorem dX8_intOf_23 : decode cX8_intOf 23 = .ok (.invokestatic 98, 3) := by decide +kernel
theorem dX8_intOf_26 : decode cX8_intOf 26 = .ok (.istore 6, 2) := by decide +kernel
theorem dX8_intOf_28 : decode cX8_intOf 28 = .ok (.lload_n 2, 1) := by decide +kernel
theorem dX8_intOf_29 : decode cX8_intOf 29 = .ok (.invokestatic 94, 3) := by decide +kernel
theorem dX8_intOf_32 : decode cX8_intOf 32 = .ok (.ifCond .ne 10, 3) := by decide +kernel
theorem dX8_intOf_35 : decode cX8_intOf 35 = .ok (.iload 6, 2) := by decide +kernel
theorem dX8_intOf_37 : decode cX8_intOf 37 = .ok (.bipush 7, 2) := by decide +kernel
theorem dX8_intOf_39 : decode cX8_intOf 39 = .ok (.if_icmp .le 7, 3) := by decide +kernel
theorem dX8_intOf_42 : decode cX8_intOf 42 = .ok (.iconst 1, 1) := by decide +kernel
theorem dX8_intOf_43 : decode cX8_intOf 43 = .ok (.goto 4, 3) := by decide +kernel
theorem dX8_intOf_46 : decode cX8_intOf 46 = .ok (.iconst 0, 1) := by decide +kernel
theorem dX8_intOf_47 : decode cX8_intOf 47 = .ok (.istore 7, 2) := by decide +kernel
theorem dX8_intOf_49 : decode cX8_intOf 49 = .ok (.iload 7, 2) := by decide +kernel
theorem dX8_intOf_51 : decode cX8_intOf 51 = .ok (.ifCond .eq 9, 3) := by decide +kernel
theorem dX8_intOf_54 : decode cX8_intOf 54 = .ok (.ldc2_w 118, 3) := by decide +kernel
theorem dX8_intOf_57 : decode cX8_intOf 57 = .ok (.goto 34, 3) := by decide +kernel
theorem dX8_intOf_60 : decode cX8_intOf 60 = .ok (.iload 6, 2) := by decide +kernel
theorem dX8_intOf_62 : decode cX8_intOf 62 = .ok (.ifCond .lt 11, 3) := by decide +kernel
theorem dX8_intOf_65 : decode cX8_intOf 65 = .ok (.lload 4, 2) := by decide +kernel
theorem dX8_intOf_67 : decode cX8_intOf 67 = .ok (.iload 6, 2) := by decide +kernel
theorem dX8_intOf_69 : decode cX8_intOf 69 = .ok (.lshl, 1) := by decide +kernel
theorem dX8_intOf_70 : decode cX8_intOf 70 = .ok (.goto 21, 3) := by decide +kernel
theorem dX8_intOf_73 : decode cX8_intOf 73 = .ok (.lload 4, 2) := by decide +kernel
theorem dX8_intOf_75 : decode cX8_intOf 75 = .ok (.iload 6, 2) := by decide +kernel
theorem dX8_intOf_77 : decode cX8_intOf 77 = .ok (.bipush (-40), 2) := by decide +kernel
theorem dX8_intOf_79 : decode cX8_intOf 79 = .ok (.if_icmp .ge 8, 3) := by decide +kernel
theorem dX8_intOf_82 : decode cX8_intOf 82 = .ok (.bipush 40, 2) := by decide +kernel
theorem dX8_intOf_84 : decode cX8_intOf 84 = .ok (.goto 6, 3) := by decide +kernel
theorem dX8_intOf_87 : decode cX8_intOf 87 = .ok (.iload 6, 2) := by decide +kernel
theorem dX8_intOf_89 : decode cX8_intOf 89 = .ok (.ineg, 1) := by decide +kernel
theorem dX8_intOf_90 : decode cX8_intOf 90 = .ok (.lshr, 1) := by decide +kernel
theorem dX8_intOf_91 : decode cX8_intOf 91 = .ok (.lstore 8, 2) := by decide +kernel
theorem dX8_intOf_93 : decode cX8_intOf 93 = .ok (.lload_n 0, 1) := by decide +kernel
theorem dX8_intOf_94 : decode cX8_intOf 94 = .ok (.lconst 0, 1) := by decide +kernel
theorem dX8_intOf_95 : decode cX8_intOf 95 = .ok (.lcmp, 1) := by decide +kernel
theorem dX8_intOf_96 : decode cX8_intOf 96 = .ok (.ifCond .ge 9, 3) := by decide +kernel
theorem dX8_intOf_99 : decode cX8_intOf 99 = .ok (.ldc2_w 112, 3) := by decide +kernel
theorem dX8_intOf_102 : decode cX8_intOf 102 = .ok (.goto 6, 3) := by decide +kernel
theorem dX8_intOf_105 : decode cX8_intOf 105 = .ok (.ldc2_w 120, 3) := by decide +kernel
theorem dX8_intOf_108 : decode cX8_intOf 108 = .ok (.lstore 10, 2) := by decide +kernel
theorem dX8_intOf_110 : decode cX8_intOf 110 = .ok (.lload 8, 2) := by decide +kernel
theorem dX8_intOf_112 : decode cX8_intOf 112 = .ok (.lload 10, 2) := by decide +kernel
theorem dX8_intOf_114 : decode cX8_intOf 114 = .ok (.lcmp, 1) := by decide +kernel
theorem dX8_intOf_115 : decode cX8_intOf 115 = .ok (.ifCond .le 8, 3) := by decide +kernel
theorem dX8_intOf_118 : decode cX8_intOf 118 = .ok (.lload 10, 2) := by decide +kernel
theorem dX8_intOf_120 : decode cX8_intOf 120 = .ok (.goto 5, 3) := by decide +kernel
theorem dX8_intOf_123 : decode cX8_intOf 123 = .ok (.lload 8, 2) := by decide +kernel
theorem dX8_intOf_125 : decode cX8_intOf 125 = .ok (.lstore 8, 2) := by decide +kernel
theorem dX8_intOf_127 : decode cX8_intOf 127 = .ok (.lload 8, 2) := by decide +kernel
theorem dX8_intOf_129 : decode cX8_intOf 129 = .ok (.lconst 0, 1) := by decide +kernel
theorem dX8_intOf_130 : decode cX8_intOf 130 = .ok (.lcmp, 1) := by decide +kernel
theorem dX8_intOf_131 : decode cX8_intOf 131 = .ok (.ifCond .ne 7, 3) := by decide +kernel
theorem dX8_intOf_134 : decode cX8_intOf 134 = .ok (.lconst 0, 1) := by decide +kernel
theorem dX8_intOf_135 : decode cX8_intOf 135 = .ok (.goto 21, 3) := by decide +kernel
theorem dX8_intOf_138 : decode cX8_intOf 138 = .ok (.lload_n 0, 1) := by decide +kernel
theorem dX8_intOf_139 : decode cX8_intOf 139 = .ok (.lconst 0, 1) := by decide +kernel
theorem dX8_intOf_140 : decode cX8_intOf 140 = .ok (.lcmp, 1) := by decide +kernel
theorem dX8_intOf_141 : decode cX8_intOf 141 = .ok (.ifCond .ge 7, 3) := by decide +kernel
theorem dX8_intOf_144 : decode cX8_intOf 144 = .ok (.iconst 1, 1) := by decide +kernel
theorem dX8_intOf_145 : decode cX8_intOf 145 = .ok (.goto 4, 3) := by decide +kernel
theorem dX8_intOf_148 : decode cX8_intOf 148 = .ok (.iconst 0, 1) := by decide +kernel
theorem dX8_intOf_149 : decode cX8_intOf 149 = .ok (.lload 8, 2) := by decide +kernel
theorem dX8_intOf_151 : decode cX8_intOf 151 = .ok (.iconst 0, 1) := by decide +kernel
theorem dX8_intOf_152 : decode cX8_intOf 152 = .ok (.iconst 0, 1) := by decide +kernel
theorem dX8_intOf_153 : decode cX8_intOf 153 = .ok (.invokestatic 105, 3) := by decide +kernel
theorem dX8_intOf_156 : decode cX8_intOf 156 = .ok (.lreturn, 1) := by decide +kernel
theorem dX8_valueOf_0 : decode cX8_valueOf 0 = .ok (.iload_n 1, 1) := by decide +kernel
theorem dX8_valueOf_1 : decode cX8_valueOf 1 = .ok (.tableswitch 217 2 14 #[67, 74, 84, 91, 98, 103, 122, 159, 196, 196, 196, 205, 210], 67) := by decide +kernel
theorem dX8_valueOf_68 : decode cX8_valueOf 68 = .ok (.lload_n 2, 1) := by decide +kernel
theorem dX8_valueOf_69 : decode cX8_valueOf 69 = .ok (.lload 4, 2) := by decide +kernel
theorem dX8_valueOf_71 : decode cX8_valueOf 71 = .ok (.invokestatic 122, 3) := by decide +kernel
theorem dX8_valueOf_74 : decode cX8_valueOf 74 = .ok (.lreturn, 1) := by decide +kernel
theorem dX8_valueOf_75 : decode cX8_valueOf 75 = .ok (.lload_n 2, 1) := by decide +kernel
theorem dX8_valueOf_76 : decode cX8_valueOf 76 = .ok (.lload 4, 2) := by decide +kernel
theorem dX8_valueOf_78 : decode cX8_valueOf 78 = .ok (.invokestatic 126, 3) := by decide +kernel
theorem dX8_valueOf_81 : decode cX8_valueOf 81 = .ok (.invokestatic 122, 3) := by decide +kernel
theorem dX8_valueOf_84 : decode cX8_valueOf 84 = .ok (.lreturn, 1) := by decide +kernel
theorem dX8_valueOf_85 : decode cX8_valueOf 85 = .ok (.lload_n 2, 1) := by decide +kernel
theorem dX8_valueOf_86 : decode cX8_valueOf 86 = .ok (.lload 4, 2) := by decide +kernel
theorem dX8_valueOf_88 : decode cX8_valueOf 88 = .ok (.invokestatic 129, 3) := by decide +kernel
theorem dX8_valueOf_91 : decode cX8_valueOf 91 = .ok (.lreturn, 1) := by decide +kernel
theorem dX8_valueOf_92 : decode cX8_valueOf 92 = .ok (.lload_n 2, 1) := by decide +kernel
theorem dX8_valueOf_93 : decode cX8_valueOf 93 = .ok (.lload 4, 2) := by decide +kernel
theorem dX8_valueOf_95 : decode cX8_valueOf 95 = .ok (.invokestatic 132, 3) := by decide +kernel
theorem dX8_valueOf_98 : decode cX8_valueOf 98 = .ok (.lreturn, 1) := by decide +kernel
theorem dX8_valueOf_99 : decode cX8_valueOf 99 = .ok (.lload_n 2, 1) := by decide +kernel
theorem dX8_valueOf_100 : decode cX8_valueOf 100 = .ok (.invokestatic 126, 3) := by decide +kernel
theorem dX8_valueOf_103 : decode cX8_valueOf 103 = .ok (.lreturn, 1) := by decide +kernel
theorem dX8_valueOf_104 : decode cX8_valueOf 104 = .ok (.lload_n 2, 1) := by decide +kernel
theorem dX8_valueOf_105 : decode cX8_valueOf 105 = .ok (.ldc2_w 82, 3) := by decide +kernel
theorem dX8_valueOf_108 : decode cX8_valueOf 108 = .ok (.lcmp, 1) := by decide +kernel
theorem dX8_valueOf_109 : decode cX8_valueOf 109 = .ok (.ifCond .ne 9, 3) := by decide +kernel
theorem dX8_valueOf_112 : decode cX8_valueOf 112 = .ok (.ldc2_w 82, 3) := by decide +kernel
theorem dX8_valueOf_115 : decode cX8_valueOf 115 = .ok (.goto 7, 3) := by decide +kernel
theorem dX8_valueOf_118 : decode cX8_valueOf 118 = .ok (.lload_n 2, 1) := by decide +kernel
theorem dX8_valueOf_119 : decode cX8_valueOf 119 = .ok (.invokestatic 76, 3) := by decide +kernel
theorem dX8_valueOf_122 : decode cX8_valueOf 122 = .ok (.lreturn, 1) := by decide +kernel
theorem dX8_valueOf_123 : decode cX8_valueOf 123 = .ok (.lload_n 2, 1) := by decide +kernel
theorem dX8_valueOf_124 : decode cX8_valueOf 124 = .ok (.ldc2_w 82, 3) := by decide +kernel
theorem dX8_valueOf_127 : decode cX8_valueOf 127 = .ok (.lcmp, 1) := by decide +kernel
theorem dX8_valueOf_128 : decode cX8_valueOf 128 = .ok (.ifCond .eq 12, 3) := by decide +kernel
theorem dX8_valueOf_131 : decode cX8_valueOf 131 = .ok (.lload 4, 2) := by decide +kernel
theorem dX8_valueOf_133 : decode cX8_valueOf 133 = .ok (.ldc2_w 82, 3) := by decide +kernel
theorem dX8_valueOf_136 : decode cX8_valueOf 136 = .ok (.lcmp, 1) := by decide +kernel
theorem dX8_valueOf_137 : decode cX8_valueOf 137 = .ok (.ifCond .ne 9, 3) := by decide +kernel
theorem dX8_valueOf_140 : decode cX8_valueOf 140 = .ok (.ldc2_w 82, 3) := by decide +kernel
theorem dX8_valueOf_143 : decode cX8_valueOf 143 = .ok (.goto 16, 3) := by decide +kernel
theorem dX8_valueOf_146 : decode cX8_valueOf 146 = .ok (.lload_n 2, 1) := by decide +kernel
theorem dX8_valueOf_147 : decode cX8_valueOf 147 = .ok (.lload 4, 2) := by decide +kernel
theorem dX8_valueOf_149 : decode cX8_valueOf 149 = .ok (.lcmp, 1) := by decide +kernel
theorem dX8_valueOf_150 : decode cX8_valueOf 150 = .ok (.ifCond .ge 7, 3) := by decide +kernel
theorem dX8_valueOf_153 : decode cX8_valueOf 153 = .ok (.lload_n 2, 1) := by decide +kernel
theorem dX8_valueOf_154 : decode cX8_valueOf 154 = .ok (.goto 5, 3) := by decide +kernel
theorem dX8_valueOf_157 : decode cX8_valueOf 157 = .ok (.lload 4, 2) := by decide +kernel
theorem dX8_valueOf_159 : decode cX8_valueOf 159 = .ok (.lreturn, 1) := by decide +kernel
theorem dX8_valueOf_160 : decode cX8_valueOf 160 = .ok (.lload_n 2, 1) := by decide +kernel
theorem dX8_valueOf_161 : decode cX8_valueOf 161 = .ok (.ldc2_w 82, 3) := by decide +kernel
theorem dX8_valueOf_164 : decode cX8_valueOf 164 = .ok (.lcmp, 1) := by decide +kernel
theorem dX8_valueOf_165 : decode cX8_valueOf 165 = .ok (.ifCond .eq 12, 3) := by decide +kernel
theorem dX8_valueOf_168 : decode cX8_valueOf 168 = .ok (.lload 4, 2) := by decide +kernel
theorem dX8_valueOf_170 : decode cX8_valueOf 170 = .ok (.ldc2_w 82, 3) := by decide +kernel
theorem dX8_valueOf_173 : decode cX8_valueOf 173 = .ok (.lcmp, 1) := by decide +kernel
theorem dX8_valueOf_174 : decode cX8_valueOf 174 = .ok (.ifCond .ne 9, 3) := by decide +kernel
theorem dX8_valueOf_177 : decode cX8_valueOf 177 = .ok (.ldc2_w 82, 3) := by decide +kernel
theorem dX8_valueOf_180 : decode cX8_valueOf 180 = .ok (.goto 16, 3) := by decide +kernel
theorem dX8_valueOf_183 : decode cX8_valueOf 183 = .ok (.lload_n 2, 1) := by decide +kernel
theorem dX8_valueOf_184 : decode cX8_valueOf 184 = .ok (.lload 4, 2) := by decide +kernel
theorem dX8_valueOf_186 : decode cX8_valueOf 186 = .ok (.lcmp, 1) := by decide +kernel
theorem dX8_valueOf_187 : decode cX8_valueOf 187 = .ok (.ifCond .le 7, 3) := by decide +kernel
