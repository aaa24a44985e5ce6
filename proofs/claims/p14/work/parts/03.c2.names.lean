theorem dX8_valueOf_190 : decode cX8_valueOf 190 = .ok (.lload_n 2, 1) := by decide +kernel
theorem dX8_valueOf_191 : decode cX8_valueOf 191 = .ok (.goto 5, 3) := by decide +kernel
theorem dX8_valueOf_194 : decode cX8_valueOf 194 = .ok (.lload 4, 2) := by decide +kernel
theorem dX8_valueOf_196 : decode cX8_valueOf 196 = .ok (.lreturn, 1) := by decide +kernel
theorem dX8_valueOf_197 : decode cX8_valueOf 197 = .ok (.lload_n 2, 1) := by decide +kernel
theorem dX8_valueOf_198 : decode cX8_valueOf 198 = .ok (.iload_n 1, 1) := by decide +kernel
theorem dX8_valueOf_199 : decode cX8_valueOf 199 = .ok (.bipush 10, 2) := by decide +kernel
theorem dX8_valueOf_201 : decode cX8_valueOf 201 = .ok (.isub, 1) := by decide +kernel
theorem dX8_valueOf_202 : decode cX8_valueOf 202 = .ok (.invokestatic 114, 3) := by decide +kernel
theorem dX8_valueOf_205 : decode cX8_valueOf 205 = .ok (.lreturn, 1) := by decide +kernel
theorem dX8_valueOf_206 : decode cX8_valueOf 206 = .ok (.lload_n 2, 1) := by decide +kernel
theorem dX8_valueOf_207 : decode cX8_valueOf 207 = .ok (.invokestatic 135, 3) := by decide +kernel
theorem dX8_valueOf_210 : decode cX8_valueOf 210 = .ok (.lreturn, 1) := by decide +kernel
theorem dX8_valueOf_211 : decode cX8_valueOf 211 = .ok (.lload_n 2, 1) := by decide +kernel
theorem dX8_valueOf_212 : decode cX8_valueOf 212 = .ok (.lload 4, 2) := by decide +kernel
theorem dX8_valueOf_214 : decode cX8_valueOf 214 = .ok (.invokestatic 138, 3) := by decide +kernel
theorem dX8_valueOf_217 : decode cX8_valueOf 217 = .ok (.lreturn, 1) := by decide +kernel
theorem dX8_valueOf_218 : decode cX8_valueOf 218 = .ok (.lload_n 2, 1) := by decide +kernel
theorem dX8_valueOf_219 : decode cX8_valueOf 219 = .ok (.invokestatic 141, 3) := by decide +kernel
theorem dX8_valueOf_222 : decode cX8_valueOf 222 = .ok (.lreturn, 1) := by decide +kernel
theorem dX8_number_0 : decode cX8_number 0 = .ok (.lload_n 0, 1) := by decide +kernel
theorem dX8_number_1 : decode cX8_number 1 = .ok (.ldc2_w 74, 3) := by decide +kernel
theorem dX8_number_4 : decode cX8_number 4 = .ok (.lcmp, 1) := by decide +kernel
theorem dX8_number_5 : decode cX8_number 5 = .ok (.ifCond .ne 7, 3) := by decide +kernel
theorem dX8_number_8 : decode cX8_number 8 = .ok (.lconst 0, 1) := by decide +kernel
theorem dX8_number_9 : decode cX8_number 9 = .ok (.goto 4, 3) := by decide +kernel
theorem dX8_number_12 : decode cX8_number 12 = .ok (.lload_n 0, 1) := by decide +kernel
theorem dX8_number_13 : decode cX8_number 13 = .ok (.lreturn, 1) := by decide +kernel
theorem dX8_fromBits_0 : decode cX8_fromBits 0 = .ok (.iload_n 0, 1) := by decide +kernel
theorem dX8_fromBits_1 : decode cX8_fromBits 1 = .ok (.ldc 144, 2) := by decide +kernel
theorem dX8_fromBits_3 : decode cX8_fromBits 3 = .ok (.iand, 1) := by decide +kernel
theorem dX8_fromBits_4 : decode cX8_fromBits 4 = .ok (.i2l, 1) := by decide +kernel
theorem dX8_fromBits_5 : decode cX8_fromBits 5 = .ok (.lstore_n 1, 1) := by decide +kernel
theorem dX8_fromBits_6 : decode cX8_fromBits 6 = .ok (.lload_n 1, 1) := by decide +kernel
theorem dX8_fromBits_7 : decode cX8_fromBits 7 = .ok (.ldc2_w 68, 3) := by decide +kernel
theorem dX8_fromBits_10 : decode cX8_fromBits 10 = .ok (.lcmp, 1) := by decide +kernel
theorem dX8_fromBits_11 : decode cX8_fromBits 11 = .ok (.ifCond .le 9, 3) := by decide +kernel
theorem dX8_fromBits_14 : decode cX8_fromBits 14 = .ok (.ldc2_w 82, 3) := by decide +kernel
theorem dX8_fromBits_17 : decode cX8_fromBits 17 = .ok (.goto 16, 3) := by decide +kernel
theorem dX8_fromBits_20 : decode cX8_fromBits 20 = .ok (.iload_n 0, 1) := by decide +kernel
theorem dX8_fromBits_21 : decode cX8_fromBits 21 = .ok (.ifCond .ge 7, 3) := by decide +kernel
theorem dX8_fromBits_24 : decode cX8_fromBits 24 = .ok (.iconst 1, 1) := by decide +kernel
theorem dX8_fromBits_25 : decode cX8_fromBits 25 = .ok (.goto 4, 3) := by decide +kernel
theorem dX8_fromBits_28 : decode cX8_fromBits 28 = .ok (.iconst 0, 1) := by decide +kernel
theorem dX8_fromBits_29 : decode cX8_fromBits 29 = .ok (.lload_n 1, 1) := by decide +kernel
theorem dX8_fromBits_30 : decode cX8_fromBits 30 = .ok (.invokestatic 84, 3) := by decide +kernel
theorem dX8_fromBits_33 : decode cX8_fromBits 33 = .ok (.lreturn, 1) := by decide +kernel
theorem dX8_toBits_0 : decode cX8_toBits 0 = .ok (.lload_n 0, 1) := by decide +kernel
theorem dX8_toBits_1 : decode cX8_toBits 1 = .ok (.ldc2_w 82, 3) := by decide +kernel
theorem dX8_toBits_4 : decode cX8_toBits 4 = .ok (.lcmp, 1) := by decide +kernel
theorem dX8_toBits_5 : decode cX8_toBits 5 = .ok (.ifCond .ne 9, 3) := by decide +kernel
theorem dX8_toBits_8 : decode cX8_toBits 8 = .ok (.ldc2_w 145, 3) := by decide +kernel
theorem dX8_toBits_11 : decode cX8_toBits 11 = .ok (.goto 22, 3) := by decide +kernel
theorem dX8_toBits_14 : decode cX8_toBits 14 = .ok (.lload_n 0, 1) := by decide +kernel
theorem dX8_toBits_15 : decode cX8_toBits 15 = .ok (.lconst 0, 1) := by decide +kernel
theorem dX8_toBits_16 : decode cX8_toBits 16 = .ok (.lcmp, 1) := by decide +kernel
theorem dX8_toBits_17 : decode cX8_toBits 17 = .ok (.ifCond .lt 7, 3) := by decide +kernel
theorem dX8_toBits_20 : decode cX8_toBits 20 = .ok (.lload_n 0, 1) := by decide +kernel
theorem dX8_toBits_21 : decode cX8_toBits 21 = .ok (.goto 12, 3) := by decide +kernel
theorem dX8_toBits_24 : decode cX8_toBits 24 = .ok (.ldc2_w 74, 3) := by decide +kernel
theorem dX8_toBits_27 : decode cX8_toBits 27 = .ok (.lload_n 0, 1) := by decide +kernel
theorem dX8_toBits_28 : decode cX8_toBits 28 = .ok (.lsub, 1) := by decide +kernel
theorem dX8_toBits_29 : decode cX8_toBits 29 = .ok (.ldc2_w 112, 3) := by decide +kernel
theorem dX8_toBits_32 : decode cX8_toBits 32 = .ok (.lsub, 1) := by decide +kernel
theorem dX8_toBits_33 : decode cX8_toBits 33 = .ok (.lreturn, 1) := by decide +kernel
theorem dX8_isNode_0 : decode cX8_isNode 0 = .ok (.iload_n 1, 1) := by decide +kernel
theorem dX8_isNode_1 : decode cX8_isNode 1 = .ok (.i2l, 1) := by decide +kernel
theorem dX8_isNode_2 : decode cX8_isNode 2 = .ok (.lconst 0, 1) := by decide +kernel
theorem dX8_isNode_3 : decode cX8_isNode 3 = .ok (.aload_n 0, 1) := by decide +kernel
theorem dX8_isNode_4 : decode cX8_isNode 4 = .ok (.getfield 147, 3) := by decide +kernel
theorem dX8_isNode_7 : decode cX8_isNode 7 = .ok (.iconst 1, 1) := by decide +kernel
theorem dX8_isNode_8 : decode cX8_isNode 8 = .ok (.isub, 1) := by decide +kernel
theorem dX8_isNode_9 : decode cX8_isNode 9 = .ok (.i2l, 1) := by decide +kernel
theorem dX8_isNode_10 : decode cX8_isNode 10 = .ok (.invokestatic 150, 3) := by decide +kernel
theorem dX8_isNode_13 : decode cX8_isNode 13 = .ok (.ireturn, 1) := by decide +kernel
theorem dX8_hasTwo_0 : decode cX8_hasTwo 0 = .ok (.iload_n 0, 1) := by decide +kernel
theorem dX8_hasTwo_1 : decode cX8_hasTwo 1 = .ok (.i2l, 1) := by decide +kernel
theorem dX8_hasTwo_2 : decode cX8_hasTwo 2 = .ok (.ldc2_w 90, 3) := by decide +kernel
theorem dX8_hasTwo_5 : decode cX8_hasTwo 5 = .ok (.ldc2_w 154, 3) := by decide +kernel
theorem dX8_hasTwo_8 : decode cX8_hasTwo 8 = .ok (.invokestatic 150, 3) := by decide +kernel
theorem dX8_hasTwo_11 : decode cX8_hasTwo 11 = .ok (.ifCond .ne 21, 3) := by decide +kernel
theorem dX8_hasTwo_14 : decode cX8_hasTwo 14 = .ok (.iload_n 0, 1) := by decide +kernel
theorem dX8_hasTwo_15 : decode cX8_hasTwo 15 = .ok (.bipush 8, 2) := by decide +kernel
theorem dX8_hasTwo_17 : decode cX8_hasTwo 17 = .ok (.if_icmp .eq 15, 3) := by decide +kernel
theorem dX8_hasTwo_20 : decode cX8_hasTwo 20 = .ok (.iload_n 0, 1) := by decide +kernel
theorem dX8_hasTwo_21 : decode cX8_hasTwo 21 = .ok (.bipush 9, 2) := by decide +kernel
theorem dX8_hasTwo_23 : decode cX8_hasTwo 23 = .ok (.if_icmp .eq 9, 3) := by decide +kernel
theorem dX8_hasTwo_26 : decode cX8_hasTwo 26 = .ok (.iload_n 0, 1) := by decide +kernel
theorem dX8_hasTwo_27 : decode cX8_hasTwo 27 = .ok (.bipush 14, 2) := by decide +kernel
theorem dX8_hasTwo_29 : decode cX8_hasTwo 29 = .ok (.if_icmp .ne 7, 3) := by decide +kernel
theorem dX8_hasTwo_32 : decode cX8_hasTwo 32 = .ok (.iconst 1, 1) := by decide +kernel
theorem dX8_hasTwo_33 : decode cX8_hasTwo 33 = .ok (.goto 4, 3) := by decide +kernel
theorem dX8_hasTwo_36 : decode cX8_hasTwo 36 = .ok (.iconst 0, 1) := by decide +kernel
theorem dX8_hasTwo_37 : decode cX8_hasTwo 37 = .ok (.ireturn, 1) := by decide +kernel
theorem dX8_node_0 : decode cX8_node 0 = .ok (.aload_n 0, 1) := by decide +kernel
theorem dX8_node_1 : decode cX8_node 1 = .ok (.iconst 0, 1) := by decide +kernel
theorem dX8_node_2 : decode cX8_node 2 = .ok (.putfield 70, 3) := by decide +kernel
theorem dX8_node_5 : decode cX8_node 5 = .ok (.iload_n 1, 1) := by decide +kernel
theorem dX8_node_6 : decode cX8_node 6 = .ok (.iconst 1, 1) := by decide +kernel
theorem dX8_node_7 : decode cX8_node 7 = .ok (.if_icmp .ne 18, 3) := by decide +kernel
theorem dX8_node_10 : decode cX8_node 10 = .ok (.iload_n 2, 1) := by decide +kernel
theorem dX8_node_11 : decode cX8_node 11 = .ok (.i2l, 1) := by decide +kernel
theorem dX8_node_12 : decode cX8_node 12 = .ok (.lconst 0, 1) := by decide +kernel
theorem dX8_node_13 : decode cX8_node 13 = .ok (.ldc2_w 156, 3) := by decide +kernel
theorem dX8_node_16 : decode cX8_node 16 = .ok (.invokestatic 150, 3) := by decide +kernel
theorem dX8_node_19 : decode cX8_node 19 = .ok (.ifCond .ne 45, 3) := by decide +kernel
theorem dX8_node_22 : decode cX8_node 22 = .ok (.goto 40, 3) := by decide +kernel
theorem dX8_node_25 : decode cX8_node 25 = .ok (.iload_n 1, 1) := by decide +kernel
theorem dX8_node_26 : decode cX8_node 26 = .ok (.i2l, 1) := by decide +kernel
theorem dX8_node_27 : decode cX8_node 27 = .ok (.ldc2_w 90, 3) := by decide +kernel
theorem dX8_node_30 : decode cX8_node 30 = .ok (.ldc2_w 158, 3) := by decide +kernel
theorem dX8_node_33 : decode cX8_node 33 = .ok (.invokestatic 150, 3) := by decide +kernel
theorem dX8_node_36 : decode cX8_node 36 = .ok (.ifCond .eq 28, 3) := by decide +kernel
theorem dX8_node_39 : decode cX8_node 39 = .ok (.aload_n 0, 1) := by decide +kernel
theorem dX8_node_40 : decode cX8_node 40 = .ok (.iload_n 2, 1) := by decide +kernel
theorem dX8_node_41 : decode cX8_node 41 = .ok (.invokevirtual 160, 3) := by decide +kernel
theorem dX8_node_44 : decode cX8_node 44 = .ok (.ifCond .eq 18, 3) := by decide +kernel
theorem dX8_node_47 : decode cX8_node 47 = .ok (.iload_n 1, 1) := by decide +kernel
theorem dX8_node_48 : decode cX8_node 48 = .ok (.invokestatic 164, 3) := by decide +kernel
theorem dX8_node_51 : decode cX8_node 51 = .ok (.ifCond .eq 13, 3) := by decide +kernel
theorem dX8_node_54 : decode cX8_node 54 = .ok (.aload_n 0, 1) := by decide +kernel
theorem dX8_node_55 : decode cX8_node 55 = .ok (.iload_n 3, 1) := by decide +kernel
theorem dX8_node_56 : decode cX8_node 56 = .ok (.invokevirtual 160, 3) := by decide +kernel
theorem dX8_node_59 : decode cX8_node 59 = .ok (.ifCond .ne 5, 3) := by decide +kernel
theorem dX8_node_62 : decode cX8_node 62 = .ok (.iconst (-1), 1) := by decide +kernel
theorem dX8_node_63 : decode cX8_node 63 = .ok (.ireturn, 1) := by decide +kernel
theorem dX8_node_64 : decode cX8_node 64 = .ok (.iload_n 1, 1) := by decide +kernel
theorem dX8_node_65 : decode cX8_node 65 = .ok (.i2l, 1) := by decide +kernel
theorem dX8_node_66 : decode cX8_node 66 = .ok (.lconst 0, 1) := by decide +kernel
theorem dX8_node_67 : decode cX8_node 67 = .ok (.ldc2_w 158, 3) := by decide +kernel
theorem dX8_node_70 : decode cX8_node 70 = .ok (.invokestatic 150, 3) := by decide +kernel
theorem dX8_node_73 : decode cX8_node 73 = .ok (.ifCond .ne 6, 3) := by decide +kernel
theorem dX8_node_76 : decode cX8_node 76 = .ok (.bipush (-2), 2) := by decide +kernel
theorem dX8_node_78 : decode cX8_node 78 = .ok (.ireturn, 1) := by decide +kernel
theorem dX8_node_79 : decode cX8_node 79 = .ok (.aload_n 0, 1) := by decide +kernel
theorem dX8_node_80 : decode cX8_node 80 = .ok (.getfield 147, 3) := by decide +kernel
theorem dX8_node_83 : decode cX8_node 83 = .ok (.bipush 40, 2) := by decide +kernel
theorem dX8_node_85 : decode cX8_node 85 = .ok (.if_icmp .ne 6, 3) := by decide +kernel
theorem dX8_node_88 : decode cX8_node 88 = .ok (.bipush (-4), 2) := by decide +kernel
theorem dX8_node_90 : decode cX8_node 90 = .ok (.ireturn, 1) := by decide +kernel
theorem dX8_node_91 : decode cX8_node 91 = .ok (.aload_n 0, 1) := by decide +kernel
theorem dX8_node_92 : decode cX8_node 92 = .ok (.getfield 7, 3) := by decide +kernel
theorem dX8_node_95 : decode cX8_node 95 = .ok (.aload_n 0, 1) := by decide +kernel
theorem dX8_node_96 : decode cX8_node 96 = .ok (.getfield 147, 3) := by decide +kernel
theorem dX8_node_99 : decode cX8_node 99 = .ok (.iload_n 1, 1) := by decide +kernel
theorem dX8_node_100 : decode cX8_node 100 = .ok (.iastore, 1) := by decide +kernel
theorem dX8_node_101 : decode cX8_node 101 = .ok (.aload_n 0, 1) := by decide +kernel
theorem dX8_node_102 : decode cX8_node 102 = .ok (.getfield 13, 3) := by decide +kernel
theorem dX8_node_105 : decode cX8_node 105 = .ok (.aload_n 0, 1) := by decide +kernel
theorem dX8_node_106 : decode cX8_node 106 = .ok (.getfield 147, 3) := by decide +kernel
theorem dX8_node_109 : decode cX8_node 109 = .ok (.iload_n 2, 1) := by decide +kernel
theorem dX8_node_110 : decode cX8_node 110 = .ok (.iastore, 1) := by decide +kernel
theorem dX8_node_111 : decode cX8_node 111 = .ok (.aload_n 0, 1) := by decide +kernel
theorem dX8_node_112 : decode cX8_node 112 = .ok (.getfield 16, 3) := by decide +kernel
theorem dX8_node_115 : decode cX8_node 115 = .ok (.aload_n 0, 1) := by decide +kernel
theorem dX8_node_116 : decode cX8_node 116 = .ok (.getfield 147, 3) := by decide +kernel
theorem dX8_node_119 : decode cX8_node 119 = .ok (.iload_n 3, 1) := by decide +kernel
theorem dX8_node_120 : decode cX8_node 120 = .ok (.iastore, 1) := by decide +kernel
theorem dX8_node_121 : decode cX8_node 121 = .ok (.aload_n 0, 1) := by decide +kernel
theorem dX8_node_122 : decode cX8_node 122 = .ok (.dup, 1) := by decide +kernel
theorem dX8_node_123 : decode cX8_node 123 = .ok (.getfield 147, 3) := by decide +kernel
theorem dX8_node_126 : decode cX8_node 126 = .ok (.iconst 1, 1) := by decide +kernel
theorem dX8_node_127 : decode cX8_node 127 = .ok (.iadd, 1) := by decide +kernel
theorem dX8_node_128 : decode cX8_node 128 = .ok (.putfield 147, 3) := by decide +kernel
theorem dX8_node_131 : decode cX8_node 131 = .ok (.aload_n 0, 1) := by decide +kernel
theorem dX8_node_132 : decode cX8_node 132 = .ok (.getfield 147, 3) := by decide +kernel
theorem dX8_node_135 : decode cX8_node 135 = .ok (.iconst 1, 1) := by decide +kernel
theorem dX8_node_136 : decode cX8_node 136 = .ok (.isub, 1) := by decide +kernel
theorem dX8_node_137 : decode cX8_node 137 = .ok (.ireturn, 1) := by decide +kernel
theorem dX8_rule_0 : decode cX8_rule 0 = .ok (.aload_n 0, 1) := by decide +kernel
theorem dX8_rule_1 : decode cX8_rule 1 = .ok (.iconst 0, 1) := by decide +kernel
theorem dX8_rule_2 : decode cX8_rule 2 = .ok (.putfield 70, 3) := by decide +kernel
theorem dX8_rule_5 : decode cX8_rule 5 = .ok (.aload_n 0, 1) := by decide +kernel
theorem dX8_rule_6 : decode cX8_rule 6 = .ok (.iload_n 2, 1) := by decide +kernel
theorem dX8_rule_7 : decode cX8_rule 7 = .ok (.invokevirtual 160, 3) := by decide +kernel
theorem dX8_rule_10 : decode cX8_rule 10 = .ok (.ifCond .eq 16, 3) := by decide +kernel
theorem dX8_rule_13 : decode cX8_rule 13 = .ok (.iload_n 1, 1) := by decide +kernel
theorem dX8_rule_14 : decode cX8_rule 14 = .ok (.iconst 4, 1) := by decide +kernel
theorem dX8_rule_15 : decode cX8_rule 15 = .ok (.if_icmp .ge 13, 3) := by decide +kernel
theorem dX8_rule_18 : decode cX8_rule 18 = .ok (.aload_n 0, 1) := by decide +kernel
theorem dX8_rule_19 : decode cX8_rule 19 = .ok (.iload_n 3, 1) := by decide +kernel
theorem dX8_rule_20 : decode cX8_rule 20 = .ok (.invokevirtual 160, 3) := by decide +kernel
theorem dX8_rule_23 : decode cX8_rule 23 = .ok (.ifCond .ne 5, 3) := by decide +kernel
theorem dX8_rule_26 : decode cX8_rule 26 = .ok (.iconst (-1), 1) := by decide +kernel
theorem dX8_rule_27 : decode cX8_rule 27 = .ok (.ireturn, 1) := by decide +kernel
theorem dX8_rule_28 : decode cX8_rule 28 = .ok (.iload_n 1, 1) := by decide +kernel
theorem dX8_rule_29 : decode cX8_rule 29 = .ok (.i2l, 1) := by decide +kernel
theorem dX8_rule_30 : decode cX8_rule 30 = .ok (.lconst 0, 1) := by decide +kernel
theorem dX8_rule_31 : decode cX8_rule 31 = .ok (.ldc2_w 154, 3) := by decide +kernel
theorem dX8_rule_34 : decode cX8_rule 34 = .ok (.invokestatic 150, 3) := by decide +kernel
theorem dX8_rule_37 : decode cX8_rule 37 = .ok (.ifCond .ne 6, 3) := by decide +kernel
theorem dX8_rule_40 : decode cX8_rule 40 = .ok (.bipush (-2), 2) := by decide +kernel
theorem dX8_rule_42 : decode cX8_rule 42 = .ok (.ireturn, 1) := by decide +kernel
theorem dX8_rule_43 : decode cX8_rule 43 = .ok (.aload_n 0, 1) := by decide +kernel
theorem dX8_rule_44 : decode cX8_rule 44 = .ok (.getfield 167, 3) := by decide +kernel
theorem dX8_rule_47 : decode cX8_rule 47 = .ok (.bipush 12, 2) := by decide +kernel
theorem dX8_rule_49 : decode cX8_rule 49 = .ok (.if_icmp .ne 6, 3) := by decide +kernel
theorem dX8_rule_52 : decode cX8_rule 52 = .ok (.bipush (-4), 2) := by decide +kernel
theorem dX8_rule_54 : decode cX8_rule 54 = .ok (.ireturn, 1) := by decide +kernel
theorem dX8_rule_55 : decode cX8_rule 55 = .ok (.aload_n 0, 1) := by decide +kernel
theorem dX8_rule_56 : decode cX8_rule 56 = .ok (.getfield 19, 3) := by decide +kernel
theorem dX8_rule_59 : decode cX8_rule 59 = .ok (.aload_n 0, 1) := by decide +kernel
theorem dX8_rule_60 : decode cX8_rule 60 = .ok (.getfield 167, 3) := by decide +kernel
theorem dX8_rule_63 : decode cX8_rule 63 = .ok (.iload_n 1, 1) := by decide +kernel
theorem dX8_rule_64 : decode cX8_rule 64 = .ok (.iastore, 1) := by decide +kernel
theorem dX8_rule_65 : decode cX8_rule 65 = .ok (.aload_n 0, 1) := by decide +kernel
theorem dX8_rule_66 : decode cX8_rule 66 = .ok (.getfield 22, 3) := by decide +kernel
theorem dX8_rule_69 : decode cX8_rule 69 = .ok (.aload_n 0, 1) := by decide +kernel
theorem dX8_rule_70 : decode cX8_rule 70 = .ok (.getfield 167, 3) := by decide +kernel
theorem dX8_rule_73 : decode cX8_rule 73 = .ok (.iload_n 2, 1) := by decide +kernel
theorem dX8_rule_74 : decode cX8_rule 74 = .ok (.iastore, 1) := by decide +kernel
theorem dX8_rule_75 : decode cX8_rule 75 = .ok (.aload_n 0, 1) := by decide +kernel
theorem dX8_rule_76 : decode cX8_rule 76 = .ok (.getfield 25, 3) := by decide +kernel
theorem dX8_rule_79 : decode cX8_rule 79 = .ok (.aload_n 0, 1) := by decide +kernel
theorem dX8_rule_80 : decode cX8_rule 80 = .ok (.getfield 167, 3) := by decide +kernel
theorem dX8_rule_83 : decode cX8_rule 83 = .ok (.iload_n 3, 1) := by decide +kernel
theorem dX8_rule_84 : decode cX8_rule 84 = .ok (.iastore, 1) := by decide +kernel
theorem dX8_rule_85 : decode cX8_rule 85 = .ok (.aload_n 0, 1) := by decide +kernel
theorem dX8_rule_86 : decode cX8_rule 86 = .ok (.dup, 1) := by decide +kernel
theorem dX8_rule_87 : decode cX8_rule 87 = .ok (.getfield 167, 3) := by decide +kernel
theorem dX8_rule_90 : decode cX8_rule 90 = .ok (.iconst 1, 1) := by decide +kernel
theorem dX8_rule_91 : decode cX8_rule 91 = .ok (.iadd, 1) := by decide +kernel
theorem dX8_rule_92 : decode cX8_rule 92 = .ok (.putfield 167, 3) := by decide +kernel
theorem dX8_rule_95 : decode cX8_rule 95 = .ok (.aload_n 0, 1) := by decide +kernel
theorem dX8_rule_96 : decode cX8_rule 96 = .ok (.getfield 167, 3) := by decide +kernel
theorem dX8_rule_99 : decode cX8_rule 99 = .ok (.iconst 1, 1) := by decide +kernel
theorem dX8_rule_100 : decode cX8_rule 100 = .ok (.isub, 1) := by decide +kernel
theorem dX8_rule_101 : decode cX8_rule 101 = .ok (.ireturn, 1) := by decide +kernel
theorem dX8_noRules_0 : decode cX8_noRules 0 = .ok (.aload_n 0, 1) := by decide +kernel
theorem dX8_noRules_1 : decode cX8_noRules 1 = .ok (.iconst 0, 1) := by decide +kernel
theorem dX8_noRules_2 : decode cX8_noRules 2 = .ok (.putfield 70, 3) := by decide +kernel
theorem dX8_noRules_5 : decode cX8_noRules 5 = .ok (.aload_n 0, 1) := by decide +kernel
theorem dX8_noRules_6 : decode cX8_noRules 6 = .ok (.getfield 167, 3) := by decide +kernel
theorem dX8_noRules_9 : decode cX8_noRules 9 = .ok (.istore_n 1, 1) := by decide +kernel
theorem dX8_noRules_10 : decode cX8_noRules 10 = .ok (.aload_n 0, 1) := by decide +kernel
theorem dX8_noRules_11 : decode cX8_noRules 11 = .ok (.iconst 0, 1) := by decide +kernel
theorem dX8_noRules_12 : decode cX8_noRules 12 = .ok (.putfield 167, 3) := by decide +kernel
theorem dX8_noRules_15 : decode cX8_noRules 15 = .ok (.iload_n 1, 1) := by decide +kernel
theorem dX8_noRules_16 : decode cX8_noRules 16 = .ok (.ireturn, 1) := by decide +kernel
theorem dX8_range_0 : decode cX8_range 0 = .ok (.aload_n 0, 1) := by decide +kernel
theorem dX8_range_1 : decode cX8_range 1 = .ok (.iconst 0, 1) := by decide +kernel
theorem dX8_range_2 : decode cX8_range 2 = .ok (.putfield 70, 3) := by decide +kernel
theorem dX8_range_5 : decode cX8_range 5 = .ok (.iload_n 1, 1) := by decide +kernel
theorem dX8_range_6 : decode cX8_range 6 = .ok (.i2l, 1) := by decide +kernel
theorem dX8_range_7 : decode cX8_range 7 = .ok (.lconst 0, 1) := by decide +kernel
theorem dX8_range_8 : decode cX8_range 8 = .ok (.ldc2_w 156, 3) := by decide +kernel
theorem dX8_range_11 : decode cX8_range 11 = .ok (.invokestatic 150, 3) := by decide +kernel
theorem dX8_range_14 : decode cX8_range 14 = .ok (.ifCond .ne 5, 3) := by decide +kernel
theorem dX8_range_17 : decode cX8_range 17 = .ok (.iconst (-1), 1) := by decide +kernel
theorem dX8_range_18 : decode cX8_range 18 = .ok (.ireturn, 1) := by decide +kernel
theorem dX8_range_19 : decode cX8_range 19 = .ok (.iload_n 2, 1) := by decide +kernel
theorem dX8_range_20 : decode cX8_range 20 = .ok (.i2l, 1) := by decide +kernel
theorem dX8_range_21 : decode cX8_range 21 = .ok (.ldc2_w 66, 3) := by decide +kernel
theorem dX8_range_24 : decode cX8_range 24 = .ok (.ldc2_w 68, 3) := by decide +kernel
theorem dX8_range_27 : decode cX8_range 27 = .ok (.invokestatic 150, 3) := by decide +kernel
theorem dX8_range_30 : decode cX8_range 30 = .ok (.ifCond .eq 22, 3) := by decide +kernel
theorem dX8_range_33 : decode cX8_range 33 = .ok (.iload_n 3, 1) := by decide +kernel
theorem dX8_range_34 : decode cX8_range 34 = .ok (.i2l, 1) := by decide +kernel
theorem dX8_range_35 : decode cX8_range 35 = .ok (.ldc2_w 66, 3) := by decide +kernel
theorem dX8_range_38 : decode cX8_range 38 = .ok (.ldc2_w 68, 3) := by decide +kernel
theorem dX8_range_41 : decode cX8_range 41 = .ok (.invokestatic 150, 3) := by decide +kernel
theorem dX8_range_44 : decode cX8_range 44 = .ok (.ifCond .eq 8, 3) := by decide +kernel
theorem dX8_range_47 : decode cX8_range 47 = .ok (.iload_n 2, 1) := by decide +kernel
theorem dX8_range_48 : decode cX8_range 48 = .ok (.iload_n 3, 1) := by decide +kernel
theorem dX8_range_49 : decode cX8_range 49 = .ok (.if_icmp .le 6, 3) := by decide +kernel
theorem dX8_range_52 : decode cX8_range 52 = .ok (.bipush (-2), 2) := by decide +kernel
theorem dX8_range_54 : decode cX8_range 54 = .ok (.ireturn, 1) := by decide +kernel
theorem dX8_range_55 : decode cX8_range 55 = .ok (.aload_n 0, 1) := by decide +kernel
theorem dX8_range_56 : decode cX8_range 56 = .ok (.getfield 28, 3) := by decide +kernel
theorem dX8_range_59 : decode cX8_range 59 = .ok (.iload_n 1, 1) := by decide +kernel
theorem dX8_range_60 : decode cX8_range 60 = .ok (.iload_n 2, 1) := by decide +kernel
theorem dX8_range_61 : decode cX8_range 61 = .ok (.i2l, 1) := by decide +kernel
theorem dX8_range_62 : decode cX8_range 62 = .ok (.lastore, 1) := by decide +kernel
theorem dX8_range_63 : decode cX8_range 63 = .ok (.aload_n 0, 1) := by decide +kernel
theorem dX8_range_64 : decode cX8_range 64 = .ok (.getfield 32, 3) := by decide +kernel
theorem dX8_range_67 : decode cX8_range 67 = .ok (.iload_n 1, 1) := by decide +kernel
theorem dX8_range_68 : decode cX8_range 68 = .ok (.iload_n 3, 1) := by decide +kernel
theorem dX8_range_69 : decode cX8_range 69 = .ok (.i2l, 1) := by decide +kernel
theorem dX8_range_70 : decode cX8_range 70 = .ok (.lastore, 1) := by decide +kernel
theorem dX8_range_71 : decode cX8_range 71 = .ok (.iconst 1, 1) := by decide +kernel
theorem dX8_range_72 : decode cX8_range 72 = .ok (.ireturn, 1) := by decide +kernel
theorem dX8_set_0 : decode cX8_set 0 = .ok (.aload_n 0, 1) := by decide +kernel
theorem dX8_set_1 : decode cX8_set 1 = .ok (.iconst 0, 1) := by decide +kernel
theorem dX8_set_2 : decode cX8_set 2 = .ok (.putfield 70, 3) := by decide +kernel
theorem dX8_set_5 : decode cX8_set 5 = .ok (.iload_n 1, 1) := by decide +kernel
theorem dX8_set_6 : decode cX8_set 6 = .ok (.i2l, 1) := by decide +kernel
theorem dX8_set_7 : decode cX8_set 7 = .ok (.lconst 0, 1) := by decide +kernel
theorem dX8_set_8 : decode cX8_set 8 = .ok (.ldc2_w 156, 3) := by decide +kernel
theorem dX8_set_11 : decode cX8_set 11 = .ok (.invokestatic 150, 3) := by decide +kernel
theorem dX8_set_14 : decode cX8_set 14 = .ok (.ifCond .ne 5, 3) := by decide +kernel
theorem dX8_set_17 : decode cX8_set 17 = .ok (.iconst (-1), 1) := by decide +kernel
theorem dX8_set_18 : decode cX8_set 18 = .ok (.ireturn, 1) := by decide +kernel
theorem dX8_set_19 : decode cX8_set 19 = .ok (.iload_n 2, 1) := by decide +kernel
theorem dX8_set_20 : decode cX8_set 20 = .ok (.i2l, 1) := by decide +kernel
theorem dX8_set_21 : decode cX8_set 21 = .ok (.ldc2_w 66, 3) := by decide +kernel
theorem dX8_set_24 : decode cX8_set 24 = .ok (.ldc2_w 68, 3) := by decide +kernel
theorem dX8_set_27 : decode cX8_set 27 = .ok (.invokestatic 150, 3) := by decide +kernel
theorem dX8_set_30 : decode cX8_set 30 = .ok (.ifCond .ne 6, 3) := by decide +kernel
theorem dX8_set_33 : decode cX8_set 33 = .ok (.bipush (-2), 2) := by decide +kernel
theorem dX8_set_35 : decode cX8_set 35 = .ok (.ireturn, 1) := by decide +kernel
theorem dX8_set_36 : decode cX8_set 36 = .ok (.aload_n 0, 1) := by decide +kernel
theorem dX8_set_37 : decode cX8_set 37 = .ok (.getfield 35, 3) := by decide +kernel
theorem dX8_set_40 : decode cX8_set 40 = .ok (.iload_n 1, 1) := by decide +kernel
theorem dX8_set_41 : decode cX8_set 41 = .ok (.iload_n 2, 1) := by decide +kernel
theorem dX8_set_42 : decode cX8_set 42 = .ok (.i2l, 1) := by decide +kernel
theorem dX8_set_43 : decode cX8_set 43 = .ok (.lastore, 1) := by decide +kernel
theorem dX8_set_44 : decode cX8_set 44 = .ok (.iconst 1, 1) := by decide +kernel
theorem dX8_set_45 : decode cX8_set 45 = .ok (.ireturn, 1) := by decide +kernel
theorem dX8_place_0 : decode cX8_place 0 = .ok (.aload_n 0, 1) := by decide +kernel
theorem dX8_place_1 : decode cX8_place 1 = .ok (.iconst 0, 1) := by decide +kernel
theorem dX8_place_2 : decode cX8_place 2 = .ok (.putfield 70, 3) := by decide +kernel
theorem dX8_place_5 : decode cX8_place 5 = .ok (.iload_n 1, 1) := by decide +kernel
theorem dX8_place_6 : decode cX8_place 6 = .ok (.invokestatic 170, 3) := by decide +kernel
theorem dX8_place_9 : decode cX8_place 9 = .ok (.lstore_n 2, 1) := by decide +kernel
theorem dX8_place_10 : decode cX8_place 10 = .ok (.lload_n 2, 1) := by decide +kernel
theorem dX8_place_11 : decode cX8_place 11 = .ok (.ldc2_w 82, 3) := by decide +kernel
theorem dX8_place_14 : decode cX8_place 14 = .ok (.lcmp, 1) := by decide +kernel
theorem dX8_place_15 : decode cX8_place 15 = .ok (.ifCond .ne 9, 3) := by decide +kernel
theorem dX8_place_18 : decode cX8_place 18 = .ok (.ldc2_w 174, 3) := by decide +kernel
theorem dX8_place_21 : decode cX8_place 21 = .ok (.goto 4, 3) := by decide +kernel
theorem dX8_place_24 : decode cX8_place 24 = .ok (.lload_n 2, 1) := by decide +kernel
theorem dX8_place_25 : decode cX8_place 25 = .ok (.lreturn, 1) := by decide +kernel
theorem dX8_bits_0 : decode cX8_bits 0 = .ok (.aload_n 0, 1) := by decide +kernel
theorem dX8_bits_1 : decode cX8_bits 1 = .ok (.iconst 0, 1) := by decide +kernel
theorem dX8_bits_2 : decode cX8_bits 2 = .ok (.putfield 70, 3) := by decide +kernel
theorem dX8_bits_5 : decode cX8_bits 5 = .ok (.iload_n 1, 1) := by decide +kernel
theorem dX8_bits_6 : decode cX8_bits 6 = .ok (.i2l, 1) := by decide +kernel
theorem dX8_bits_7 : decode cX8_bits 7 = .ok (.ldc2_w 66, 3) := by decide +kernel
theorem dX8_bits_10 : decode cX8_bits 10 = .ok (.ldc2_w 68, 3) := by decide +kernel
theorem dX8_bits_13 : decode cX8_bits 13 = .ok (.invokestatic 150, 3) := by decide +kernel
theorem dX8_bits_16 : decode cX8_bits 16 = .ok (.ifCond .eq 11, 3) := by decide +kernel
theorem dX8_bits_19 : decode cX8_bits 19 = .ok (.iload_n 1, 1) := by decide +kernel
theorem dX8_bits_20 : decode cX8_bits 20 = .ok (.i2l, 1) := by decide +kernel
theorem dX8_bits_21 : decode cX8_bits 21 = .ok (.invokestatic 176, 3) := by decide +kernel
theorem dX8_bits_24 : decode cX8_bits 24 = .ok (.goto 6, 3) := by decide +kernel
theorem dX8_bits_27 : decode cX8_bits 27 = .ok (.ldc2_w 174, 3) := by decide +kernel
theorem dX8_bits_30 : decode cX8_bits 30 = .ok (.lreturn, 1) := by decide +kernel
theorem dX8_work_0 : decode cX8_work 0 = .ok (.iconst 0, 1) := by decide +kernel
theorem dX8_work_1 : decode cX8_work 1 = .ok (.istore_n 3, 1) := by decide +kernel
theorem dX8_work_2 : decode cX8_work 2 = .ok (.iload_n 3, 1) := by decide +kernel
theorem dX8_work_3 : decode cX8_work 3 = .ok (.iload_n 1, 1) := by decide +kernel
theorem dX8_work_4 : decode cX8_work 4 = .ok (.if_icmp .gt 105, 3) := by decide +kernel
theorem dX8_work_7 : decode cX8_work 7 = .ok (.aload_n 0, 1) := by decide +kernel
theorem dX8_work_8 : decode cX8_work 8 = .ok (.getfield 41, 3) := by decide +kernel
theorem dX8_work_11 : decode cX8_work 11 = .ok (.iload_n 3, 1) := by decide +kernel
theorem dX8_work_12 : decode cX8_work 12 = .ok (.aload_n 0, 1) := by decide +kernel
theorem dX8_work_13 : decode cX8_work 13 = .ok (.getfield 7, 3) := by decide +kernel
theorem dX8_work_16 : decode cX8_work 16 = .ok (.iload_n 3, 1) := by decide +kernel
theorem dX8_work_17 : decode cX8_work 17 = .ok (.iaload, 1) := by decide +kernel
theorem dX8_work_18 : decode cX8_work 18 = .ok (.ifCond .ne 15, 3) := by decide +kernel
theorem dX8_work_21 : decode cX8_work 21 = .ok (.aload_n 0, 1) := by decide +kernel
theorem dX8_work_22 : decode cX8_work 22 = .ok (.getfield 13, 3) := by decide +kernel
theorem dX8_work_25 : decode cX8_work 25 = .ok (.iload_n 3, 1) := by decide +kernel
theorem dX8_work_26 : decode cX8_work 26 = .ok (.iaload, 1) := by decide +kernel
theorem dX8_work_27 : decode cX8_work 27 = .ok (.invokestatic 170, 3) := by decide +kernel
theorem dX8_work_30 : decode cX8_work 30 = .ok (.goto 72, 3) := by decide +kernel
theorem dX8_work_33 : decode cX8_work 33 = .ok (.aload_n 0, 1) := by decide +kernel
theorem dX8_work_34 : decode cX8_work 34 = .ok (.getfield 7, 3) := by decide +kernel
theorem dX8_work_37 : decode cX8_work 37 = .ok (.iload_n 3, 1) := by decide +kernel
theorem dX8_work_38 : decode cX8_work 38 = .ok (.iaload, 1) := by decide +kernel
theorem dX8_work_39 : decode cX8_work 39 = .ok (.iconst 1, 1) := by decide +kernel
theorem dX8_work_40 : decode cX8_work 40 = .ok (.if_icmp .ne 14, 3) := by decide +kernel
theorem dX8_work_43 : decode cX8_work 43 = .ok (.aload_n 2, 1) := by decide +kernel
theorem dX8_work_44 : decode cX8_work 44 = .ok (.aload_n 0, 1) := by decide +kernel
theorem dX8_work_45 : decode cX8_work 45 = .ok (.getfield 13, 3) := by decide +kernel
theorem dX8_work_48 : decode cX8_work 48 = .ok (.iload_n 3, 1) := by decide +kernel
theorem dX8_work_49 : decode cX8_work 49 = .ok (.iaload, 1) := by decide +kernel
theorem dX8_work_50 : decode cX8_work 50 = .ok (.laload, 1) := by decide +kernel
theorem dX8_work_51 : decode cX8_work 51 = .ok (.goto 51, 3) := by decide +kernel
theorem dX8_work_54 : decode cX8_work 54 = .ok (.aload_n 0, 1) := by decide +kernel
theorem dX8_work_55 : decode cX8_work 55 = .ok (.aload_n 0, 1) := by decide +kernel
theorem dX8_work_56 : decode cX8_work 56 = .ok (.getfield 7, 3) := by decide +kernel
theorem dX8_work_59 : decode cX8_work 59 = .ok (.iload_n 3, 1) := by decide +kernel
theorem dX8_work_60 : decode cX8_work 60 = .ok (.iaload, 1) := by decide +kernel
theorem dX8_work_61 : decode cX8_work 61 = .ok (.aload_n 0, 1) := by decide +kernel
theorem dX8_work_62 : decode cX8_work 62 = .ok (.getfield 41, 3) := by decide +kernel
theorem dX8_work_65 : decode cX8_work 65 = .ok (.aload_n 0, 1) := by decide +kernel
theorem dX8_work_66 : decode cX8_work 66 = .ok (.getfield 13, 3) := by decide +kernel
theorem dX8_work_69 : decode cX8_work 69 = .ok (.iload_n 3, 1) := by decide +kernel
theorem dX8_work_70 : decode cX8_work 70 = .ok (.iaload, 1) := by decide +kernel
theorem dX8_work_71 : decode cX8_work 71 = .ok (.laload, 1) := by decide +kernel
theorem dX8_work_72 : decode cX8_work 72 = .ok (.aload_n 0, 1) := by decide +kernel
theorem dX8_work_73 : decode cX8_work 73 = .ok (.getfield 7, 3) := by decide +kernel
theorem dX8_work_76 : decode cX8_work 76 = .ok (.iload_n 3, 1) := by decide +kernel
theorem dX8_work_77 : decode cX8_work 77 = .ok (.iaload, 1) := by decide +kernel
theorem dX8_work_78 : decode cX8_work 78 = .ok (.invokestatic 164, 3) := by decide +kernel
theorem dX8_work_81 : decode cX8_work 81 = .ok (.ifCond .eq 17, 3) := by decide +kernel
theorem dX8_work_84 : decode cX8_work 84 = .ok (.aload_n 0, 1) := by decide +kernel
theorem dX8_work_85 : decode cX8_work 85 = .ok (.getfield 41, 3) := by decide +kernel
theorem dX8_work_88 : decode cX8_work 88 = .ok (.aload_n 0, 1) := by decide +kernel
theorem dX8_work_89 : decode cX8_work 89 = .ok (.getfield 16, 3) := by decide +kernel
theorem dX8_work_92 : decode cX8_work 92 = .ok (.iload_n 3, 1) := by decide +kernel
theorem dX8_work_93 : decode cX8_work 93 = .ok (.iaload, 1) := by decide +kernel
theorem dX8_work_94 : decode cX8_work 94 = .ok (.laload, 1) := by decide +kernel
theorem dX8_work_95 : decode cX8_work 95 = .ok (.goto 4, 3) := by decide +kernel
theorem dX8_work_98 : decode cX8_work 98 = .ok (.lconst 0, 1) := by decide +kernel
theorem dX8_work_99 : decode cX8_work 99 = .ok (.invokevirtual 179, 3) := by decide +kernel
theorem dX8_work_102 : decode cX8_work 102 = .ok (.lastore, 1) := by decide +kernel
theorem dX8_work_103 : decode cX8_work 103 = .ok (.iinc 3 1, 3) := by decide +kernel
theorem dX8_work_106 : decode cX8_work 106 = .ok (.goto (-104), 3) := by decide +kernel
theorem dX8_work_109 : decode cX8_work 109 = .ok (.return_, 1) := by decide +kernel
theorem dX8_value_0 : decode cX8_value 0 = .ok (.aload_n 0, 1) := by decide +kernel
theorem dX8_value_1 : decode cX8_value 1 = .ok (.iconst 0, 1) := by decide +kernel
theorem dX8_value_2 : decode cX8_value 2 = .ok (.putfield 70, 3) := by decide +kernel
theorem dX8_value_5 : decode cX8_value 5 = .ok (.aload_n 0, 1) := by decide +kernel
theorem dX8_value_6 : decode cX8_value 6 = .ok (.iload_n 1, 1) := by decide +kernel
theorem dX8_value_7 : decode cX8_value 7 = .ok (.invokevirtual 160, 3) := by decide +kernel
theorem dX8_value_10 : decode cX8_value 10 = .ok (.ifCond .ne 7, 3) := by decide +kernel
theorem dX8_value_13 : decode cX8_value 13 = .ok (.ldc2_w 174, 3) := by decide +kernel
theorem dX8_value_16 : decode cX8_value 16 = .ok (.lreturn, 1) := by decide +kernel
theorem dX8_value_17 : decode cX8_value 17 = .ok (.aload_n 0, 1) := by decide +kernel
theorem dX8_value_18 : decode cX8_value 18 = .ok (.iload_n 1, 1) := by decide +kernel
theorem dX8_value_19 : decode cX8_value 19 = .ok (.aload_n 0, 1) := by decide +kernel
theorem dX8_value_20 : decode cX8_value 20 = .ok (.getfield 35, 3) := by decide +kernel
theorem dX8_value_23 : decode cX8_value 23 = .ok (.invokevirtual 183, 3) := by decide +kernel
theorem dX8_value_26 : decode cX8_value 26 = .ok (.aload_n 0, 1) := by decide +kernel
theorem dX8_value_27 : decode cX8_value 27 = .ok (.getfield 41, 3) := by decide +kernel
theorem dX8_value_30 : decode cX8_value 30 = .ok (.iload_n 1, 1) := by decide +kernel
theorem dX8_value_31 : decode cX8_value 31 = .ok (.laload, 1) := by decide +kernel
theorem dX8_value_32 : decode cX8_value 32 = .ok (.invokestatic 176, 3) := by decide +kernel
theorem dX8_value_35 : decode cX8_value 35 = .ok (.lreturn, 1) := by decide +kernel
theorem dX8_isTrue_0 : decode cX8_isTrue 0 = .ok (.aload_n 0, 1) := by decide +kernel
theorem dX8_isTrue_1 : decode cX8_isTrue 1 = .ok (.getfield 41, 3) := by decide +kernel
theorem dX8_isTrue_4 : decode cX8_isTrue 4 = .ok (.aload_n 0, 1) := by decide +kernel
theorem dX8_isTrue_5 : decode cX8_isTrue 5 = .ok (.getfield 22, 3) := by decide +kernel
theorem dX8_isTrue_8 : decode cX8_isTrue 8 = .ok (.iload_n 1, 1) := by decide +kernel
theorem dX8_isTrue_9 : decode cX8_isTrue 9 = .ok (.iaload, 1) := by decide +kernel
theorem dX8_isTrue_10 : decode cX8_isTrue 10 = .ok (.laload, 1) := by decide +kernel
theorem dX8_isTrue_11 : decode cX8_isTrue 11 = .ok (.lstore_n 2, 1) := by decide +kernel
theorem dX8_isTrue_12 : decode cX8_isTrue 12 = .ok (.aload_n 0, 1) := by decide +kernel
theorem dX8_isTrue_13 : decode cX8_isTrue 13 = .ok (.getfield 19, 3) := by decide +kernel
theorem dX8_isTrue_16 : decode cX8_isTrue 16 = .ok (.iload_n 1, 1) := by decide +kernel
theorem dX8_isTrue_17 : decode cX8_isTrue 17 = .ok (.iaload, 1) := by decide +kernel
theorem dX8_isTrue_18 : decode cX8_isTrue 18 = .ok (.istore 4, 2) := by decide +kernel
theorem dX8_isTrue_20 : decode cX8_isTrue 20 = .ok (.iload 4, 2) := by decide +kernel
theorem dX8_isTrue_22 : decode cX8_isTrue 22 = .ok (.iconst 3, 1) := by decide +kernel
theorem dX8_isTrue_23 : decode cX8_isTrue 23 = .ok (.if_icmp .le 36, 3) := by decide +kernel
theorem dX8_isTrue_26 : decode cX8_isTrue 26 = .ok (.lload_n 2, 1) := by decide +kernel
theorem dX8_isTrue_27 : decode cX8_isTrue 27 = .ok (.ldc2_w 82, 3) := by decide +kernel
theorem dX8_isTrue_30 : decode cX8_isTrue 30 = .ok (.lcmp, 1) := by decide +kernel
theorem dX8_isTrue_31 : decode cX8_isTrue 31 = .ok (.ifCond .ne 7, 3) := by decide +kernel
theorem dX8_isTrue_34 : decode cX8_isTrue 34 = .ok (.iconst 1, 1) := by decide +kernel
theorem dX8_isTrue_35 : decode cX8_isTrue 35 = .ok (.goto 4, 3) := by decide +kernel
theorem dX8_isTrue_38 : decode cX8_isTrue 38 = .ok (.iconst 0, 1) := by decide +kernel
theorem dX8_isTrue_39 : decode cX8_isTrue 39 = .ok (.iload 4, 2) := by decide +kernel
theorem dX8_isTrue_41 : decode cX8_isTrue 41 = .ok (.iconst 4, 1) := by decide +kernel
theorem dX8_isTrue_42 : decode cX8_isTrue 42 = .ok (.if_icmp .ne 7, 3) := by decide +kernel
theorem dX8_isTrue_45 : decode cX8_isTrue 45 = .ok (.iconst 1, 1) := by decide +kernel
theorem dX8_isTrue_46 : decode cX8_isTrue 46 = .ok (.goto 4, 3) := by decide +kernel
theorem dX8_isTrue_49 : decode cX8_isTrue 49 = .ok (.iconst 0, 1) := by decide +kernel
theorem dX8_isTrue_50 : decode cX8_isTrue 50 = .ok (.if_icmp .ne 7, 3) := by decide +kernel
theorem dX8_isTrue_53 : decode cX8_isTrue 53 = .ok (.iconst 1, 1) := by decide +kernel
theorem dX8_isTrue_54 : decode cX8_isTrue 54 = .ok (.goto 4, 3) := by decide +kernel
theorem dX8_isTrue_57 : decode cX8_isTrue 57 = .ok (.iconst 0, 1) := by decide +kernel
theorem dX8_isTrue_58 : decode cX8_isTrue 58 = .ok (.ireturn, 1) := by decide +kernel
theorem dX8_isTrue_59 : decode cX8_isTrue 59 = .ok (.aload_n 0, 1) := by decide +kernel
theorem dX8_isTrue_60 : decode cX8_isTrue 60 = .ok (.getfield 41, 3) := by decide +kernel
theorem dX8_isTrue_63 : decode cX8_isTrue 63 = .ok (.aload_n 0, 1) := by decide +kernel
theorem dX8_isTrue_64 : decode cX8_isTrue 64 = .ok (.getfield 25, 3) := by decide +kernel
theorem dX8_isTrue_67 : decode cX8_isTrue 67 = .ok (.iload_n 1, 1) := by decide +kernel
theorem dX8_isTrue_68 : decode cX8_isTrue 68 = .ok (.iaload, 1) := by decide +kernel
theorem dX8_isTrue_69 : decode cX8_isTrue 69 = .ok (.laload, 1) := by decide +kernel
theorem dX8_isTrue_70 : decode cX8_isTrue 70 = .ok (.lstore 5, 2) := by decide +kernel
theorem dX8_isTrue_72 : decode cX8_isTrue 72 = .ok (.lload_n 2, 1) := by decide +kernel
theorem dX8_isTrue_73 : decode cX8_isTrue 73 = .ok (.ldc2_w 82, 3) := by decide +kernel
theorem dX8_isTrue_76 : decode cX8_isTrue 76 = .ok (.lcmp, 1) := by decide +kernel
theorem dX8_isTrue_77 : decode cX8_isTrue 77 = .ok (.ifCond .eq 12, 3) := by decide +kernel
theorem dX8_isTrue_80 : decode cX8_isTrue 80 = .ok (.lload 5, 2) := by decide +kernel
theorem dX8_isTrue_82 : decode cX8_isTrue 82 = .ok (.ldc2_w 82, 3) := by decide +kernel
theorem dX8_isTrue_85 : decode cX8_isTrue 85 = .ok (.lcmp, 1) := by decide +kernel
theorem dX8_isTrue_86 : decode cX8_isTrue 86 = .ok (.ifCond .ne 15, 3) := by decide +kernel
theorem dX8_isTrue_89 : decode cX8_isTrue 89 = .ok (.iload 4, 2) := by decide +kernel
theorem dX8_isTrue_91 : decode cX8_isTrue 91 = .ok (.iconst 3, 1) := by decide +kernel
theorem dX8_isTrue_92 : decode cX8_isTrue 92 = .ok (.if_icmp .ne 7, 3) := by decide +kernel
theorem dX8_isTrue_95 : decode cX8_isTrue 95 = .ok (.iconst 1, 1) := by decide +kernel
theorem dX8_isTrue_96 : decode cX8_isTrue 96 = .ok (.goto 4, 3) := by decide +kernel
theorem dX8_isTrue_99 : decode cX8_isTrue 99 = .ok (.iconst 0, 1) := by decide +kernel
theorem dX8_isTrue_100 : decode cX8_isTrue 100 = .ok (.ireturn, 1) := by decide +kernel
theorem dX8_isTrue_101 : decode cX8_isTrue 101 = .ok (.lload_n 2, 1) := by decide +kernel
theorem dX8_isTrue_102 : decode cX8_isTrue 102 = .ok (.invokestatic 187, 3) := by decide +kernel
theorem dX8_isTrue_105 : decode cX8_isTrue 105 = .ok (.lstore 7, 2) := by decide +kernel
theorem dX8_isTrue_107 : decode cX8_isTrue 107 = .ok (.lload 5, 2) := by decide +kernel
theorem dX8_isTrue_109 : decode cX8_isTrue 109 = .ok (.invokestatic 187, 3) := by decide +kernel
theorem dX8_isTrue_112 : decode cX8_isTrue 112 = .ok (.lstore 9, 2) := by decide +kernel
theorem dX8_isTrue_114 : decode cX8_isTrue 114 = .ok (.iload 4, 2) := by decide +kernel
theorem dX8_isTrue_116 : decode cX8_isTrue 116 = .ok (.ifCond .ne 19, 3) := by decide +kernel
theorem dX8_isTrue_119 : decode cX8_isTrue 119 = .ok (.lload 7, 2) := by decide +kernel
theorem dX8_isTrue_121 : decode cX8_isTrue 121 = .ok (.lload 9, 2) := by decide +kernel
theorem dX8_isTrue_123 : decode cX8_isTrue 123 = .ok (.lcmp, 1) := by decide +kernel
theorem dX8_isTrue_124 : decode cX8_isTrue 124 = .ok (.ifCond .ge 7, 3) := by decide +kernel
theorem dX8_isTrue_127 : decode cX8_isTrue 127 = .ok (.iconst 1, 1) := by decide +kernel
theorem dX8_isTrue_128 : decode cX8_isTrue 128 = .ok (.goto 64, 3) := by decide +kernel
theorem dX8_isTrue_131 : decode cX8_isTrue 131 = .ok (.iconst 0, 1) := by decide +kernel
theorem dX8_isTrue_132 : decode cX8_isTrue 132 = .ok (.goto 60, 3) := by decide +kernel
theorem dX8_isTrue_135 : decode cX8_isTrue 135 = .ok (.iload 4, 2) := by decide +kernel
theorem dX8_isTrue_137 : decode cX8_isTrue 137 = .ok (.iconst 1, 1) := by decide +kernel
theorem dX8_isTrue_138 : decode cX8_isTrue 138 = .ok (.if_icmp .ne 19, 3) := by decide +kernel
theorem dX8_isTrue_141 : decode cX8_isTrue 141 = .ok (.lload 7, 2) := by decide +kernel
theorem dX8_isTrue_143 : decode cX8_isTrue 143 = .ok (.lload 9, 2) := by decide +kernel
theorem dX8_isTrue_145 : decode cX8_isTrue 145 = .ok (.lcmp, 1) := by decide +kernel
theorem dX8_isTrue_146 : decode cX8_isTrue 146 = .ok (.ifCond .gt 7, 3) := by decide +kernel
theorem dX8_isTrue_149 : decode cX8_isTrue 149 = .ok (.iconst 1, 1) := by decide +kernel
theorem dX8_isTrue_150 : decode cX8_isTrue 150 = .ok (.goto 42, 3) := by decide +kernel
theorem dX8_isTrue_153 : decode cX8_isTrue 153 = .ok (.iconst 0, 1) := by decide +kernel
theorem dX8_isTrue_154 : decode cX8_isTrue 154 = .ok (.goto 38, 3) := by decide +kernel
theorem dX8_isTrue_157 : decode cX8_isTrue 157 = .ok (.iload 4, 2) := by decide +kernel
theorem dX8_isTrue_159 : decode cX8_isTrue 159 = .ok (.iconst 2, 1) := by decide +kernel
theorem dX8_isTrue_160 : decode cX8_isTrue 160 = .ok (.if_icmp .ne 19, 3) := by decide +kernel
theorem dX8_isTrue_163 : decode cX8_isTrue 163 = .ok (.lload 7, 2) := by decide +kernel
theorem dX8_isTrue_165 : decode cX8_isTrue 165 = .ok (.lload 9, 2) := by decide +kernel
theorem dX8_isTrue_167 : decode cX8_isTrue 167 = .ok (.lcmp, 1) := by decide +kernel
theorem dX8_isTrue_168 : decode cX8_isTrue 168 = .ok (.ifCond .ne 7, 3) := by decide +kernel
theorem dX8_isTrue_171 : decode cX8_isTrue 171 = .ok (.iconst 1, 1) := by decide +kernel
theorem dX8_isTrue_172 : decode cX8_isTrue 172 = .ok (.goto 20, 3) := by decide +kernel
theorem dX8_isTrue_175 : decode cX8_isTrue 175 = .ok (.iconst 0, 1) := by decide +kernel
theorem dX8_isTrue_176 : decode cX8_isTrue 176 = .ok (.goto 16, 3) := by decide +kernel
theorem dX8_isTrue_179 : decode cX8_isTrue 179 = .ok (.lload 7, 2) := by decide +kernel
theorem dX8_isTrue_181 : decode cX8_isTrue 181 = .ok (.lload 9, 2) := by decide +kernel
theorem dX8_isTrue_183 : decode cX8_isTrue 183 = .ok (.lcmp, 1) := by decide +kernel
theorem dX8_isTrue_184 : decode cX8_isTrue 184 = .ok (.ifCond .eq 7, 3) := by decide +kernel
theorem dX8_isTrue_187 : decode cX8_isTrue 187 = .ok (.iconst 1, 1) := by decide +kernel
theorem dX8_isTrue_188 : decode cX8_isTrue 188 = .ok (.goto 4, 3) := by decide +kernel
theorem dX8_isTrue_191 : decode cX8_isTrue 191 = .ok (.iconst 0, 1) := by decide +kernel
theorem dX8_isTrue_192 : decode cX8_isTrue 192 = .ok (.ireturn, 1) := by decide +kernel
theorem dX8_holds_0 : decode cX8_holds 0 = .ok (.aload_n 0, 1) := by decide +kernel
theorem dX8_holds_1 : decode cX8_holds 1 = .ok (.iconst 0, 1) := by decide +kernel
theorem dX8_holds_2 : decode cX8_holds 2 = .ok (.putfield 70, 3) := by decide +kernel
theorem dX8_holds_5 : decode cX8_holds 5 = .ok (.iload_n 1, 1) := by decide +kernel
theorem dX8_holds_6 : decode cX8_holds 6 = .ok (.i2l, 1) := by decide +kernel
theorem dX8_holds_7 : decode cX8_holds 7 = .ok (.lconst 0, 1) := by decide +kernel
theorem dX8_holds_8 : decode cX8_holds 8 = .ok (.aload_n 0, 1) := by decide +kernel
theorem dX8_holds_9 : decode cX8_holds 9 = .ok (.getfield 167, 3) := by decide +kernel
theorem dX8_holds_12 : decode cX8_holds 12 = .ok (.iconst 1, 1) := by decide +kernel
theorem dX8_holds_13 : decode cX8_holds 13 = .ok (.isub, 1) := by decide +kernel
theorem dX8_holds_14 : decode cX8_holds 14 = .ok (.i2l, 1) := by decide +kernel
theorem dX8_holds_15 : decode cX8_holds 15 = .ok (.invokestatic 150, 3) := by decide +kernel
theorem dX8_holds_18 : decode cX8_holds 18 = .ok (.ifCond .ne 5, 3) := by decide +kernel
theorem dX8_holds_21 : decode cX8_holds 21 = .ok (.iconst (-1), 1) := by decide +kernel
theorem dX8_holds_22 : decode cX8_holds 22 = .ok (.ireturn, 1) := by decide +kernel
theorem dX8_holds_23 : decode cX8_holds 23 = .ok (.aload_n 0, 1) := by decide +kernel
theorem dX8_holds_24 : decode cX8_holds 24 = .ok (.aload_n 0, 1) := by decide +kernel
theorem dX8_holds_25 : decode cX8_holds 25 = .ok (.getfield 147, 3) := by decide +kernel
theorem dX8_holds_28 : decode cX8_holds 28 = .ok (.iconst 1, 1) := by decide +kernel
theorem dX8_holds_29 : decode cX8_holds 29 = .ok (.isub, 1) := by decide +kernel
theorem dX8_holds_30 : decode cX8_holds 30 = .ok (.aload_n 0, 1) := by decide +kernel
theorem dX8_holds_31 : decode cX8_holds 31 = .ok (.getfield 35, 3) := by decide +kernel
theorem dX8_holds_34 : decode cX8_holds 34 = .ok (.invokevirtual 183, 3) := by decide +kernel
theorem dX8_holds_37 : decode cX8_holds 37 = .ok (.aload_n 0, 1) := by decide +kernel
theorem dX8_holds_38 : decode cX8_holds 38 = .ok (.iload_n 1, 1) := by decide +kernel
theorem dX8_holds_39 : decode cX8_holds 39 = .ok (.invokevirtual 190, 3) := by decide +kernel
theorem dX8_holds_42 : decode cX8_holds 42 = .ok (.ifCond .eq 7, 3) := by decide +kernel
theorem dX8_holds_45 : decode cX8_holds 45 = .ok (.iconst 1, 1) := by decide +kernel
theorem dX8_holds_46 : decode cX8_holds 46 = .ok (.goto 4, 3) := by decide +kernel
theorem dX8_holds_49 : decode cX8_holds 49 = .ok (.iconst 0, 1) := by decide +kernel
theorem dX8_holds_50 : decode cX8_holds 50 = .ok (.ireturn, 1) := by decide +kernel
theorem dX8_tell_0 : decode cX8_tell 0 = .ok (.aload_n 0, 1) := by decide +kernel
theorem dX8_tell_1 : decode cX8_tell 1 = .ok (.getfield 50, 3) := by decide +kernel
theorem dX8_tell_4 : decode cX8_tell 4 = .ok (.iload_n 1, 1) := by decide +kernel
theorem dX8_tell_5 : decode cX8_tell 5 = .ok (.iload_n 2, 1) := by decide +kernel
theorem dX8_tell_6 : decode cX8_tell 6 = .ok (.bastore, 1) := by decide +kernel
theorem dX8_tell_7 : decode cX8_tell 7 = .ok (.aload_n 0, 1) := by decide +kernel
theorem dX8_tell_8 : decode cX8_tell 8 = .ok (.getfield 54, 3) := by decide +kernel
theorem dX8_tell_11 : decode cX8_tell 11 = .ok (.iload_n 1, 1) := by decide +kernel
theorem dX8_tell_12 : decode cX8_tell 12 = .ok (.lload_n 3, 1) := by decide +kernel
theorem dX8_tell_13 : decode cX8_tell 13 = .ok (.lastore, 1) := by decide +kernel
theorem dX8_tell_14 : decode cX8_tell 14 = .ok (.aload_n 0, 1) := by decide +kernel
theorem dX8_tell_15 : decode cX8_tell 15 = .ok (.getfield 57, 3) := by decide +kernel
theorem dX8_tell_18 : decode cX8_tell 18 = .ok (.iload_n 1, 1) := by decide +kernel
theorem dX8_tell_19 : decode cX8_tell 19 = .ok (.lload 5, 2) := by decide +kernel
theorem dX8_tell_21 : decode cX8_tell 21 = .ok (.lastore, 1) := by decide +kernel
theorem dX8_tell_22 : decode cX8_tell 22 = .ok (.aload_n 0, 1) := by decide +kernel
theorem dX8_tell_23 : decode cX8_tell 23 = .ok (.getfield 60, 3) := by decide +kernel
theorem dX8_tell_26 : decode cX8_tell 26 = .ok (.iload_n 1, 1) := by decide +kernel
theorem dX8_tell_27 : decode cX8_tell 27 = .ok (.iload 7, 2) := by decide +kernel
theorem dX8_tell_29 : decode cX8_tell 29 = .ok (.bastore, 1) := by decide +kernel
theorem dX8_tell_30 : decode cX8_tell 30 = .ok (.return_, 1) := by decide +kernel
theorem dX8_all_0 : decode cX8_all 0 = .ok (.aload_n 0, 1) := by decide +kernel
theorem dX8_all_1 : decode cX8_all 1 = .ok (.iload_n 1, 1) := by decide +kernel
theorem dX8_all_2 : decode cX8_all 2 = .ok (.iconst 1, 1) := by decide +kernel
theorem dX8_all_3 : decode cX8_all 3 = .ok (.ldc2_w 66, 3) := by decide +kernel
theorem dX8_all_6 : decode cX8_all 6 = .ok (.ldc2_w 68, 3) := by decide +kernel
theorem dX8_all_9 : decode cX8_all 9 = .ok (.iconst 1, 1) := by decide +kernel
theorem dX8_all_10 : decode cX8_all 10 = .ok (.invokevirtual 193, 3) := by decide +kernel
theorem dX8_all_13 : decode cX8_all 13 = .ok (.return_, 1) := by decide +kernel
theorem dX8_hasZero_0 : decode cX8_hasZero 0 = .ok (.aload_n 0, 1) := by decide +kernel
theorem dX8_hasZero_1 : decode cX8_hasZero 1 = .ok (.getfield 54, 3) := by decide +kernel
theorem dX8_hasZero_4 : decode cX8_hasZero 4 = .ok (.iload_n 1, 1) := by decide +kernel
theorem dX8_hasZero_5 : decode cX8_hasZero 5 = .ok (.laload, 1) := by decide +kernel
theorem dX8_hasZero_6 : decode cX8_hasZero 6 = .ok (.lconst 0, 1) := by decide +kernel
theorem dX8_hasZero_7 : decode cX8_hasZero 7 = .ok (.lcmp, 1) := by decide +kernel
theorem dX8_hasZero_8 : decode cX8_hasZero 8 = .ok (.ifCond .gt 20, 3) := by decide +kernel
theorem dX8_hasZero_11 : decode cX8_hasZero 11 = .ok (.aload_n 0, 1) := by decide +kernel
theorem dX8_hasZero_12 : decode cX8_hasZero 12 = .ok (.getfield 57, 3) := by decide +kernel
theorem dX8_hasZero_15 : decode cX8_hasZero 15 = .ok (.iload_n 1, 1) := by decide +kernel
theorem dX8_hasZero_16 : decode cX8_hasZero 16 = .ok (.laload, 1) := by decide +kernel
theorem dX8_hasZero_17 : decode cX8_hasZero 17 = .ok (.ldc2_w 74, 3) := by decide +kernel
theorem dX8_hasZero_20 : decode cX8_hasZero 20 = .ok (.lcmp, 1) := by decide +kernel
theorem dX8_hasZero_21 : decode cX8_hasZero 21 = .ok (.ifCond .lt 7, 3) := by decide +kernel
theorem dX8_hasZero_24 : decode cX8_hasZero 24 = .ok (.iconst 1, 1) := by decide +kernel
theorem dX8_hasZero_25 : decode cX8_hasZero 25 = .ok (.goto 4, 3) := by decide +kernel
theorem dX8_hasZero_28 : decode cX8_hasZero 28 = .ok (.iconst 0, 1) := by decide +kernel
theorem dX8_hasZero_29 : decode cX8_hasZero 29 = .ok (.ireturn, 1) := by decide +kernel
theorem dX8_hasInfinity_0 : decode cX8_hasInfinity 0 = .ok (.aload_n 0, 1) := by decide +kernel
theorem dX8_hasInfinity_1 : decode cX8_hasInfinity 1 = .ok (.getfield 54, 3) := by decide +kernel
theorem dX8_hasInfinity_4 : decode cX8_hasInfinity 4 = .ok (.iload_n 1, 1) := by decide +kernel
theorem dX8_hasInfinity_5 : decode cX8_hasInfinity 5 = .ok (.laload, 1) := by decide +kernel
theorem dX8_hasInfinity_6 : decode cX8_hasInfinity 6 = .ok (.invokestatic 94, 3) := by decide +kernel
theorem dX8_hasInfinity_9 : decode cX8_hasInfinity 9 = .ok (.ifCond .ne 15, 3) := by decide +kernel
theorem dX8_hasInfinity_12 : decode cX8_hasInfinity 12 = .ok (.aload_n 0, 1) := by decide +kernel
theorem dX8_hasInfinity_13 : decode cX8_hasInfinity 13 = .ok (.getfield 57, 3) := by decide +kernel
theorem dX8_hasInfinity_16 : decode cX8_hasInfinity 16 = .ok (.iload_n 1, 1) := by decide +kernel
theorem dX8_hasInfinity_17 : decode cX8_hasInfinity 17 = .ok (.laload, 1) := by decide +kernel
theorem dX8_hasInfinity_18 : decode cX8_hasInfinity 18 = .ok (.invokestatic 94, 3) := by decide +kernel
theorem dX8_hasInfinity_21 : decode cX8_hasInfinity 21 = .ok (.ifCond .eq 7, 3) := by decide +kernel
theorem dX8_hasInfinity_24 : decode cX8_hasInfinity 24 = .ok (.iconst 1, 1) := by decide +kernel
theorem dX8_hasInfinity_25 : decode cX8_hasInfinity 25 = .ok (.goto 4, 3) := by decide +kernel
theorem dX8_hasInfinity_28 : decode cX8_hasInfinity 28 = .ok (.iconst 0, 1) := by decide +kernel
theorem dX8_hasInfinity_29 : decode cX8_hasInfinity 29 = .ok (.ireturn, 1) := by decide +kernel
theorem dX8_spanOf_0 : decode cX8_spanOf 0 = .ok (.aload_n 0, 1) := by decide +kernel
theorem dX8_spanOf_1 : decode cX8_spanOf 1 = .ok (.getfield 7, 3) := by decide +kernel
theorem dX8_spanOf_4 : decode cX8_spanOf 4 = .ok (.iload_n 1, 1) := by decide +kernel
theorem dX8_spanOf_5 : decode cX8_spanOf 5 = .ok (.iaload, 1) := by decide +kernel
theorem dX8_spanOf_6 : decode cX8_spanOf 6 = .ok (.istore_n 2, 1) := by decide +kernel
theorem dX8_spanOf_7 : decode cX8_spanOf 7 = .ok (.iload_n 2, 1) := by decide +kernel
theorem dX8_spanOf_8 : decode cX8_spanOf 8 = .ok (.ifCond .ne 47, 3) := by decide +kernel
theorem dX8_spanOf_11 : decode cX8_spanOf 11 = .ok (.aload_n 0, 1) := by decide +kernel
theorem dX8_spanOf_12 : decode cX8_spanOf 12 = .ok (.getfield 13, 3) := by decide +kernel
theorem dX8_spanOf_15 : decode cX8_spanOf 15 = .ok (.iload_n 1, 1) := by decide +kernel
theorem dX8_spanOf_16 : decode cX8_spanOf 16 = .ok (.iaload, 1) := by decide +kernel
theorem dX8_spanOf_17 : decode cX8_spanOf 17 = .ok (.invokestatic 170, 3) := by decide +kernel
theorem dX8_spanOf_20 : decode cX8_spanOf 20 = .ok (.lstore_n 3, 1) := by decide +kernel
theorem dX8_spanOf_21 : decode cX8_spanOf 21 = .ok (.aload_n 0, 1) := by decide +kernel
theorem dX8_spanOf_22 : decode cX8_spanOf 22 = .ok (.iload_n 1, 1) := by decide +kernel
theorem dX8_spanOf_23 : decode cX8_spanOf 23 = .ok (.lload_n 3, 1) := by decide +kernel
theorem dX8_spanOf_24 : decode cX8_spanOf 24 = .ok (.ldc2_w 82, 3) := by decide +kernel
theorem dX8_spanOf_27 : decode cX8_spanOf 27 = .ok (.lcmp, 1) := by decide +kernel
theorem dX8_spanOf_28 : decode cX8_spanOf 28 = .ok (.ifCond .eq 7, 3) := by decide +kernel
theorem dX8_spanOf_31 : decode cX8_spanOf 31 = .ok (.iconst 1, 1) := by decide +kernel
theorem dX8_spanOf_32 : decode cX8_spanOf 32 = .ok (.goto 4, 3) := by decide +kernel
theorem dX8_spanOf_35 : decode cX8_spanOf 35 = .ok (.iconst 0, 1) := by decide +kernel
theorem dX8_spanOf_36 : decode cX8_spanOf 36 = .ok (.lload_n 3, 1) := by decide +kernel
theorem dX8_spanOf_37 : decode cX8_spanOf 37 = .ok (.lload_n 3, 1) := by decide +kernel
theorem dX8_spanOf_38 : decode cX8_spanOf 38 = .ok (.lload_n 3, 1) := by decide +kernel
theorem dX8_spanOf_39 : decode cX8_spanOf 39 = .ok (.ldc2_w 82, 3) := by decide +kernel
theorem dX8_spanOf_42 : decode cX8_spanOf 42 = .ok (.lcmp, 1) := by decide +kernel
theorem dX8_spanOf_43 : decode cX8_spanOf 43 = .ok (.ifCond .ne 7, 3) := by decide +kernel
theorem dX8_spanOf_46 : decode cX8_spanOf 46 = .ok (.iconst 1, 1) := by decide +kernel
theorem dX8_spanOf_47 : decode cX8_spanOf 47 = .ok (.goto 4, 3) := by decide +kernel
theorem dX8_spanOf_50 : decode cX8_spanOf 50 = .ok (.iconst 0, 1) := by decide +kernel
theorem dX8_spanOf_51 : decode cX8_spanOf 51 = .ok (.invokevirtual 193, 3) := by decide +kernel
theorem dX8_spanOf_54 : decode cX8_spanOf 54 = .ok (.return_, 1) := by decide +kernel
theorem dX8_spanOf_55 : decode cX8_spanOf 55 = .ok (.iload_n 2, 1) := by decide +kernel
theorem dX8_spanOf_56 : decode cX8_spanOf 56 = .ok (.iconst 1, 1) := by decide +kernel
theorem dX8_spanOf_57 : decode cX8_spanOf 57 = .ok (.if_icmp .ne 33, 3) := by decide +kernel
theorem dX8_spanOf_60 : decode cX8_spanOf 60 = .ok (.aload_n 0, 1) := by decide +kernel
theorem dX8_spanOf_61 : decode cX8_spanOf 61 = .ok (.iload_n 1, 1) := by decide +kernel
theorem dX8_spanOf_62 : decode cX8_spanOf 62 = .ok (.iconst 1, 1) := by decide +kernel
theorem dX8_spanOf_63 : decode cX8_spanOf 63 = .ok (.aload_n 0, 1) := by decide +kernel
theorem dX8_spanOf_64 : decode cX8_spanOf 64 = .ok (.getfield 44, 3) := by decide +kernel
theorem dX8_spanOf_67 : decode cX8_spanOf 67 = .ok (.aload_n 0, 1) := by decide +kernel
theorem dX8_spanOf_68 : decode cX8_spanOf 68 = .ok (.getfield 13, 3) := by decide +kernel
theorem dX8_spanOf_71 : decode cX8_spanOf 71 = .ok (.iload_n 1, 1) := by decide +kernel
theorem dX8_spanOf_72 : decode cX8_spanOf 72 = .ok (.iaload, 1) := by decide +kernel
theorem dX8_spanOf_73 : decode cX8_spanOf 73 = .ok (.laload, 1) := by decide +kernel
theorem dX8_spanOf_74 : decode cX8_spanOf 74 = .ok (.aload_n 0, 1) := by decide +kernel
theorem dX8_spanOf_75 : decode cX8_spanOf 75 = .ok (.getfield 47, 3) := by decide +kernel
theorem dX8_spanOf_78 : decode cX8_spanOf 78 = .ok (.aload_n 0, 1) := by decide +kernel
theorem dX8_spanOf_79 : decode cX8_spanOf 79 = .ok (.getfield 13, 3) := by decide +kernel
theorem dX8_spanOf_82 : decode cX8_spanOf 82 = .ok (.iload_n 1, 1) := by decide +kernel
theorem dX8_spanOf_83 : decode cX8_spanOf 83 = .ok (.iaload, 1) := by decide +kernel
theorem dX8_spanOf_84 : decode cX8_spanOf 84 = .ok (.laload, 1) := by decide +kernel
theorem dX8_spanOf_85 : decode cX8_spanOf 85 = .ok (.iconst 0, 1) := by decide +kernel
theorem dX8_spanOf_86 : decode cX8_spanOf 86 = .ok (.invokevirtual 193, 3) := by decide +kernel
theorem dX8_spanOf_89 : decode cX8_spanOf 89 = .ok (.return_, 1) := by decide +kernel
theorem dX8_spanOf_90 : decode cX8_spanOf 90 = .ok (.aload_n 0, 1) := by decide +kernel
theorem dX8_spanOf_91 : decode cX8_spanOf 91 = .ok (.getfield 13, 3) := by decide +kernel
theorem dX8_spanOf_94 : decode cX8_spanOf 94 = .ok (.iload_n 1, 1) := by decide +kernel
theorem dX8_spanOf_95 : decode cX8_spanOf 95 = .ok (.iaload, 1) := by decide +kernel
theorem dX8_spanOf_96 : decode cX8_spanOf 96 = .ok (.istore_n 3, 1) := by decide +kernel
theorem dX8_spanOf_97 : decode cX8_spanOf 97 = .ok (.iload_n 2, 1) := by decide +kernel
theorem dX8_spanOf_98 : decode cX8_spanOf 98 = .ok (.invokestatic 164, 3) := by decide +kernel
theorem dX8_spanOf_101 : decode cX8_spanOf 101 = .ok (.ifCond .eq 12, 3) := by decide +kernel
theorem dX8_spanOf_104 : decode cX8_spanOf 104 = .ok (.aload_n 0, 1) := by decide +kernel
theorem dX8_spanOf_105 : decode cX8_spanOf 105 = .ok (.getfield 16, 3) := by decide +kernel
theorem dX8_spanOf_108 : decode cX8_spanOf 108 = .ok (.iload_n 1, 1) := by decide +kernel
theorem dX8_spanOf_109 : decode cX8_spanOf 109 = .ok (.iaload, 1) := by decide +kernel
theorem dX8_spanOf_110 : decode cX8_spanOf 110 = .ok (.goto 4, 3) := by decide +kernel
theorem dX8_spanOf_113 : decode cX8_spanOf 113 = .ok (.iload_n 3, 1) := by decide +kernel
theorem dX8_spanOf_114 : decode cX8_spanOf 114 = .ok (.istore 4, 2) := by decide +kernel
theorem dX8_spanOf_116 : decode cX8_spanOf 116 = .ok (.aload_n 0, 1) := by decide +kernel
theorem dX8_spanOf_117 : decode cX8_spanOf 117 = .ok (.getfield 50, 3) := by decide +kernel
theorem dX8_spanOf_120 : decode cX8_spanOf 120 = .ok (.iload_n 3, 1) := by decide +kernel
theorem dX8_spanOf_121 : decode cX8_spanOf 121 = .ok (.baload, 1) := by decide +kernel
theorem dX8_spanOf_122 : decode cX8_spanOf 122 = .ok (.ifCond .eq 13, 3) := by decide +kernel
theorem dX8_spanOf_125 : decode cX8_spanOf 125 = .ok (.aload_n 0, 1) := by decide +kernel
theorem dX8_spanOf_126 : decode cX8_spanOf 126 = .ok (.getfield 50, 3) := by decide +kernel
theorem dX8_spanOf_129 : decode cX8_spanOf 129 = .ok (.iload 4, 2) := by decide +kernel
theorem dX8_spanOf_131 : decode cX8_spanOf 131 = .ok (.baload, 1) := by decide +kernel
theorem dX8_spanOf_132 : decode cX8_spanOf 132 = .ok (.ifCond .ne 33, 3) := by decide +kernel
theorem dX8_spanOf_135 : decode cX8_spanOf 135 = .ok (.aload_n 0, 1) := by decide +kernel
theorem dX8_spanOf_136 : decode cX8_spanOf 136 = .ok (.iload_n 1, 1) := by decide +kernel
theorem dX8_spanOf_137 : decode cX8_spanOf 137 = .ok (.iload_n 2, 1) := by decide +kernel
theorem dX8_spanOf_138 : decode cX8_spanOf 138 = .ok (.bipush 13, 2) := by decide +kernel
theorem dX8_spanOf_140 : decode cX8_spanOf 140 = .ok (.if_icmp .ne 7, 3) := by decide +kernel
theorem dX8_spanOf_143 : decode cX8_spanOf 143 = .ok (.iconst 1, 1) := by decide +kernel
theorem dX8_spanOf_144 : decode cX8_spanOf 144 = .ok (.goto 4, 3) := by decide +kernel
theorem dX8_spanOf_147 : decode cX8_spanOf 147 = .ok (.iconst 0, 1) := by decide +kernel
theorem dX8_spanOf_148 : decode cX8_spanOf 148 = .ok (.lconst 0, 1) := by decide +kernel
theorem dX8_spanOf_149 : decode cX8_spanOf 149 = .ok (.lconst 0, 1) := by decide +kernel
theorem dX8_spanOf_150 : decode cX8_spanOf 150 = .ok (.iload_n 2, 1) := by decide +kernel
theorem dX8_spanOf_151 : decode cX8_spanOf 151 = .ok (.bipush 13, 2) := by decide +kernel
theorem dX8_spanOf_153 : decode cX8_spanOf 153 = .ok (.if_icmp .eq 7, 3) := by decide +kernel
theorem dX8_spanOf_156 : decode cX8_spanOf 156 = .ok (.iconst 1, 1) := by decide +kernel
theorem dX8_spanOf_157 : decode cX8_spanOf 157 = .ok (.goto 4, 3) := by decide +kernel
theorem dX8_spanOf_160 : decode cX8_spanOf 160 = .ok (.iconst 0, 1) := by decide +kernel
theorem dX8_spanOf_161 : decode cX8_spanOf 161 = .ok (.invokevirtual 193, 3) := by decide +kernel
theorem dX8_spanOf_164 : decode cX8_spanOf 164 = .ok (.return_, 1) := by decide +kernel
theorem dX8_spanOf_165 : decode cX8_spanOf 165 = .ok (.aload_n 0, 1) := by decide +kernel
theorem dX8_spanOf_166 : decode cX8_spanOf 166 = .ok (.getfield 60, 3) := by decide +kernel
theorem dX8_spanOf_169 : decode cX8_spanOf 169 = .ok (.iload_n 3, 1) := by decide +kernel
theorem dX8_spanOf_170 : decode cX8_spanOf 170 = .ok (.baload, 1) := by decide +kernel
theorem dX8_spanOf_171 : decode cX8_spanOf 171 = .ok (.ifCond .ne 13, 3) := by decide +kernel
theorem dX8_spanOf_174 : decode cX8_spanOf 174 = .ok (.aload_n 0, 1) := by decide +kernel
theorem dX8_spanOf_175 : decode cX8_spanOf 175 = .ok (.getfield 60, 3) := by decide +kernel
theorem dX8_spanOf_178 : decode cX8_spanOf 178 = .ok (.iload 4, 2) := by decide +kernel
theorem dX8_spanOf_180 : decode cX8_spanOf 180 = .ok (.baload, 1) := by decide +kernel
theorem dX8_spanOf_181 : decode cX8_spanOf 181 = .ok (.ifCond .eq 7, 3) := by decide +kernel
theorem dX8_spanOf_184 : decode cX8_spanOf 184 = .ok (.iconst 1, 1) := by decide +kernel
theorem dX8_spanOf_185 : decode cX8_spanOf 185 = .ok (.goto 4, 3) := by decide +kernel
theorem dX8_spanOf_188 : decode cX8_spanOf 188 = .ok (.iconst 0, 1) := by decide +kernel
theorem dX8_spanOf_189 : decode cX8_spanOf 189 = .ok (.istore 5, 2) := by decide +kernel
theorem dX8_spanOf_191 : decode cX8_spanOf 191 = .ok (.iload_n 2, 1) := by decide +kernel
theorem dX8_spanOf_192 : decode cX8_spanOf 192 = .ok (.invokestatic 164, 3) := by decide +kernel
theorem dX8_spanOf_195 : decode cX8_spanOf 195 = .ok (.ifCond .eq 15, 3) := by decide +kernel
theorem dX8_spanOf_198 : decode cX8_spanOf 198 = .ok (.aload_n 0, 1) := by decide +kernel
theorem dX8_spanOf_199 : decode cX8_spanOf 199 = .ok (.iload_n 1, 1) := by decide +kernel
theorem dX8_spanOf_200 : decode cX8_spanOf 200 = .ok (.iload_n 2, 1) := by decide +kernel
theorem dX8_spanOf_201 : decode cX8_spanOf 201 = .ok (.iload_n 3, 1) := by decide +kernel
theorem dX8_spanOf_202 : decode cX8_spanOf 202 = .ok (.iload 4, 2) := by decide +kernel
theorem dX8_spanOf_204 : decode cX8_spanOf 204 = .ok (.iload 5, 2) := by decide +kernel
theorem dX8_spanOf_206 : decode cX8_spanOf 206 = .ok (.invokevirtual 197, 3) := by decide +kernel
theorem dX8_spanOf_209 : decode cX8_spanOf 209 = .ok (.return_, 1) := by decide +kernel
theorem dX8_spanOf_210 : decode cX8_spanOf 210 = .ok (.iload_n 2, 1) := by decide +kernel
theorem dX8_spanOf_211 : decode cX8_spanOf 211 = .ok (.bipush 15, 2) := by decide +kernel
theorem dX8_spanOf_213 : decode cX8_spanOf 213 = .ok (.if_icmp .ne 22, 3) := by decide +kernel
theorem dX8_spanOf_216 : decode cX8_spanOf 216 = .ok (.aload_n 0, 1) := by decide +kernel
theorem dX8_spanOf_217 : decode cX8_spanOf 217 = .ok (.getfield 54, 3) := by decide +kernel
theorem dX8_spanOf_220 : decode cX8_spanOf 220 = .ok (.iload_n 3, 1) := by decide +kernel
theorem dX8_spanOf_221 : decode cX8_spanOf 221 = .ok (.laload, 1) := by decide +kernel
theorem dX8_spanOf_222 : decode cX8_spanOf 222 = .ok (.ldc2_w 74, 3) := by decide +kernel
theorem dX8_spanOf_225 : decode cX8_spanOf 225 = .ok (.lcmp, 1) := by decide +kernel
theorem dX8_spanOf_226 : decode cX8_spanOf 226 = .ok (.ifCond .ge 9, 3) := by decide +kernel
theorem dX8_spanOf_229 : decode cX8_spanOf 229 = .ok (.aload_n 0, 1) := by decide +kernel
theorem dX8_spanOf_230 : decode cX8_spanOf 230 = .ok (.iload_n 1, 1) := by decide +kernel
theorem dX8_spanOf_231 : decode cX8_spanOf 231 = .ok (.invokevirtual 201, 3) := by decide +kernel
theorem dX8_spanOf_234 : decode cX8_spanOf 234 = .ok (.return_, 1) := by decide +kernel
theorem dX8_spanOf_235 : decode cX8_spanOf 235 = .ok (.aload_n 0, 1) := by decide +kernel
theorem dX8_spanOf_236 : decode cX8_spanOf 236 = .ok (.iload_n 2, 1) := by decide +kernel
theorem dX8_spanOf_237 : decode cX8_spanOf 237 = .ok (.aload_n 0, 1) := by decide +kernel
theorem dX8_spanOf_238 : decode cX8_spanOf 238 = .ok (.getfield 54, 3) := by decide +kernel
theorem dX8_spanOf_241 : decode cX8_spanOf 241 = .ok (.iload_n 3, 1) := by decide +kernel
theorem dX8_spanOf_242 : decode cX8_spanOf 242 = .ok (.laload, 1) := by decide +kernel
theorem dX8_spanOf_243 : decode cX8_spanOf 243 = .ok (.lconst 0, 1) := by decide +kernel
theorem dX8_spanOf_244 : decode cX8_spanOf 244 = .ok (.invokevirtual 179, 3) := by decide +kernel
theorem dX8_spanOf_247 : decode cX8_spanOf 247 = .ok (.lstore 6, 2) := by decide +kernel
theorem dX8_spanOf_249 : decode cX8_spanOf 249 = .ok (.aload_n 0, 1) := by decide +kernel
theorem dX8_spanOf_250 : decode cX8_spanOf 250 = .ok (.iload_n 2, 1) := by decide +kernel
theorem dX8_spanOf_251 : decode cX8_spanOf 251 = .ok (.aload_n 0, 1) := by decide +kernel
theorem dX8_spanOf_252 : decode cX8_spanOf 252 = .ok (.getfield 57, 3) := by decide +kernel
theorem dX8_spanOf_255 : decode cX8_spanOf 255 = .ok (.iload_n 3, 1) := by decide +kernel
theorem dX8_spanOf_256 : decode cX8_spanOf 256 = .ok (.laload, 1) := by decide +kernel
theorem dX8_spanOf_257 : decode cX8_spanOf 257 = .ok (.lconst 0, 1) := by decide +kernel
theorem dX8_spanOf_258 : decode cX8_spanOf 258 = .ok (.invokevirtual 179, 3) := by decide +kernel
theorem dX8_spanOf_261 : decode cX8_spanOf 261 = .ok (.lstore 8, 2) := by decide +kernel
theorem dX8_spanOf_263 : decode cX8_spanOf 263 = .ok (.lload 6, 2) := by decide +kernel
theorem dX8_spanOf_265 : decode cX8_spanOf 265 = .ok (.lload 8, 2) := by decide +kernel
theorem dX8_spanOf_267 : decode cX8_spanOf 267 = .ok (.lcmp, 1) := by decide +kernel
theorem dX8_spanOf_268 : decode cX8_spanOf 268 = .ok (.ifCond .ge 8, 3) := by decide +kernel
theorem dX8_spanOf_271 : decode cX8_spanOf 271 = .ok (.lload 6, 2) := by decide +kernel
theorem dX8_spanOf_273 : decode cX8_spanOf 273 = .ok (.goto 5, 3) := by decide +kernel
theorem dX8_spanOf_276 : decode cX8_spanOf 276 = .ok (.lload 8, 2) := by decide +kernel
theorem dX8_spanOf_278 : decode cX8_spanOf 278 = .ok (.lstore 10, 2) := by decide +kernel
theorem dX8_spanOf_280 : decode cX8_spanOf 280 = .ok (.lload 6, 2) := by decide +kernel
theorem dX8_spanOf_282 : decode cX8_spanOf 282 = .ok (.lload 8, 2) := by decide +kernel
theorem dX8_spanOf_284 : decode cX8_spanOf 284 = .ok (.lcmp, 1) := by decide +kernel
theorem dX8_spanOf_285 : decode cX8_spanOf 285 = .ok (.ifCond .ge 8, 3) := by decide +kernel
theorem dX8_spanOf_288 : decode cX8_spanOf 288 = .ok (.lload 8, 2) := by decide +kernel
theorem dX8_spanOf_290 : decode cX8_spanOf 290 = .ok (.goto 5, 3) := by decide +kernel
theorem dX8_spanOf_293 : decode cX8_spanOf 293 = .ok (.lload 6, 2) := by decide +kernel
theorem dX8_spanOf_295 : decode cX8_spanOf 295 = .ok (.lstore 12, 2) := by decide +kernel
theorem dX8_spanOf_297 : decode cX8_spanOf 297 = .ok (.iload_n 2, 1) := by decide +kernel
theorem dX8_spanOf_298 : decode cX8_spanOf 298 = .ok (.bipush 7, 2) := by decide +kernel
theorem dX8_spanOf_300 : decode cX8_spanOf 300 = .ok (.if_icmp .ne 30, 3) := by decide +kernel
theorem dX8_spanOf_303 : decode cX8_spanOf 303 = .ok (.aload_n 0, 1) := by decide +kernel
theorem dX8_spanOf_304 : decode cX8_spanOf 304 = .ok (.getfield 54, 3) := by decide +kernel
theorem dX8_spanOf_307 : decode cX8_spanOf 307 = .ok (.iload_n 3, 1) := by decide +kernel
theorem dX8_spanOf_308 : decode cX8_spanOf 308 = .ok (.laload, 1) := by decide +kernel
theorem dX8_spanOf_309 : decode cX8_spanOf 309 = .ok (.ldc2_w 74, 3) := by decide +kernel
theorem dX8_spanOf_312 : decode cX8_spanOf 312 = .ok (.lcmp, 1) := by decide +kernel
theorem dX8_spanOf_313 : decode cX8_spanOf 313 = .ok (.ifCond .gt 17, 3) := by decide +kernel
theorem dX8_spanOf_316 : decode cX8_spanOf 316 = .ok (.aload_n 0, 1) := by decide +kernel
theorem dX8_spanOf_317 : decode cX8_spanOf 317 = .ok (.getfield 57, 3) := by decide +kernel
theorem dX8_spanOf_320 : decode cX8_spanOf 320 = .ok (.iload_n 3, 1) := by decide +kernel
theorem dX8_spanOf_321 : decode cX8_spanOf 321 = .ok (.laload, 1) := by decide +kernel
theorem dX8_spanOf_322 : decode cX8_spanOf 322 = .ok (.lconst 0, 1) := by decide +kernel
theorem dX8_spanOf_323 : decode cX8_spanOf 323 = .ok (.lcmp, 1) := by decide +kernel
theorem dX8_spanOf_324 : decode cX8_spanOf 324 = .ok (.ifCond .lt 6, 3) := by decide +kernel
theorem dX8_spanOf_327 : decode cX8_spanOf 327 = .ok (.lconst 0, 1) := by decide +kernel
theorem dX8_spanOf_328 : decode cX8_spanOf 328 = .ok (.lstore 10, 2) := by decide +kernel
theorem dX8_spanOf_330 : decode cX8_spanOf 330 = .ok (.iload_n 2, 1) := by decide +kernel
theorem dX8_spanOf_331 : decode cX8_spanOf 331 = .ok (.bipush 13, 2) := by decide +kernel
theorem dX8_spanOf_333 : decode cX8_spanOf 333 = .ok (.if_icmp .ne 38, 3) := by decide +kernel
theorem dX8_spanOf_336 : decode cX8_spanOf 336 = .ok (.iload 5, 2) := by decide +kernel
theorem dX8_spanOf_338 : decode cX8_spanOf 338 = .ok (.ifCond .eq 33, 3) := by decide +kernel
theorem dX8_spanOf_341 : decode cX8_spanOf 341 = .ok (.lload 10, 2) := by decide +kernel
theorem dX8_spanOf_343 : decode cX8_spanOf 343 = .ok (.lconst 0, 1) := by decide +kernel
theorem dX8_spanOf_344 : decode cX8_spanOf 344 = .ok (.lcmp, 1) := by decide +kernel
theorem dX8_spanOf_345 : decode cX8_spanOf 345 = .ok (.ifCond .le 7, 3) := by decide +kernel
theorem dX8_spanOf_348 : decode cX8_spanOf 348 = .ok (.lconst 0, 1) := by decide +kernel
theorem dX8_spanOf_349 : decode cX8_spanOf 349 = .ok (.goto 5, 3) := by decide +kernel
theorem dX8_spanOf_352 : decode cX8_spanOf 352 = .ok (.lload 10, 2) := by decide +kernel
theorem dX8_spanOf_354 : decode cX8_spanOf 354 = .ok (.lstore 10, 2) := by decide +kernel
theorem dX8_spanOf_356 : decode cX8_spanOf 356 = .ok (.lload 12, 2) := by decide +kernel
theorem dX8_spanOf_358 : decode cX8_spanOf 358 = .ok (.lconst 0, 1) := by decide +kernel
theorem dX8_spanOf_359 : decode cX8_spanOf 359 = .ok (.lcmp, 1) := by decide +kernel
theorem dX8_spanOf_360 : decode cX8_spanOf 360 = .ok (.ifCond .ge 7, 3) := by decide +kernel
theorem dX8_spanOf_363 : decode cX8_spanOf 363 = .ok (.lconst 0, 1) := by decide +kernel
theorem dX8_spanOf_364 : decode cX8_spanOf 364 = .ok (.goto 5, 3) := by decide +kernel
theorem dX8_spanOf_367 : decode cX8_spanOf 367 = .ok (.lload 12, 2) := by decide +kernel
theorem dX8_spanOf_369 : decode cX8_spanOf 369 = .ok (.lstore 12, 2) := by decide +kernel
theorem dX8_spanOf_371 : decode cX8_spanOf 371 = .ok (.aload_n 0, 1) := by decide +kernel
theorem dX8_spanOf_372 : decode cX8_spanOf 372 = .ok (.iload_n 1, 1) := by decide +kernel
theorem dX8_spanOf_373 : decode cX8_spanOf 373 = .ok (.iconst 1, 1) := by decide +kernel
theorem dX8_spanOf_374 : decode cX8_spanOf 374 = .ok (.lload 10, 2) := by decide +kernel
theorem dX8_spanOf_376 : decode cX8_spanOf 376 = .ok (.lload 12, 2) := by decide +kernel
theorem dX8_spanOf_378 : decode cX8_spanOf 378 = .ok (.iload 5, 2) := by decide +kernel
theorem dX8_spanOf_380 : decode cX8_spanOf 380 = .ok (.ifCond .eq 13, 3) := by decide +kernel
theorem dX8_spanOf_383 : decode cX8_spanOf 383 = .ok (.iload_n 2, 1) := by decide +kernel
theorem dX8_spanOf_384 : decode cX8_spanOf 384 = .ok (.bipush 13, 2) := by decide +kernel
theorem dX8_spanOf_386 : decode cX8_spanOf 386 = .ok (.if_icmp .eq 7, 3) := by decide +kernel
theorem dX8_spanOf_389 : decode cX8_spanOf 389 = .ok (.iconst 1, 1) := by decide +kernel
theorem dX8_spanOf_390 : decode cX8_spanOf 390 = .ok (.goto 4, 3) := by decide +kernel
theorem dX8_spanOf_393 : decode cX8_spanOf 393 = .ok (.iconst 0, 1) := by decide +kernel
theorem dX8_spanOf_394 : decode cX8_spanOf 394 = .ok (.invokevirtual 193, 3) := by decide +kernel
theorem dX8_spanOf_397 : decode cX8_spanOf 397 = .ok (.return_, 1) := by decide +kernel
theorem dX8_spanOfTwo_0 : decode cX8_spanOfTwo 0 = .ok (.iload_n 2, 1) := by decide +kernel
theorem dX8_spanOfTwo_1 : decode cX8_spanOfTwo 1 = .ok (.bipush 14, 2) := by decide +kernel
theorem dX8_spanOfTwo_3 : decode cX8_spanOfTwo 3 = .ok (.if_icmp .ne 106, 3) := by decide +kernel
theorem dX8_spanOfTwo_6 : decode cX8_spanOfTwo 6 = .ok (.aload_n 0, 1) := by decide +kernel
theorem dX8_spanOfTwo_7 : decode cX8_spanOfTwo 7 = .ok (.getfield 54, 3) := by decide +kernel
theorem dX8_spanOfTwo_10 : decode cX8_spanOfTwo 10 = .ok (.iload_n 3, 1) := by decide +kernel
theorem dX8_spanOfTwo_11 : decode cX8_spanOfTwo 11 = .ok (.laload, 1) := by decide +kernel
theorem dX8_spanOfTwo_12 : decode cX8_spanOfTwo 12 = .ok (.aload_n 0, 1) := by decide +kernel
theorem dX8_spanOfTwo_13 : decode cX8_spanOfTwo 13 = .ok (.getfield 57, 3) := by decide +kernel
theorem dX8_spanOfTwo_16 : decode cX8_spanOfTwo 16 = .ok (.iload_n 3, 1) := by decide +kernel
theorem dX8_spanOfTwo_17 : decode cX8_spanOfTwo 17 = .ok (.laload, 1) := by decide +kernel
theorem dX8_spanOfTwo_18 : decode cX8_spanOfTwo 18 = .ok (.lcmp, 1) := by decide +kernel
theorem dX8_spanOfTwo_19 : decode cX8_spanOfTwo 19 = .ok (.ifCond .ne 84, 3) := by decide +kernel
theorem dX8_spanOfTwo_22 : decode cX8_spanOfTwo 22 = .ok (.aload_n 0, 1) := by decide +kernel
theorem dX8_spanOfTwo_23 : decode cX8_spanOfTwo 23 = .ok (.getfield 54, 3) := by decide +kernel
theorem dX8_spanOfTwo_26 : decode cX8_spanOfTwo 26 = .ok (.iload 4, 2) := by decide +kernel
theorem dX8_spanOfTwo_28 : decode cX8_spanOfTwo 28 = .ok (.laload, 1) := by decide +kernel
theorem dX8_spanOfTwo_29 : decode cX8_spanOfTwo 29 = .ok (.aload_n 0, 1) := by decide +kernel
theorem dX8_spanOfTwo_30 : decode cX8_spanOfTwo 30 = .ok (.getfield 57, 3) := by decide +kernel
theorem dX8_spanOfTwo_33 : decode cX8_spanOfTwo 33 = .ok (.iload 4, 2) := by decide +kernel
theorem dX8_spanOfTwo_35 : decode cX8_spanOfTwo 35 = .ok (.laload, 1) := by decide +kernel
theorem dX8_spanOfTwo_36 : decode cX8_spanOfTwo 36 = .ok (.lcmp, 1) := by decide +kernel
theorem dX8_spanOfTwo_37 : decode cX8_spanOfTwo 37 = .ok (.ifCond .ne 66, 3) := by decide +kernel
theorem dX8_spanOfTwo_40 : decode cX8_spanOfTwo 40 = .ok (.iload 5, 2) := by decide +kernel
theorem dX8_spanOfTwo_42 : decode cX8_spanOfTwo 42 = .ok (.ifCond .ne 61, 3) := by decide +kernel
theorem dX8_spanOfTwo_45 : decode cX8_spanOfTwo 45 = .ok (.aload_n 0, 1) := by decide +kernel
theorem dX8_spanOfTwo_46 : decode cX8_spanOfTwo 46 = .ok (.getfield 54, 3) := by decide +kernel
theorem dX8_spanOfTwo_49 : decode cX8_spanOfTwo 49 = .ok (.iload_n 3, 1) := by decide +kernel
theorem dX8_spanOfTwo_50 : decode cX8_spanOfTwo 50 = .ok (.laload, 1) := by decide +kernel
theorem dX8_spanOfTwo_51 : decode cX8_spanOfTwo 51 = .ok (.aload_n 0, 1) := by decide +kernel
theorem dX8_spanOfTwo_52 : decode cX8_spanOfTwo 52 = .ok (.getfield 54, 3) := by decide +kernel
theorem dX8_spanOfTwo_55 : decode cX8_spanOfTwo 55 = .ok (.iload 4, 2) := by decide +kernel
theorem dX8_spanOfTwo_57 : decode cX8_spanOfTwo 57 = .ok (.laload, 1) := by decide +kernel
theorem dX8_spanOfTwo_58 : decode cX8_spanOfTwo 58 = .ok (.invokestatic 138, 3) := by decide +kernel
theorem dX8_spanOfTwo_61 : decode cX8_spanOfTwo 61 = .ok (.lstore 6, 2) := by decide +kernel
theorem dX8_spanOfTwo_63 : decode cX8_spanOfTwo 63 = .ok (.aload_n 0, 1) := by decide +kernel
theorem dX8_spanOfTwo_64 : decode cX8_spanOfTwo 64 = .ok (.iload_n 1, 1) := by decide +kernel
theorem dX8_spanOfTwo_65 : decode cX8_spanOfTwo 65 = .ok (.lload 6, 2) := by decide +kernel
theorem dX8_spanOfTwo_67 : decode cX8_spanOfTwo 67 = .ok (.ldc2_w 82, 3) := by decide +kernel
theorem dX8_spanOfTwo_70 : decode cX8_spanOfTwo 70 = .ok (.lcmp, 1) := by decide +kernel
theorem dX8_spanOfTwo_71 : decode cX8_spanOfTwo 71 = .ok (.ifCond .eq 7, 3) := by decide +kernel
theorem dX8_spanOfTwo_74 : decode cX8_spanOfTwo 74 = .ok (.iconst 1, 1) := by decide +kernel
theorem dX8_spanOfTwo_75 : decode cX8_spanOfTwo 75 = .ok (.goto 4, 3) := by decide +kernel
theorem dX8_spanOfTwo_78 : decode cX8_spanOfTwo 78 = .ok (.iconst 0, 1) := by decide +kernel
theorem dX8_spanOfTwo_79 : decode cX8_spanOfTwo 79 = .ok (.lload 6, 2) := by decide +kernel
theorem dX8_spanOfTwo_81 : decode cX8_spanOfTwo 81 = .ok (.lload 6, 2) := by decide +kernel
theorem dX8_spanOfTwo_83 : decode cX8_spanOfTwo 83 = .ok (.lload 6, 2) := by decide +kernel
theorem dX8_spanOfTwo_85 : decode cX8_spanOfTwo 85 = .ok (.ldc2_w 82, 3) := by decide +kernel
theorem dX8_spanOfTwo_88 : decode cX8_spanOfTwo 88 = .ok (.lcmp, 1) := by decide +kernel
theorem dX8_spanOfTwo_89 : decode cX8_spanOfTwo 89 = .ok (.ifCond .ne 7, 3) := by decide +kernel
theorem dX8_spanOfTwo_92 : decode cX8_spanOfTwo 92 = .ok (.iconst 1, 1) := by decide +kernel
theorem dX8_spanOfTwo_93 : decode cX8_spanOfTwo 93 = .ok (.goto 4, 3) := by decide +kernel
theorem dX8_spanOfTwo_96 : decode cX8_spanOfTwo 96 = .ok (.iconst 0, 1) := by decide +kernel
theorem dX8_spanOfTwo_97 : decode cX8_spanOfTwo 97 = .ok (.invokevirtual 193, 3) := by decide +kernel
theorem dX8_spanOfTwo_100 : decode cX8_spanOfTwo 100 = .ok (.goto 8, 3) := by decide +kernel
theorem dX8_spanOfTwo_103 : decode cX8_spanOfTwo 103 = .ok (.aload_n 0, 1) := by decide +kernel
theorem dX8_spanOfTwo_104 : decode cX8_spanOfTwo 104 = .ok (.iload_n 1, 1) := by decide +kernel
theorem dX8_spanOfTwo_105 : decode cX8_spanOfTwo 105 = .ok (.invokevirtual 201, 3) := by decide +kernel
theorem dX8_spanOfTwo_108 : decode cX8_spanOfTwo 108 = .ok (.return_, 1) := by decide +kernel
theorem dX8_spanOfTwo_109 : decode cX8_spanOfTwo 109 = .ok (.iload_n 2, 1) := by decide +kernel
theorem dX8_spanOfTwo_110 : decode cX8_spanOfTwo 110 = .ok (.bipush 8, 2) := by decide +kernel
theorem dX8_spanOfTwo_112 : decode cX8_spanOfTwo 112 = .ok (.if_icmp .eq 9, 3) := by decide +kernel
theorem dX8_spanOfTwo_115 : decode cX8_spanOfTwo 115 = .ok (.iload_n 2, 1) := by decide +kernel
theorem dX8_spanOfTwo_116 : decode cX8_spanOfTwo 116 = .ok (.bipush 9, 2) := by decide +kernel
theorem dX8_spanOfTwo_118 : decode cX8_spanOfTwo 118 = .ok (.if_icmp .ne 48, 3) := by decide +kernel
theorem dX8_spanOfTwo_121 : decode cX8_spanOfTwo 121 = .ok (.aload_n 0, 1) := by decide +kernel
theorem dX8_spanOfTwo_122 : decode cX8_spanOfTwo 122 = .ok (.iload_n 1, 1) := by decide +kernel
theorem dX8_spanOfTwo_123 : decode cX8_spanOfTwo 123 = .ok (.iconst 1, 1) := by decide +kernel
theorem dX8_spanOfTwo_124 : decode cX8_spanOfTwo 124 = .ok (.aload_n 0, 1) := by decide +kernel
theorem dX8_spanOfTwo_125 : decode cX8_spanOfTwo 125 = .ok (.iload_n 2, 1) := by decide +kernel
theorem dX8_spanOfTwo_126 : decode cX8_spanOfTwo 126 = .ok (.aload_n 0, 1) := by decide +kernel
theorem dX8_spanOfTwo_127 : decode cX8_spanOfTwo 127 = .ok (.getfield 54, 3) := by decide +kernel
theorem dX8_spanOfTwo_130 : decode cX8_spanOfTwo 130 = .ok (.iload_n 3, 1) := by decide +kernel
theorem dX8_spanOfTwo_131 : decode cX8_spanOfTwo 131 = .ok (.laload, 1) := by decide +kernel
theorem dX8_spanOfTwo_132 : decode cX8_spanOfTwo 132 = .ok (.aload_n 0, 1) := by decide +kernel
theorem dX8_spanOfTwo_133 : decode cX8_spanOfTwo 133 = .ok (.getfield 54, 3) := by decide +kernel
theorem dX8_spanOfTwo_136 : decode cX8_spanOfTwo 136 = .ok (.iload 4, 2) := by decide +kernel
theorem dX8_spanOfTwo_138 : decode cX8_spanOfTwo 138 = .ok (.laload, 1) := by decide +kernel
theorem dX8_spanOfTwo_139 : decode cX8_spanOfTwo 139 = .ok (.invokevirtual 179, 3) := by decide +kernel
theorem dX8_spanOfTwo_142 : decode cX8_spanOfTwo 142 = .ok (.aload_n 0, 1) := by decide +kernel
theorem dX8_spanOfTwo_143 : decode cX8_spanOfTwo 143 = .ok (.iload_n 2, 1) := by decide +kernel
theorem dX8_spanOfTwo_144 : decode cX8_spanOfTwo 144 = .ok (.aload_n 0, 1) := by decide +kernel
theorem dX8_spanOfTwo_145 : decode cX8_spanOfTwo 145 = .ok (.getfield 57, 3) := by decide +kernel
theorem dX8_spanOfTwo_148 : decode cX8_spanOfTwo 148 = .ok (.iload_n 3, 1) := by decide +kernel
theorem dX8_spanOfTwo_149 : decode cX8_spanOfTwo 149 = .ok (.laload, 1) := by decide +kernel
theorem dX8_spanOfTwo_150 : decode cX8_spanOfTwo 150 = .ok (.aload_n 0, 1) := by decide +kernel
theorem dX8_spanOfTwo_151 : decode cX8_spanOfTwo 151 = .ok (.getfield 57, 3) := by decide +kernel
theorem dX8_spanOfTwo_154 : decode cX8_spanOfTwo 154 = .ok (.iload 4, 2) := by decide +kernel
theorem dX8_spanOfTwo_156 : decode cX8_spanOfTwo 156 = .ok (.laload, 1) := by decide +kernel
theorem dX8_spanOfTwo_157 : decode cX8_spanOfTwo 157 = .ok (.invokevirtual 179, 3) := by decide +kernel
theorem dX8_spanOfTwo_160 : decode cX8_spanOfTwo 160 = .ok (.iload 5, 2) := by decide +kernel
theorem dX8_spanOfTwo_162 : decode cX8_spanOfTwo 162 = .ok (.invokevirtual 193, 3) := by decide +kernel
theorem dX8_spanOfTwo_165 : decode cX8_spanOfTwo 165 = .ok (.return_, 1) := by decide +kernel
theorem dX8_spanOfTwo_166 : decode cX8_spanOfTwo 166 = .ok (.lconst 0, 1) := by decide +kernel
theorem dX8_spanOfTwo_167 : decode cX8_spanOfTwo 167 = .ok (.lstore 6, 2) := by decide +kernel
theorem dX8_spanOfTwo_169 : decode cX8_spanOfTwo 169 = .ok (.lconst 0, 1) := by decide +kernel
theorem dX8_spanOfTwo_170 : decode cX8_spanOfTwo 170 = .ok (.lstore 8, 2) := by decide +kernel
theorem dX8_spanOfTwo_172 : decode cX8_spanOfTwo 172 = .ok (.iload_n 2, 1) := by decide +kernel
theorem dX8_spanOfTwo_173 : decode cX8_spanOfTwo 173 = .ok (.iconst 4, 1) := by decide +kernel
theorem dX8_spanOfTwo_174 : decode cX8_spanOfTwo 174 = .ok (.if_icmp .ne 37, 3) := by decide +kernel
theorem dX8_spanOfTwo_177 : decode cX8_spanOfTwo 177 = .ok (.aload_n 0, 1) := by decide +kernel
theorem dX8_spanOfTwo_178 : decode cX8_spanOfTwo 178 = .ok (.iload_n 3, 1) := by decide +kernel
theorem dX8_spanOfTwo_179 : decode cX8_spanOfTwo 179 = .ok (.invokevirtual 205, 3) := by decide +kernel
theorem dX8_spanOfTwo_182 : decode cX8_spanOfTwo 182 = .ok (.ifCond .eq 12, 3) := by decide +kernel
theorem dX8_spanOfTwo_185 : decode cX8_spanOfTwo 185 = .ok (.aload_n 0, 1) := by decide +kernel
theorem dX8_spanOfTwo_186 : decode cX8_spanOfTwo 186 = .ok (.iload 4, 2) := by decide +kernel
theorem dX8_spanOfTwo_188 : decode cX8_spanOfTwo 188 = .ok (.invokevirtual 208, 3) := by decide +kernel
theorem dX8_spanOfTwo_191 : decode cX8_spanOfTwo 191 = .ok (.ifCond .ne 51, 3) := by decide +kernel
theorem dX8_spanOfTwo_194 : decode cX8_spanOfTwo 194 = .ok (.aload_n 0, 1) := by decide +kernel
theorem dX8_spanOfTwo_195 : decode cX8_spanOfTwo 195 = .ok (.iload 4, 2) := by decide +kernel
theorem dX8_spanOfTwo_197 : decode cX8_spanOfTwo 197 = .ok (.invokevirtual 205, 3) := by decide +kernel
theorem dX8_spanOfTwo_200 : decode cX8_spanOfTwo 200 = .ok (.ifCond .eq 11, 3) := by decide +kernel
theorem dX8_spanOfTwo_203 : decode cX8_spanOfTwo 203 = .ok (.aload_n 0, 1) := by decide +kernel
theorem dX8_spanOfTwo_204 : decode cX8_spanOfTwo 204 = .ok (.iload_n 3, 1) := by decide +kernel
theorem dX8_spanOfTwo_205 : decode cX8_spanOfTwo 205 = .ok (.invokevirtual 208, 3) := by decide +kernel
theorem dX8_spanOfTwo_208 : decode cX8_spanOfTwo 208 = .ok (.ifCond .ne 34, 3) := by decide +kernel
theorem dX8_spanOfTwo_211 : decode cX8_spanOfTwo 211 = .ok (.iload_n 2, 1) := by decide +kernel
theorem dX8_spanOfTwo_212 : decode cX8_spanOfTwo 212 = .ok (.iconst 5, 1) := by decide +kernel
theorem dX8_spanOfTwo_213 : decode cX8_spanOfTwo 213 = .ok (.if_icmp .ne 33, 3) := by decide +kernel
theorem dX8_spanOfTwo_216 : decode cX8_spanOfTwo 216 = .ok (.aload_n 0, 1) := by decide +kernel
theorem dX8_spanOfTwo_217 : decode cX8_spanOfTwo 217 = .ok (.iload 4, 2) := by decide +kernel
theorem dX8_spanOfTwo_219 : decode cX8_spanOfTwo 219 = .ok (.invokevirtual 205, 3) := by decide +kernel
theorem dX8_spanOfTwo_222 : decode cX8_spanOfTwo 222 = .ok (.ifCond .ne 20, 3) := by decide +kernel
theorem dX8_spanOfTwo_225 : decode cX8_spanOfTwo 225 = .ok (.aload_n 0, 1) := by decide +kernel
theorem dX8_spanOfTwo_226 : decode cX8_spanOfTwo 226 = .ok (.iload_n 3, 1) := by decide +kernel
theorem dX8_spanOfTwo_227 : decode cX8_spanOfTwo 227 = .ok (.invokevirtual 208, 3) := by decide +kernel
theorem dX8_spanOfTwo_230 : decode cX8_spanOfTwo 230 = .ok (.ifCond .eq 16, 3) := by decide +kernel
theorem dX8_spanOfTwo_233 : decode cX8_spanOfTwo 233 = .ok (.aload_n 0, 1) := by decide +kernel
theorem dX8_spanOfTwo_234 : decode cX8_spanOfTwo 234 = .ok (.iload 4, 2) := by decide +kernel
theorem dX8_spanOfTwo_236 : decode cX8_spanOfTwo 236 = .ok (.invokevirtual 208, 3) := by decide +kernel
theorem dX8_spanOfTwo_239 : decode cX8_spanOfTwo 239 = .ok (.ifCond .eq 7, 3) := by decide +kernel
theorem dX8_spanOfTwo_242 : decode cX8_spanOfTwo 242 = .ok (.iconst 1, 1) := by decide +kernel
theorem dX8_spanOfTwo_243 : decode cX8_spanOfTwo 243 = .ok (.goto 4, 3) := by decide +kernel
theorem dX8_spanOfTwo_246 : decode cX8_spanOfTwo 246 = .ok (.iconst 0, 1) := by decide +kernel
theorem dX8_spanOfTwo_247 : decode cX8_spanOfTwo 247 = .ok (.istore 10, 2) := by decide +kernel
theorem dX8_spanOfTwo_249 : decode cX8_spanOfTwo 249 = .ok (.iconst 0, 1) := by decide +kernel
theorem dX8_spanOfTwo_250 : decode cX8_spanOfTwo 250 = .ok (.istore 11, 2) := by decide +kernel
theorem dX8_spanOfTwo_252 : decode cX8_spanOfTwo 252 = .ok (.iload 11, 2) := by decide +kernel
theorem dX8_spanOfTwo_254 : decode cX8_spanOfTwo 254 = .ok (.iconst 4, 1) := by decide +kernel
theorem dX8_spanOfTwo_255 : decode cX8_spanOfTwo 255 = .ok (.if_icmp .ge 126, 3) := by decide +kernel
theorem dX8_spanOfTwo_258 : decode cX8_spanOfTwo 258 = .ok (.aload_n 0, 1) := by decide +kernel
theorem dX8_spanOfTwo_259 : decode cX8_spanOfTwo 259 = .ok (.iload_n 2, 1) := by decide +kernel
theorem dX8_spanOfTwo_260 : decode cX8_spanOfTwo 260 = .ok (.iload 11, 2) := by decide +kernel
theorem dX8_spanOfTwo_262 : decode cX8_spanOfTwo 262 = .ok (.iconst 2, 1) := by decide +kernel
theorem dX8_spanOfTwo_263 : decode cX8_spanOfTwo 263 = .ok (.if_icmp .ge 12, 3) := by decide +kernel
theorem dX8_spanOfTwo_266 : decode cX8_spanOfTwo 266 = .ok (.aload_n 0, 1) := by decide +kernel
theorem dX8_spanOfTwo_267 : decode cX8_spanOfTwo 267 = .ok (.getfield 54, 3) := by decide +kernel
theorem dX8_spanOfTwo_270 : decode cX8_spanOfTwo 270 = .ok (.iload_n 3, 1) := by decide +kernel
theorem dX8_spanOfTwo_271 : decode cX8_spanOfTwo 271 = .ok (.laload, 1) := by decide +kernel
theorem dX8_spanOfTwo_272 : decode cX8_spanOfTwo 272 = .ok (.goto 9, 3) := by decide +kernel
theorem dX8_spanOfTwo_275 : decode cX8_spanOfTwo 275 = .ok (.aload_n 0, 1) := by decide +kernel
theorem dX8_spanOfTwo_276 : decode cX8_spanOfTwo 276 = .ok (.getfield 57, 3) := by decide +kernel
theorem dX8_spanOfTwo_279 : decode cX8_spanOfTwo 279 = .ok (.iload_n 3, 1) := by decide +kernel
theorem dX8_spanOfTwo_280 : decode cX8_spanOfTwo 280 = .ok (.laload, 1) := by decide +kernel
theorem dX8_spanOfTwo_281 : decode cX8_spanOfTwo 281 = .ok (.iload 11, 2) := by decide +kernel
theorem dX8_spanOfTwo_283 : decode cX8_spanOfTwo 283 = .ok (.iconst 2, 1) := by decide +kernel
theorem dX8_spanOfTwo_284 : decode cX8_spanOfTwo 284 = .ok (.irem, 1) := by decide +kernel
theorem dX8_spanOfTwo_285 : decode cX8_spanOfTwo 285 = .ok (.ifCond .ne 13, 3) := by decide +kernel
theorem dX8_spanOfTwo_288 : decode cX8_spanOfTwo 288 = .ok (.aload_n 0, 1) := by decide +kernel
theorem dX8_spanOfTwo_289 : decode cX8_spanOfTwo 289 = .ok (.getfield 54, 3) := by decide +kernel
theorem dX8_spanOfTwo_292 : decode cX8_spanOfTwo 292 = .ok (.iload 4, 2) := by decide +kernel
theorem dX8_spanOfTwo_294 : decode cX8_spanOfTwo 294 = .ok (.laload, 1) := by decide +kernel
theorem dX8_spanOfTwo_295 : decode cX8_spanOfTwo 295 = .ok (.goto 10, 3) := by decide +kernel
theorem dX8_spanOfTwo_298 : decode cX8_spanOfTwo 298 = .ok (.aload_n 0, 1) := by decide +kernel
theorem dX8_spanOfTwo_299 : decode cX8_spanOfTwo 299 = .ok (.getfield 57, 3) := by decide +kernel
theorem dX8_spanOfTwo_302 : decode cX8_spanOfTwo 302 = .ok (.iload 4, 2) := by decide +kernel
theorem dX8_spanOfTwo_304 : decode cX8_spanOfTwo 304 = .ok (.laload, 1) := by decide +kernel
theorem dX8_spanOfTwo_305 : decode cX8_spanOfTwo 305 = .ok (.invokevirtual 179, 3) := by decide +kernel
theorem dX8_spanOfTwo_308 : decode cX8_spanOfTwo 308 = .ok (.lstore 12, 2) := by decide +kernel
theorem dX8_spanOfTwo_310 : decode cX8_spanOfTwo 310 = .ok (.iload 10, 2) := by decide +kernel
theorem dX8_spanOfTwo_312 : decode cX8_spanOfTwo 312 = .ok (.ifCond .ne 12, 3) := by decide +kernel
theorem dX8_spanOfTwo_315 : decode cX8_spanOfTwo 315 = .ok (.lload 12, 2) := by decide +kernel
theorem dX8_spanOfTwo_317 : decode cX8_spanOfTwo 317 = .ok (.ldc2_w 82, 3) := by decide +kernel
theorem dX8_spanOfTwo_320 : decode cX8_spanOfTwo 320 = .ok (.lcmp, 1) := by decide +kernel
theorem dX8_spanOfTwo_321 : decode cX8_spanOfTwo 321 = .ok (.ifCond .ne 7, 3) := by decide +kernel
theorem dX8_spanOfTwo_324 : decode cX8_spanOfTwo 324 = .ok (.iconst 1, 1) := by decide +kernel
theorem dX8_spanOfTwo_325 : decode cX8_spanOfTwo 325 = .ok (.goto 4, 3) := by decide +kernel
theorem dX8_spanOfTwo_328 : decode cX8_spanOfTwo 328 = .ok (.iconst 0, 1) := by decide +kernel
theorem dX8_spanOfTwo_329 : decode cX8_spanOfTwo 329 = .ok (.istore 10, 2) := by decide +kernel
theorem dX8_spanOfTwo_331 : decode cX8_spanOfTwo 331 = .ok (.iload 11, 2) := by decide +kernel
theorem dX8_spanOfTwo_333 : decode cX8_spanOfTwo 333 = .ok (.ifCond .eq 11, 3) := by decide +kernel
theorem dX8_spanOfTwo_336 : decode cX8_spanOfTwo 336 = .ok (.lload 12, 2) := by decide +kernel
theorem dX8_spanOfTwo_338 : decode cX8_spanOfTwo 338 = .ok (.lload 6, 2) := by decide +kernel
theorem dX8_spanOfTwo_340 : decode cX8_spanOfTwo 340 = .ok (.lcmp, 1) := by decide +kernel
theorem dX8_spanOfTwo_341 : decode cX8_spanOfTwo 341 = .ok (.ifCond .ge 8, 3) := by decide +kernel
theorem dX8_spanOfTwo_344 : decode cX8_spanOfTwo 344 = .ok (.lload 12, 2) := by decide +kernel
theorem dX8_spanOfTwo_346 : decode cX8_spanOfTwo 346 = .ok (.goto 5, 3) := by decide +kernel
theorem dX8_spanOfTwo_349 : decode cX8_spanOfTwo 349 = .ok (.lload 6, 2) := by decide +kernel
theorem dX8_spanOfTwo_351 : decode cX8_spanOfTwo 351 = .ok (.lstore 6, 2) := by decide +kernel
theorem dX8_spanOfTwo_353 : decode cX8_spanOfTwo 353 = .ok (.iload 11, 2) := by decide +kernel
theorem dX8_spanOfTwo_355 : decode cX8_spanOfTwo 355 = .ok (.ifCond .eq 11, 3) := by decide +kernel
theorem dX8_spanOfTwo_358 : decode cX8_spanOfTwo 358 = .ok (.lload 12, 2) := by decide +kernel
theorem dX8_spanOfTwo_360 : decode cX8_spanOfTwo 360 = .ok (.lload 8, 2) := by decide +kernel
theorem dX8_spanOfTwo_362 : decode cX8_spanOfTwo 362 = .ok (.lcmp, 1) := by decide +kernel
theorem dX8_spanOfTwo_363 : decode cX8_spanOfTwo 363 = .ok (.ifCond .le 8, 3) := by decide +kernel
theorem dX8_spanOfTwo_366 : decode cX8_spanOfTwo 366 = .ok (.lload 12, 2) := by decide +kernel
theorem dX8_spanOfTwo_368 : decode cX8_spanOfTwo 368 = .ok (.goto 5, 3) := by decide +kernel
theorem dX8_spanOfTwo_371 : decode cX8_spanOfTwo 371 = .ok (.lload 8, 2) := by decide +kernel
theorem dX8_spanOfTwo_373 : decode cX8_spanOfTwo 373 = .ok (.lstore 8, 2) := by decide +kernel
theorem dX8_spanOfTwo_375 : decode cX8_spanOfTwo 375 = .ok (.iinc 11 1, 3) := by decide +kernel
theorem dX8_spanOfTwo_378 : decode cX8_spanOfTwo 378 = .ok (.goto (-126), 3) := by decide +kernel
theorem dX8_spanOfTwo_381 : decode cX8_spanOfTwo 381 = .ok (.iload 10, 2) := by decide +kernel
theorem dX8_spanOfTwo_383 : decode cX8_spanOfTwo 383 = .ok (.ifCond .eq 11, 3) := by decide +kernel
theorem dX8_spanOfTwo_386 : decode cX8_spanOfTwo 386 = .ok (.aload_n 0, 1) := by decide +kernel
theorem dX8_spanOfTwo_387 : decode cX8_spanOfTwo 387 = .ok (.iload_n 1, 1) := by decide +kernel
theorem dX8_spanOfTwo_388 : decode cX8_spanOfTwo 388 = .ok (.invokevirtual 201, 3) := by decide +kernel
theorem dX8_spanOfTwo_391 : decode cX8_spanOfTwo 391 = .ok (.goto 15, 3) := by decide +kernel
theorem dX8_spanOfTwo_394 : decode cX8_spanOfTwo 394 = .ok (.aload_n 0, 1) := by decide +kernel
theorem dX8_spanOfTwo_395 : decode cX8_spanOfTwo 395 = .ok (.iload_n 1, 1) := by decide +kernel
theorem dX8_spanOfTwo_396 : decode cX8_spanOfTwo 396 = .ok (.iconst 1, 1) := by decide +kernel
theorem dX8_spanOfTwo_397 : decode cX8_spanOfTwo 397 = .ok (.lload 6, 2) := by decide +kernel
theorem dX8_spanOfTwo_399 : decode cX8_spanOfTwo 399 = .ok (.lload 8, 2) := by decide +kernel
theorem dX8_spanOfTwo_401 : decode cX8_spanOfTwo 401 = .ok (.iload 5, 2) := by decide +kernel
theorem dX8_spanOfTwo_403 : decode cX8_spanOfTwo 403 = .ok (.invokevirtual 193, 3) := by decide +kernel
theorem dX8_spanOfTwo_406 : decode cX8_spanOfTwo 406 = .ok (.return_, 1) := by decide +kernel
theorem dX8_spans_0 : decode cX8_spans 0 = .ok (.iconst 0, 1) := by decide +kernel
theorem dX8_spans_1 : decode cX8_spans 1 = .ok (.istore_n 1, 1) := by decide +kernel
theorem dX8_spans_2 : decode cX8_spans 2 = .ok (.iload_n 1, 1) := by decide +kernel
theorem dX8_spans_3 : decode cX8_spans 3 = .ok (.aload_n 0, 1) := by decide +kernel
theorem dX8_spans_4 : decode cX8_spans 4 = .ok (.getfield 147, 3) := by decide +kernel
theorem dX8_spans_7 : decode cX8_spans 7 = .ok (.if_icmp .ge 14, 3) := by decide +kernel
theorem dX8_spans_10 : decode cX8_spans 10 = .ok (.aload_n 0, 1) := by decide +kernel
theorem dX8_spans_11 : decode cX8_spans 11 = .ok (.iload_n 1, 1) := by decide +kernel
theorem dX8_spans_12 : decode cX8_spans 12 = .ok (.invokevirtual 211, 3) := by decide +kernel
theorem dX8_spans_15 : decode cX8_spans 15 = .ok (.iinc 1 1, 3) := by decide +kernel
theorem dX8_spans_18 : decode cX8_spans 18 = .ok (.goto (-16), 3) := by decide +kernel
theorem dX8_spans_21 : decode cX8_spans 21 = .ok (.return_, 1) := by decide +kernel
theorem dX8_wholeBox_0 : decode cX8_wholeBox 0 = .ok (.iconst 0, 1) := by decide +kernel
theorem dX8_wholeBox_1 : decode cX8_wholeBox 1 = .ok (.istore_n 1, 1) := by decide +kernel
theorem dX8_wholeBox_2 : decode cX8_wholeBox 2 = .ok (.iload_n 1, 1) := by decide +kernel
theorem dX8_wholeBox_3 : decode cX8_wholeBox 3 = .ok (.iconst 4, 1) := by decide +kernel
theorem dX8_wholeBox_4 : decode cX8_wholeBox 4 = .ok (.if_icmp .ge 33, 3) := by decide +kernel
theorem dX8_wholeBox_7 : decode cX8_wholeBox 7 = .ok (.aload_n 0, 1) := by decide +kernel
theorem dX8_wholeBox_8 : decode cX8_wholeBox 8 = .ok (.getfield 44, 3) := by decide +kernel
theorem dX8_wholeBox_11 : decode cX8_wholeBox 11 = .ok (.iload_n 1, 1) := by decide +kernel
theorem dX8_wholeBox_12 : decode cX8_wholeBox 12 = .ok (.aload_n 0, 1) := by decide +kernel
theorem dX8_wholeBox_13 : decode cX8_wholeBox 13 = .ok (.getfield 28, 3) := by decide +kernel
theorem dX8_wholeBox_16 : decode cX8_wholeBox 16 = .ok (.iload_n 1, 1) := by decide +kernel
theorem dX8_wholeBox_17 : decode cX8_wholeBox 17 = .ok (.laload, 1) := by decide +kernel
theorem dX8_wholeBox_18 : decode cX8_wholeBox 18 = .ok (.lastore, 1) := by decide +kernel
theorem dX8_wholeBox_19 : decode cX8_wholeBox 19 = .ok (.aload_n 0, 1) := by decide +kernel
theorem dX8_wholeBox_20 : decode cX8_wholeBox 20 = .ok (.getfield 47, 3) := by decide +kernel
theorem dX8_wholeBox_23 : decode cX8_wholeBox 23 = .ok (.iload_n 1, 1) := by decide +kernel
theorem dX8_wholeBox_24 : decode cX8_wholeBox 24 = .ok (.aload_n 0, 1) := by decide +kernel
theorem dX8_wholeBox_25 : decode cX8_wholeBox 25 = .ok (.getfield 32, 3) := by decide +kernel
theorem dX8_wholeBox_28 : decode cX8_wholeBox 28 = .ok (.iload_n 1, 1) := by decide +kernel
theorem dX8_wholeBox_29 : decode cX8_wholeBox 29 = .ok (.laload, 1) := by decide +kernel
theorem dX8_wholeBox_30 : decode cX8_wholeBox 30 = .ok (.lastore, 1) := by decide +kernel
theorem dX8_wholeBox_31 : decode cX8_wholeBox 31 = .ok (.iinc 1 1, 3) := by decide +kernel
theorem dX8_wholeBox_34 : decode cX8_wholeBox 34 = .ok (.goto (-32), 3) := by decide +kernel
theorem dX8_wholeBox_37 : decode cX8_wholeBox 37 = .ok (.aload_n 0, 1) := by decide +kernel
theorem dX8_wholeBox_38 : decode cX8_wholeBox 38 = .ok (.invokevirtual 214, 3) := by decide +kernel
theorem dX8_wholeBox_41 : decode cX8_wholeBox 41 = .ok (.return_, 1) := by decide +kernel
theorem dX8_span_0 : decode cX8_span 0 = .ok (.aload_n 0, 1) := by decide +kernel
theorem dX8_span_1 : decode cX8_span 1 = .ok (.iconst 0, 1) := by decide +kernel
theorem dX8_span_2 : decode cX8_span 2 = .ok (.putfield 70, 3) := by decide +kernel
theorem dX8_span_5 : decode cX8_span 5 = .ok (.aload_n 0, 1) := by decide +kernel
theorem dX8_span_6 : decode cX8_span 6 = .ok (.iload_n 1, 1) := by decide +kernel
theorem dX8_span_7 : decode cX8_span 7 = .ok (.invokevirtual 160, 3) := by decide +kernel
theorem dX8_span_10 : decode cX8_span 10 = .ok (.ifCond .eq 15, 3) := by decide +kernel
theorem dX8_span_13 : decode cX8_span 13 = .ok (.iload_n 2, 1) := by decide +kernel
theorem dX8_span_14 : decode cX8_span 14 = .ok (.i2l, 1) := by decide +kernel
theorem dX8_span_15 : decode cX8_span 15 = .ok (.lconst 0, 1) := by decide +kernel
theorem dX8_span_16 : decode cX8_span 16 = .ok (.ldc2_w 156, 3) := by decide +kernel
theorem dX8_span_19 : decode cX8_span 19 = .ok (.invokestatic 150, 3) := by decide +kernel
theorem dX8_span_22 : decode cX8_span 22 = .ok (.ifCond .ne 7, 3) := by decide +kernel
theorem dX8_span_25 : decode cX8_span 25 = .ok (.ldc2_w 174, 3) := by decide +kernel
theorem dX8_span_28 : decode cX8_span 28 = .ok (.lreturn, 1) := by decide +kernel
theorem dX8_span_29 : decode cX8_span 29 = .ok (.aload_n 0, 1) := by decide +kernel
theorem dX8_span_30 : decode cX8_span 30 = .ok (.invokevirtual 217, 3) := by decide +kernel
theorem dX8_span_33 : decode cX8_span 33 = .ok (.iload_n 2, 1) := by decide +kernel
theorem dX8_span_34 : decode cX8_span 34 = .ok (.ifCond .ne 18, 3) := by decide +kernel
theorem dX8_span_37 : decode cX8_span 37 = .ok (.aload_n 0, 1) := by decide +kernel
theorem dX8_span_38 : decode cX8_span 38 = .ok (.getfield 50, 3) := by decide +kernel
theorem dX8_span_41 : decode cX8_span 41 = .ok (.iload_n 1, 1) := by decide +kernel
theorem dX8_span_42 : decode cX8_span 42 = .ok (.baload, 1) := by decide +kernel
theorem dX8_span_43 : decode cX8_span 43 = .ok (.ifCond .eq 7, 3) := by decide +kernel
theorem dX8_span_46 : decode cX8_span 46 = .ok (.lconst 1, 1) := by decide +kernel
theorem dX8_span_47 : decode cX8_span 47 = .ok (.goto 4, 3) := by decide +kernel
theorem dX8_span_50 : decode cX8_span 50 = .ok (.lconst 0, 1) := by decide +kernel
theorem dX8_span_51 : decode cX8_span 51 = .ok (.lreturn, 1) := by decide +kernel
theorem dX8_span_52 : decode cX8_span 52 = .ok (.iload_n 2, 1) := by decide +kernel
theorem dX8_span_53 : decode cX8_span 53 = .ok (.iconst 3, 1) := by decide +kernel
theorem dX8_span_54 : decode cX8_span 54 = .ok (.if_icmp .ne 18, 3) := by decide +kernel
theorem dX8_span_57 : decode cX8_span 57 = .ok (.aload_n 0, 1) := by decide +kernel
theorem dX8_span_58 : decode cX8_span 58 = .ok (.getfield 60, 3) := by decide +kernel
theorem dX8_span_61 : decode cX8_span 61 = .ok (.iload_n 1, 1) := by decide +kernel
theorem dX8_span_62 : decode cX8_span 62 = .ok (.baload, 1) := by decide +kernel
theorem dX8_span_63 : decode cX8_span 63 = .ok (.ifCond .eq 7, 3) := by decide +kernel
theorem dX8_span_66 : decode cX8_span 66 = .ok (.lconst 1, 1) := by decide +kernel
theorem dX8_span_67 : decode cX8_span 67 = .ok (.goto 4, 3) := by decide +kernel
theorem dX8_span_70 : decode cX8_span 70 = .ok (.lconst 0, 1) := by decide +kernel
theorem dX8_span_71 : decode cX8_span 71 = .ok (.lreturn, 1) := by decide +kernel
theorem dX8_span_72 : decode cX8_span 72 = .ok (.aload_n 0, 1) := by decide +kernel
theorem dX8_span_73 : decode cX8_span 73 = .ok (.getfield 50, 3) := by decide +kernel
theorem dX8_span_76 : decode cX8_span 76 = .ok (.iload_n 1, 1) := by decide +kernel
theorem dX8_span_77 : decode cX8_span 77 = .ok (.baload, 1) := by decide +kernel
theorem dX8_span_78 : decode cX8_span 78 = .ok (.ifCond .ne 9, 3) := by decide +kernel
theorem dX8_span_81 : decode cX8_span 81 = .ok (.ldc2_w 174, 3) := by decide +kernel
theorem dX8_span_84 : decode cX8_span 84 = .ok (.goto 23, 3) := by decide +kernel
theorem dX8_span_87 : decode cX8_span 87 = .ok (.iload_n 2, 1) := by decide +kernel
theorem dX8_span_88 : decode cX8_span 88 = .ok (.iconst 1, 1) := by decide +kernel
theorem dX8_span_89 : decode cX8_span 89 = .ok (.if_icmp .ne 12, 3) := by decide +kernel
theorem dX8_span_92 : decode cX8_span 92 = .ok (.aload_n 0, 1) := by decide +kernel
theorem dX8_span_93 : decode cX8_span 93 = .ok (.getfield 54, 3) := by decide +kernel
theorem dX8_span_96 : decode cX8_span 96 = .ok (.iload_n 1, 1) := by decide +kernel
theorem dX8_span_97 : decode cX8_span 97 = .ok (.laload, 1) := by decide +kernel
theorem dX8_span_98 : decode cX8_span 98 = .ok (.goto 9, 3) := by decide +kernel
theorem dX8_span_101 : decode cX8_span 101 = .ok (.aload_n 0, 1) := by decide +kernel
theorem dX8_span_102 : decode cX8_span 102 = .ok (.getfield 57, 3) := by decide +kernel
theorem dX8_span_105 : decode cX8_span 105 = .ok (.iload_n 1, 1) := by decide +kernel
theorem dX8_span_106 : decode cX8_span 106 = .ok (.laload, 1) := by decide +kernel
theorem dX8_span_107 : decode cX8_span 107 = .ok (.lreturn, 1) := by decide +kernel
theorem dX8_judgeOf_0 : decode cX8_judgeOf 0 = .ok (.aload_n 0, 1) := by decide +kernel
theorem dX8_judgeOf_1 : decode cX8_judgeOf 1 = .ok (.getfield 22, 3) := by decide +kernel
theorem dX8_judgeOf_4 : decode cX8_judgeOf 4 = .ok (.iload_n 1, 1) := by decide +kernel
theorem dX8_judgeOf_5 : decode cX8_judgeOf 5 = .ok (.iaload, 1) := by decide +kernel
theorem dX8_judgeOf_6 : decode cX8_judgeOf 6 = .ok (.istore_n 2, 1) := by decide +kernel
theorem dX8_judgeOf_7 : decode cX8_judgeOf 7 = .ok (.aload_n 0, 1) := by decide +kernel
theorem dX8_judgeOf_8 : decode cX8_judgeOf 8 = .ok (.getfield 19, 3) := by decide +kernel
theorem dX8_judgeOf_11 : decode cX8_judgeOf 11 = .ok (.iload_n 1, 1) := by decide +kernel
theorem dX8_judgeOf_12 : decode cX8_judgeOf 12 = .ok (.iaload, 1) := by decide +kernel
theorem dX8_judgeOf_13 : decode cX8_judgeOf 13 = .ok (.istore_n 3, 1) := by decide +kernel
theorem dX8_judgeOf_14 : decode cX8_judgeOf 14 = .ok (.iload_n 3, 1) := by decide +kernel
theorem dX8_judgeOf_15 : decode cX8_judgeOf 15 = .ok (.iconst 3, 1) := by decide +kernel
theorem dX8_judgeOf_16 : decode cX8_judgeOf 16 = .ok (.if_icmp .le 53, 3) := by decide +kernel
theorem dX8_judgeOf_19 : decode cX8_judgeOf 19 = .ok (.aload_n 0, 1) := by decide +kernel
theorem dX8_judgeOf_20 : decode cX8_judgeOf 20 = .ok (.getfield 50, 3) := by decide +kernel
theorem dX8_judgeOf_23 : decode cX8_judgeOf 23 = .ok (.iload_n 2, 1) := by decide +kernel
theorem dX8_judgeOf_24 : decode cX8_judgeOf 24 = .ok (.baload, 1) := by decide +kernel
theorem dX8_judgeOf_25 : decode cX8_judgeOf 25 = .ok (.ifCond .ne 7, 3) := by decide +kernel
theorem dX8_judgeOf_28 : decode cX8_judgeOf 28 = .ok (.iconst 1, 1) := by decide +kernel
theorem dX8_judgeOf_29 : decode cX8_judgeOf 29 = .ok (.goto 17, 3) := by decide +kernel
theorem dX8_judgeOf_32 : decode cX8_judgeOf 32 = .ok (.aload_n 0, 1) := by decide +kernel
theorem dX8_judgeOf_33 : decode cX8_judgeOf 33 = .ok (.getfield 60, 3) := by decide +kernel
theorem dX8_judgeOf_36 : decode cX8_judgeOf 36 = .ok (.iload_n 2, 1) := by decide +kernel
theorem dX8_judgeOf_37 : decode cX8_judgeOf 37 = .ok (.baload, 1) := by decide +kernel
theorem dX8_judgeOf_38 : decode cX8_judgeOf 38 = .ok (.ifCond .ne 7, 3) := by decide +kernel
theorem dX8_judgeOf_41 : decode cX8_judgeOf 41 = .ok (.iconst 0, 1) := by decide +kernel
theorem dX8_judgeOf_42 : decode cX8_judgeOf 42 = .ok (.goto 4, 3) := by decide +kernel
theorem dX8_judgeOf_45 : decode cX8_judgeOf 45 = .ok (.iconst 2, 1) := by decide +kernel
theorem dX8_judgeOf_46 : decode cX8_judgeOf 46 = .ok (.istore 4, 2) := by decide +kernel
theorem dX8_judgeOf_48 : decode cX8_judgeOf 48 = .ok (.iload_n 3, 1) := by decide +kernel
theorem dX8_judgeOf_49 : decode cX8_judgeOf 49 = .ok (.iconst 4, 1) := by decide +kernel
theorem dX8_judgeOf_50 : decode cX8_judgeOf 50 = .ok (.if_icmp .eq 9, 3) := by decide +kernel
theorem dX8_judgeOf_53 : decode cX8_judgeOf 53 = .ok (.iload 4, 2) := by decide +kernel
theorem dX8_judgeOf_55 : decode cX8_judgeOf 55 = .ok (.iconst 2, 1) := by decide +kernel
theorem dX8_judgeOf_56 : decode cX8_judgeOf 56 = .ok (.if_icmp .ne 8, 3) := by decide +kernel
theorem dX8_judgeOf_59 : decode cX8_judgeOf 59 = .ok (.iload 4, 2) := by decide +kernel
theorem dX8_judgeOf_61 : decode cX8_judgeOf 61 = .ok (.goto 7, 3) := by decide +kernel
theorem dX8_judgeOf_64 : decode cX8_judgeOf 64 = .ok (.iconst 1, 1) := by decide +kernel
theorem dX8_judgeOf_65 : decode cX8_judgeOf 65 = .ok (.iload 4, 2) := by decide +kernel
theorem dX8_judgeOf_67 : decode cX8_judgeOf 67 = .ok (.isub, 1) := by decide +kernel
theorem dX8_judgeOf_68 : decode cX8_judgeOf 68 = .ok (.ireturn, 1) := by decide +kernel
theorem dX8_judgeOf_69 : decode cX8_judgeOf 69 = .ok (.aload_n 0, 1) := by decide +kernel
theorem dX8_judgeOf_70 : decode cX8_judgeOf 70 = .ok (.getfield 25, 3) := by decide +kernel
theorem dX8_judgeOf_73 : decode cX8_judgeOf 73 = .ok (.iload_n 1, 1) := by decide +kernel
theorem dX8_judgeOf_74 : decode cX8_judgeOf 74 = .ok (.iaload, 1) := by decide +kernel
theorem dX8_judgeOf_75 : decode cX8_judgeOf 75 = .ok (.istore 4, 2) := by decide +kernel
theorem dX8_judgeOf_77 : decode cX8_judgeOf 77 = .ok (.iload_n 3, 1) := by decide +kernel
theorem dX8_judgeOf_78 : decode cX8_judgeOf 78 = .ok (.iconst 3, 1) := by decide +kernel
theorem dX8_judgeOf_79 : decode cX8_judgeOf 79 = .ok (.if_icmp .ne 27, 3) := by decide +kernel
theorem dX8_judgeOf_82 : decode cX8_judgeOf 82 = .ok (.aload_n 0, 1) := by decide +kernel
theorem dX8_judgeOf_83 : decode cX8_judgeOf 83 = .ok (.iload_n 2, 1) := by decide +kernel
theorem dX8_judgeOf_84 : decode cX8_judgeOf 84 = .ok (.iload 4, 2) := by decide +kernel
theorem dX8_judgeOf_86 : decode cX8_judgeOf 86 = .ok (.invokevirtual 220, 3) := by decide +kernel
theorem dX8_judgeOf_89 : decode cX8_judgeOf 89 = .ok (.istore 5, 2) := by decide +kernel
theorem dX8_judgeOf_91 : decode cX8_judgeOf 91 = .ok (.iload 5, 2) := by decide +kernel
theorem dX8_judgeOf_93 : decode cX8_judgeOf 93 = .ok (.iconst 2, 1) := by decide +kernel
theorem dX8_judgeOf_94 : decode cX8_judgeOf 94 = .ok (.if_icmp .ne 7, 3) := by decide +kernel
theorem dX8_judgeOf_97 : decode cX8_judgeOf 97 = .ok (.iconst 2, 1) := by decide +kernel
theorem dX8_judgeOf_98 : decode cX8_judgeOf 98 = .ok (.goto 7, 3) := by decide +kernel
theorem dX8_judgeOf_101 : decode cX8_judgeOf 101 = .ok (.iconst 1, 1) := by decide +kernel
theorem dX8_judgeOf_102 : decode cX8_judgeOf 102 = .ok (.iload 5, 2) := by decide +kernel
theorem dX8_judgeOf_104 : decode cX8_judgeOf 104 = .ok (.isub, 1) := by decide +kernel
theorem dX8_judgeOf_105 : decode cX8_judgeOf 105 = .ok (.ireturn, 1) := by decide +kernel
theorem dX8_judgeOf_106 : decode cX8_judgeOf 106 = .ok (.iload_n 3, 1) := by decide +kernel
theorem dX8_judgeOf_107 : decode cX8_judgeOf 107 = .ok (.iconst 2, 1) := by decide +kernel
theorem dX8_judgeOf_108 : decode cX8_judgeOf 108 = .ok (.if_icmp .ne 11, 3) := by decide +kernel
theorem dX8_judgeOf_111 : decode cX8_judgeOf 111 = .ok (.aload_n 0, 1) := by decide +kernel
theorem dX8_judgeOf_112 : decode cX8_judgeOf 112 = .ok (.iload_n 2, 1) := by decide +kernel
theorem dX8_judgeOf_113 : decode cX8_judgeOf 113 = .ok (.iload 4, 2) := by decide +kernel
theorem dX8_judgeOf_115 : decode cX8_judgeOf 115 = .ok (.invokevirtual 220, 3) := by decide +kernel
theorem dX8_judgeOf_118 : decode cX8_judgeOf 118 = .ok (.ireturn, 1) := by decide +kernel
theorem dX8_judgeOf_119 : decode cX8_judgeOf 119 = .ok (.aload_n 0, 1) := by decide +kernel
theorem dX8_judgeOf_120 : decode cX8_judgeOf 120 = .ok (.getfield 50, 3) := by decide +kernel
theorem dX8_judgeOf_123 : decode cX8_judgeOf 123 = .ok (.iload_n 2, 1) := by decide +kernel
theorem dX8_judgeOf_124 : decode cX8_judgeOf 124 = .ok (.baload, 1) := by decide +kernel
theorem dX8_judgeOf_125 : decode cX8_judgeOf 125 = .ok (.ifCond .eq 13, 3) := by decide +kernel
theorem dX8_judgeOf_128 : decode cX8_judgeOf 128 = .ok (.aload_n 0, 1) := by decide +kernel
theorem dX8_judgeOf_129 : decode cX8_judgeOf 129 = .ok (.getfield 50, 3) := by decide +kernel
theorem dX8_judgeOf_132 : decode cX8_judgeOf 132 = .ok (.iload 4, 2) := by decide +kernel
theorem dX8_judgeOf_134 : decode cX8_judgeOf 134 = .ok (.baload, 1) := by decide +kernel
theorem dX8_judgeOf_135 : decode cX8_judgeOf 135 = .ok (.ifCond .ne 5, 3) := by decide +kernel
theorem dX8_judgeOf_138 : decode cX8_judgeOf 138 = .ok (.iconst 0, 1) := by decide +kernel
theorem dX8_judgeOf_139 : decode cX8_judgeOf 139 = .ok (.ireturn, 1) := by decide +kernel
theorem dX8_judgeOf_140 : decode cX8_judgeOf 140 = .ok (.aload_n 0, 1) := by decide +kernel
theorem dX8_judgeOf_141 : decode cX8_judgeOf 141 = .ok (.getfield 54, 3) := by decide +kernel
theorem dX8_judgeOf_144 : decode cX8_judgeOf 144 = .ok (.iload_n 2, 1) := by decide +kernel
theorem dX8_judgeOf_145 : decode cX8_judgeOf 145 = .ok (.laload, 1) := by decide +kernel
theorem dX8_judgeOf_146 : decode cX8_judgeOf 146 = .ok (.invokestatic 187, 3) := by decide +kernel
theorem dX8_judgeOf_149 : decode cX8_judgeOf 149 = .ok (.lstore 5, 2) := by decide +kernel
theorem dX8_judgeOf_151 : decode cX8_judgeOf 151 = .ok (.aload_n 0, 1) := by decide +kernel
theorem dX8_judgeOf_152 : decode cX8_judgeOf 152 = .ok (.getfield 57, 3) := by decide +kernel
theorem dX8_judgeOf_155 : decode cX8_judgeOf 155 = .ok (.iload 4, 2) := by decide +kernel
theorem dX8_judgeOf_157 : decode cX8_judgeOf 157 = .ok (.laload, 1) := by decide +kernel
theorem dX8_judgeOf_158 : decode cX8_judgeOf 158 = .ok (.invokestatic 187, 3) := by decide +kernel
theorem dX8_judgeOf_161 : decode cX8_judgeOf 161 = .ok (.lstore 7, 2) := by decide +kernel
theorem dX8_judgeOf_163 : decode cX8_judgeOf 163 = .ok (.iload_n 3, 1) := by decide +kernel
theorem dX8_judgeOf_164 : decode cX8_judgeOf 164 = .ok (.ifCond .ne 14, 3) := by decide +kernel
theorem dX8_judgeOf_167 : decode cX8_judgeOf 167 = .ok (.lload 5, 2) := by decide +kernel
theorem dX8_judgeOf_169 : decode cX8_judgeOf 169 = .ok (.lload 7, 2) := by decide +kernel
theorem dX8_judgeOf_171 : decode cX8_judgeOf 171 = .ok (.lcmp, 1) := by decide +kernel
theorem dX8_judgeOf_172 : decode cX8_judgeOf 172 = .ok (.ifCond .lt 16, 3) := by decide +kernel
theorem dX8_judgeOf_175 : decode cX8_judgeOf 175 = .ok (.goto 11, 3) := by decide +kernel
theorem dX8_judgeOf_178 : decode cX8_judgeOf 178 = .ok (.lload 5, 2) := by decide +kernel
theorem dX8_judgeOf_180 : decode cX8_judgeOf 180 = .ok (.lload 7, 2) := by decide +kernel
theorem dX8_judgeOf_182 : decode cX8_judgeOf 182 = .ok (.lcmp, 1) := by decide +kernel
theorem dX8_judgeOf_183 : decode cX8_judgeOf 183 = .ok (.ifCond .le 5, 3) := by decide +kernel
theorem dX8_judgeOf_186 : decode cX8_judgeOf 186 = .ok (.iconst 0, 1) := by decide +kernel
theorem dX8_judgeOf_187 : decode cX8_judgeOf 187 = .ok (.ireturn, 1) := by decide +kernel
theorem dX8_judgeOf_188 : decode cX8_judgeOf 188 = .ok (.aload_n 0, 1) := by decide +kernel
theorem dX8_judgeOf_189 : decode cX8_judgeOf 189 = .ok (.getfield 57, 3) := by decide +kernel
theorem dX8_judgeOf_192 : decode cX8_judgeOf 192 = .ok (.iload_n 2, 1) := by decide +kernel
theorem dX8_judgeOf_193 : decode cX8_judgeOf 193 = .ok (.laload, 1) := by decide +kernel
theorem dX8_judgeOf_194 : decode cX8_judgeOf 194 = .ok (.invokestatic 187, 3) := by decide +kernel
theorem dX8_judgeOf_197 : decode cX8_judgeOf 197 = .ok (.lstore 5, 2) := by decide +kernel
theorem dX8_judgeOf_199 : decode cX8_judgeOf 199 = .ok (.aload_n 0, 1) := by decide +kernel
theorem dX8_judgeOf_200 : decode cX8_judgeOf 200 = .ok (.getfield 54, 3) := by decide +kernel
theorem dX8_judgeOf_203 : decode cX8_judgeOf 203 = .ok (.iload 4, 2) := by decide +kernel
theorem dX8_judgeOf_205 : decode cX8_judgeOf 205 = .ok (.laload, 1) := by decide +kernel
theorem dX8_judgeOf_206 : decode cX8_judgeOf 206 = .ok (.invokestatic 187, 3) := by decide +kernel
theorem dX8_judgeOf_209 : decode cX8_judgeOf 209 = .ok (.lstore 7, 2) := by decide +kernel
theorem dX8_judgeOf_211 : decode cX8_judgeOf 211 = .ok (.aload_n 0, 1) := by decide +kernel
theorem dX8_judgeOf_212 : decode cX8_judgeOf 212 = .ok (.getfield 60, 3) := by decide +kernel
theorem dX8_judgeOf_215 : decode cX8_judgeOf 215 = .ok (.iload_n 2, 1) := by decide +kernel
theorem dX8_judgeOf_216 : decode cX8_judgeOf 216 = .ok (.baload, 1) := by decide +kernel
theorem dX8_judgeOf_217 : decode cX8_judgeOf 217 = .ok (.ifCond .ne 40, 3) := by decide +kernel
theorem dX8_judgeOf_220 : decode cX8_judgeOf 220 = .ok (.aload_n 0, 1) := by decide +kernel
theorem dX8_judgeOf_221 : decode cX8_judgeOf 221 = .ok (.getfield 60, 3) := by decide +kernel
theorem dX8_judgeOf_224 : decode cX8_judgeOf 224 = .ok (.iload 4, 2) := by decide +kernel
theorem dX8_judgeOf_226 : decode cX8_judgeOf 226 = .ok (.baload, 1) := by decide +kernel
theorem dX8_judgeOf_227 : decode cX8_judgeOf 227 = .ok (.ifCond .ne 30, 3) := by decide +kernel
theorem dX8_judgeOf_230 : decode cX8_judgeOf 230 = .ok (.iload_n 3, 1) := by decide +kernel
theorem dX8_judgeOf_231 : decode cX8_judgeOf 231 = .ok (.ifCond .ne 14, 3) := by decide +kernel
theorem dX8_judgeOf_234 : decode cX8_judgeOf 234 = .ok (.lload 5, 2) := by decide +kernel
theorem dX8_judgeOf_236 : decode cX8_judgeOf 236 = .ok (.lload 7, 2) := by decide +kernel
theorem dX8_judgeOf_238 : decode cX8_judgeOf 238 = .ok (.lcmp, 1) := by decide +kernel
theorem dX8_judgeOf_239 : decode cX8_judgeOf 239 = .ok (.ifCond .ge 18, 3) := by decide +kernel
theorem dX8_judgeOf_242 : decode cX8_judgeOf 242 = .ok (.goto 11, 3) := by decide +kernel
theorem dX8_judgeOf_245 : decode cX8_judgeOf 245 = .ok (.lload 5, 2) := by decide +kernel
theorem dX8_judgeOf_247 : decode cX8_judgeOf 247 = .ok (.lload 7, 2) := by decide +kernel
theorem dX8_judgeOf_249 : decode cX8_judgeOf 249 = .ok (.lcmp, 1) := by decide +kernel
theorem dX8_judgeOf_250 : decode cX8_judgeOf 250 = .ok (.ifCond .gt 7, 3) := by decide +kernel
theorem dX8_judgeOf_253 : decode cX8_judgeOf 253 = .ok (.iconst 1, 1) := by decide +kernel
theorem dX8_judgeOf_254 : decode cX8_judgeOf 254 = .ok (.goto 4, 3) := by decide +kernel
theorem dX8_judgeOf_257 : decode cX8_judgeOf 257 = .ok (.iconst 2, 1) := by decide +kernel
theorem dX8_judgeOf_258 : decode cX8_judgeOf 258 = .ok (.ireturn, 1) := by decide +kernel
theorem dX8_equal_0 : decode cX8_equal 0 = .ok (.aload_n 0, 1) := by decide +kernel
theorem dX8_equal_1 : decode cX8_equal 1 = .ok (.getfield 50, 3) := by decide +kernel
theorem dX8_equal_4 : decode cX8_equal 4 = .ok (.iload_n 1, 1) := by decide +kernel
theorem dX8_equal_5 : decode cX8_equal 5 = .ok (.baload, 1) := by decide +kernel
theorem dX8_equal_6 : decode cX8_equal 6 = .ok (.ifCond .eq 56, 3) := by decide +kernel
theorem dX8_equal_9 : decode cX8_equal 9 = .ok (.aload_n 0, 1) := by decide +kernel
theorem dX8_equal_10 : decode cX8_equal 10 = .ok (.getfield 50, 3) := by decide +kernel
theorem dX8_equal_13 : decode cX8_equal 13 = .ok (.iload_n 2, 1) := by decide +kernel
theorem dX8_equal_14 : decode cX8_equal 14 = .ok (.baload, 1) := by decide +kernel
theorem dX8_equal_15 : decode cX8_equal 15 = .ok (.ifCond .eq 47, 3) := by decide +kernel
theorem dX8_equal_18 : decode cX8_equal 18 = .ok (.aload_n 0, 1) := by decide +kernel
theorem dX8_equal_19 : decode cX8_equal 19 = .ok (.getfield 57, 3) := by decide +kernel
theorem dX8_equal_22 : decode cX8_equal 22 = .ok (.iload_n 1, 1) := by decide +kernel
theorem dX8_equal_23 : decode cX8_equal 23 = .ok (.laload, 1) := by decide +kernel
theorem dX8_equal_24 : decode cX8_equal 24 = .ok (.invokestatic 187, 3) := by decide +kernel
theorem dX8_equal_27 : decode cX8_equal 27 = .ok (.aload_n 0, 1) := by decide +kernel
theorem dX8_equal_28 : decode cX8_equal 28 = .ok (.getfield 54, 3) := by decide +kernel
theorem dX8_equal_31 : decode cX8_equal 31 = .ok (.iload_n 2, 1) := by decide +kernel
theorem dX8_equal_32 : decode cX8_equal 32 = .ok (.laload, 1) := by decide +kernel
theorem dX8_equal_33 : decode cX8_equal 33 = .ok (.invokestatic 187, 3) := by decide +kernel
theorem dX8_equal_36 : decode cX8_equal 36 = .ok (.lcmp, 1) := by decide +kernel
theorem dX8_equal_37 : decode cX8_equal 37 = .ok (.ifCond .lt 25, 3) := by decide +kernel
theorem dX8_equal_40 : decode cX8_equal 40 = .ok (.aload_n 0, 1) := by decide +kernel
theorem dX8_equal_41 : decode cX8_equal 41 = .ok (.getfield 57, 3) := by decide +kernel
theorem dX8_equal_44 : decode cX8_equal 44 = .ok (.iload_n 2, 1) := by decide +kernel
theorem dX8_equal_45 : decode cX8_equal 45 = .ok (.laload, 1) := by decide +kernel
theorem dX8_equal_46 : decode cX8_equal 46 = .ok (.invokestatic 187, 3) := by decide +kernel
theorem dX8_equal_49 : decode cX8_equal 49 = .ok (.aload_n 0, 1) := by decide +kernel
theorem dX8_equal_50 : decode cX8_equal 50 = .ok (.getfield 54, 3) := by decide +kernel
theorem dX8_equal_53 : decode cX8_equal 53 = .ok (.iload_n 1, 1) := by decide +kernel
theorem dX8_equal_54 : decode cX8_equal 54 = .ok (.laload, 1) := by decide +kernel
theorem dX8_equal_55 : decode cX8_equal 55 = .ok (.invokestatic 187, 3) := by decide +kernel
theorem dX8_equal_58 : decode cX8_equal 58 = .ok (.lcmp, 1) := by decide +kernel
theorem dX8_equal_59 : decode cX8_equal 59 = .ok (.ifCond .ge 5, 3) := by decide +kernel
theorem dX8_equal_62 : decode cX8_equal 62 = .ok (.iconst 0, 1) := by decide +kernel
theorem dX8_equal_63 : decode cX8_equal 63 = .ok (.ireturn, 1) := by decide +kernel
theorem dX8_equal_64 : decode cX8_equal 64 = .ok (.aload_n 0, 1) := by decide +kernel
theorem dX8_equal_65 : decode cX8_equal 65 = .ok (.getfield 54, 3) := by decide +kernel
theorem dX8_equal_68 : decode cX8_equal 68 = .ok (.iload_n 1, 1) := by decide +kernel
theorem dX8_equal_69 : decode cX8_equal 69 = .ok (.laload, 1) := by decide +kernel
theorem dX8_equal_70 : decode cX8_equal 70 = .ok (.invokestatic 187, 3) := by decide +kernel
theorem dX8_equal_73 : decode cX8_equal 73 = .ok (.aload_n 0, 1) := by decide +kernel
theorem dX8_equal_74 : decode cX8_equal 74 = .ok (.getfield 57, 3) := by decide +kernel
theorem dX8_equal_77 : decode cX8_equal 77 = .ok (.iload_n 1, 1) := by decide +kernel
theorem dX8_equal_78 : decode cX8_equal 78 = .ok (.laload, 1) := by decide +kernel
theorem dX8_equal_79 : decode cX8_equal 79 = .ok (.invokestatic 187, 3) := by decide +kernel
theorem dX8_equal_82 : decode cX8_equal 82 = .ok (.lcmp, 1) := by decide +kernel
theorem dX8_equal_83 : decode cX8_equal 83 = .ok (.ifCond .ne 51, 3) := by decide +kernel
theorem dX8_equal_86 : decode cX8_equal 86 = .ok (.aload_n 0, 1) := by decide +kernel
theorem dX8_equal_87 : decode cX8_equal 87 = .ok (.getfield 54, 3) := by decide +kernel
theorem dX8_equal_90 : decode cX8_equal 90 = .ok (.iload_n 2, 1) := by decide +kernel
theorem dX8_equal_91 : decode cX8_equal 91 = .ok (.laload, 1) := by decide +kernel
theorem dX8_equal_92 : decode cX8_equal 92 = .ok (.invokestatic 187, 3) := by decide +kernel
theorem dX8_equal_95 : decode cX8_equal 95 = .ok (.aload_n 0, 1) := by decide +kernel
theorem dX8_equal_96 : decode cX8_equal 96 = .ok (.getfield 57, 3) := by decide +kernel
theorem dX8_equal_99 : decode cX8_equal 99 = .ok (.iload_n 2, 1) := by decide +kernel
theorem dX8_equal_100 : decode cX8_equal 100 = .ok (.laload, 1) := by decide +kernel
theorem dX8_equal_101 : decode cX8_equal 101 = .ok (.invokestatic 187, 3) := by decide +kernel
theorem dX8_equal_104 : decode cX8_equal 104 = .ok (.lcmp, 1) := by decide +kernel
theorem dX8_equal_105 : decode cX8_equal 105 = .ok (.ifCond .ne 29, 3) := by decide +kernel
theorem dX8_equal_108 : decode cX8_equal 108 = .ok (.aload_n 0, 1) := by decide +kernel
theorem dX8_equal_109 : decode cX8_equal 109 = .ok (.getfield 54, 3) := by decide +kernel
theorem dX8_equal_112 : decode cX8_equal 112 = .ok (.iload_n 1, 1) := by decide +kernel
theorem dX8_equal_113 : decode cX8_equal 113 = .ok (.laload, 1) := by decide +kernel
theorem dX8_equal_114 : decode cX8_equal 114 = .ok (.invokestatic 187, 3) := by decide +kernel
theorem dX8_equal_117 : decode cX8_equal 117 = .ok (.aload_n 0, 1) := by decide +kernel
theorem dX8_equal_118 : decode cX8_equal 118 = .ok (.getfield 54, 3) := by decide +kernel
theorem dX8_equal_121 : decode cX8_equal 121 = .ok (.iload_n 2, 1) := by decide +kernel
theorem dX8_equal_122 : decode cX8_equal 122 = .ok (.laload, 1) := by decide +kernel
theorem dX8_equal_123 : decode cX8_equal 123 = .ok (.invokestatic 187, 3) := by decide +kernel
theorem dX8_equal_126 : decode cX8_equal 126 = .ok (.lcmp, 1) := by decide +kernel
theorem dX8_equal_127 : decode cX8_equal 127 = .ok (.ifCond .ne 7, 3) := by decide +kernel
theorem dX8_equal_130 : decode cX8_equal 130 = .ok (.iconst 1, 1) := by decide +kernel
theorem dX8_equal_131 : decode cX8_equal 131 = .ok (.goto 4, 3) := by decide +kernel
theorem dX8_equal_134 : decode cX8_equal 134 = .ok (.iconst 0, 1) := by decide +kernel
theorem dX8_equal_135 : decode cX8_equal 135 = .ok (.istore_n 3, 1) := by decide +kernel
theorem dX8_equal_136 : decode cX8_equal 136 = .ok (.iload_n 3, 1) := by decide +kernel
theorem dX8_equal_137 : decode cX8_equal 137 = .ok (.ifCond .eq 25, 3) := by decide +kernel
theorem dX8_equal_140 : decode cX8_equal 140 = .ok (.aload_n 0, 1) := by decide +kernel
theorem dX8_equal_141 : decode cX8_equal 141 = .ok (.getfield 60, 3) := by decide +kernel
theorem dX8_equal_144 : decode cX8_equal 144 = .ok (.iload_n 1, 1) := by decide +kernel
theorem dX8_equal_145 : decode cX8_equal 145 = .ok (.baload, 1) := by decide +kernel
theorem dX8_equal_146 : decode cX8_equal 146 = .ok (.ifCond .ne 16, 3) := by decide +kernel
theorem dX8_equal_149 : decode cX8_equal 149 = .ok (.aload_n 0, 1) := by decide +kernel
theorem dX8_equal_150 : decode cX8_equal 150 = .ok (.getfield 60, 3) := by decide +kernel
theorem dX8_equal_153 : decode cX8_equal 153 = .ok (.iload_n 2, 1) := by decide +kernel
theorem dX8_equal_154 : decode cX8_equal 154 = .ok (.baload, 1) := by decide +kernel
theorem dX8_equal_155 : decode cX8_equal 155 = .ok (.ifCond .ne 7, 3) := by decide +kernel
theorem dX8_equal_158 : decode cX8_equal 158 = .ok (.iconst 1, 1) := by decide +kernel
theorem dX8_equal_159 : decode cX8_equal 159 = .ok (.goto 4, 3) := by decide +kernel
theorem dX8_equal_162 : decode cX8_equal 162 = .ok (.iconst 2, 1) := by decide +kernel
theorem dX8_equal_163 : decode cX8_equal 163 = .ok (.ireturn, 1) := by decide +kernel
theorem dX8_judge_0 : decode cX8_judge 0 = .ok (.aload_n 0, 1) := by decide +kernel
theorem dX8_judge_1 : decode cX8_judge 1 = .ok (.iconst 0, 1) := by decide +kernel
theorem dX8_judge_2 : decode cX8_judge 2 = .ok (.putfield 70, 3) := by decide +kernel
theorem dX8_judge_5 : decode cX8_judge 5 = .ok (.iload_n 1, 1) := by decide +kernel
theorem dX8_judge_6 : decode cX8_judge 6 = .ok (.i2l, 1) := by decide +kernel
theorem dX8_judge_7 : decode cX8_judge 7 = .ok (.lconst 0, 1) := by decide +kernel
theorem dX8_judge_8 : decode cX8_judge 8 = .ok (.aload_n 0, 1) := by decide +kernel
theorem dX8_judge_9 : decode cX8_judge 9 = .ok (.getfield 167, 3) := by decide +kernel
theorem dX8_judge_12 : decode cX8_judge 12 = .ok (.iconst 1, 1) := by decide +kernel
theorem dX8_judge_13 : decode cX8_judge 13 = .ok (.isub, 1) := by decide +kernel
theorem dX8_judge_14 : decode cX8_judge 14 = .ok (.i2l, 1) := by decide +kernel
theorem dX8_judge_15 : decode cX8_judge 15 = .ok (.invokestatic 150, 3) := by decide +kernel
theorem dX8_judge_18 : decode cX8_judge 18 = .ok (.ifCond .ne 5, 3) := by decide +kernel
theorem dX8_judge_21 : decode cX8_judge 21 = .ok (.iconst (-1), 1) := by decide +kernel
theorem dX8_judge_22 : decode cX8_judge 22 = .ok (.ireturn, 1) := by decide +kernel
theorem dX8_judge_23 : decode cX8_judge 23 = .ok (.aload_n 0, 1) := by decide +kernel
theorem dX8_judge_24 : decode cX8_judge 24 = .ok (.invokevirtual 217, 3) := by decide +kernel
theorem dX8_judge_27 : decode cX8_judge 27 = .ok (.aload_n 0, 1) := by decide +kernel
theorem dX8_judge_28 : decode cX8_judge 28 = .ok (.iload_n 1, 1) := by decide +kernel
theorem dX8_judge_29 : decode cX8_judge 29 = .ok (.invokevirtual 224, 3) := by decide +kernel
theorem dX8_judge_32 : decode cX8_judge 32 = .ok (.ireturn, 1) := by decide +kernel
theorem dX8_lay_0 : decode cX8_lay 0 = .ok (.iconst 0, 1) := by decide +kernel
theorem dX8_lay_1 : decode cX8_lay 1 = .ok (.istore_n 1, 1) := by decide +kernel
theorem dX8_lay_2 : decode cX8_lay 2 = .ok (.iload_n 1, 1) := by decide +kernel
theorem dX8_lay_3 : decode cX8_lay 3 = .ok (.iconst 4, 1) := by decide +kernel
theorem dX8_lay_4 : decode cX8_lay 4 = .ok (.if_icmp .ge 51, 3) := by decide +kernel
theorem dX8_lay_7 : decode cX8_lay 7 = .ok (.aload_n 0, 1) := by decide +kernel
theorem dX8_lay_8 : decode cX8_lay 8 = .ok (.getfield 63, 3) := by decide +kernel
theorem dX8_lay_11 : decode cX8_lay 11 = .ok (.bipush 8, 2) := by decide +kernel
theorem dX8_lay_13 : decode cX8_lay 13 = .ok (.aload_n 0, 1) := by decide +kernel
theorem dX8_lay_14 : decode cX8_lay 14 = .ok (.getfield 228, 3) := by decide +kernel
theorem dX8_lay_17 : decode cX8_lay 17 = .ok (.imul, 1) := by decide +kernel
theorem dX8_lay_18 : decode cX8_lay 18 = .ok (.iload_n 1, 1) := by decide +kernel
theorem dX8_lay_19 : decode cX8_lay 19 = .ok (.iadd, 1) := by decide +kernel
theorem dX8_lay_20 : decode cX8_lay 20 = .ok (.aload_n 0, 1) := by decide +kernel
theorem dX8_lay_21 : decode cX8_lay 21 = .ok (.getfield 44, 3) := by decide +kernel
theorem dX8_lay_24 : decode cX8_lay 24 = .ok (.iload_n 1, 1) := by decide +kernel
theorem dX8_lay_25 : decode cX8_lay 25 = .ok (.laload, 1) := by decide +kernel
theorem dX8_lay_26 : decode cX8_lay 26 = .ok (.lastore, 1) := by decide +kernel
theorem dX8_lay_27 : decode cX8_lay 27 = .ok (.aload_n 0, 1) := by decide +kernel
theorem dX8_lay_28 : decode cX8_lay 28 = .ok (.getfield 63, 3) := by decide +kernel
theorem dX8_lay_31 : decode cX8_lay 31 = .ok (.bipush 8, 2) := by decide +kernel
theorem dX8_lay_33 : decode cX8_lay 33 = .ok (.aload_n 0, 1) := by decide +kernel
theorem dX8_lay_34 : decode cX8_lay 34 = .ok (.getfield 228, 3) := by decide +kernel
theorem dX8_lay_37 : decode cX8_lay 37 = .ok (.imul, 1) := by decide +kernel
theorem dX8_lay_38 : decode cX8_lay 38 = .ok (.iconst 4, 1) := by decide +kernel
theorem dX8_lay_39 : decode cX8_lay 39 = .ok (.iadd, 1) := by decide +kernel
theorem dX8_lay_40 : decode cX8_lay 40 = .ok (.iload_n 1, 1) := by decide +kernel
theorem dX8_lay_41 : decode cX8_lay 41 = .ok (.iadd, 1) := by decide +kernel
theorem dX8_lay_42 : decode cX8_lay 42 = .ok (.aload_n 0, 1) := by decide +kernel
theorem dX8_lay_43 : decode cX8_lay 43 = .ok (.getfield 47, 3) := by decide +kernel
theorem dX8_lay_46 : decode cX8_lay 46 = .ok (.iload_n 1, 1) := by decide +kernel
theorem dX8_lay_47 : decode cX8_lay 47 = .ok (.laload, 1) := by decide +kernel
theorem dX8_lay_48 : decode cX8_lay 48 = .ok (.lastore, 1) := by decide +kernel
theorem dX8_lay_49 : decode cX8_lay 49 = .ok (.iinc 1 1, 3) := by decide +kernel
theorem dX8_lay_52 : decode cX8_lay 52 = .ok (.goto (-50), 3) := by decide +kernel
theorem dX8_lay_55 : decode cX8_lay 55 = .ok (.aload_n 0, 1) := by decide +kernel
theorem dX8_lay_56 : decode cX8_lay 56 = .ok (.dup, 1) := by decide +kernel
theorem dX8_lay_57 : decode cX8_lay 57 = .ok (.getfield 228, 3) := by decide +kernel
theorem dX8_lay_60 : decode cX8_lay 60 = .ok (.iconst 1, 1) := by decide +kernel
theorem dX8_lay_61 : decode cX8_lay 61 = .ok (.iadd, 1) := by decide +kernel
theorem dX8_lay_62 : decode cX8_lay 62 = .ok (.putfield 228, 3) := by decide +kernel
theorem dX8_lay_65 : decode cX8_lay 65 = .ok (.return_, 1) := by decide +kernel
theorem dX8_lift_0 : decode cX8_lift 0 = .ok (.aload_n 0, 1) := by decide +kernel
theorem dX8_lift_1 : decode cX8_lift 1 = .ok (.dup, 1) := by decide +kernel
theorem dX8_lift_2 : decode cX8_lift 2 = .ok (.getfield 228, 3) := by decide +kernel
theorem dX8_lift_5 : decode cX8_lift 5 = .ok (.iconst 1, 1) := by decide +kernel
theorem dX8_lift_6 : decode cX8_lift 6 = .ok (.isub, 1) := by decide +kernel
theorem dX8_lift_7 : decode cX8_lift 7 = .ok (.putfield 228, 3) := by decide +kernel
theorem dX8_lift_10 : decode cX8_lift 10 = .ok (.iconst 0, 1) := by decide +kernel
theorem dX8_lift_11 : decode cX8_lift 11 = .ok (.istore_n 1, 1) := by decide +kernel
theorem dX8_lift_12 : decode cX8_lift 12 = .ok (.iload_n 1, 1) := by decide +kernel
theorem dX8_lift_13 : decode cX8_lift 13 = .ok (.iconst 4, 1) := by decide +kernel
theorem dX8_lift_14 : decode cX8_lift 14 = .ok (.if_icmp .ge 51, 3) := by decide +kernel
theorem dX8_lift_17 : decode cX8_lift 17 = .ok (.aload_n 0, 1) := by decide +kernel
theorem dX8_lift_18 : decode cX8_lift 18 = .ok (.getfield 44, 3) := by decide +kernel
theorem dX8_lift_21 : decode cX8_lift 21 = .ok (.iload_n 1, 1) := by decide +kernel
theorem dX8_lift_22 : decode cX8_lift 22 = .ok (.aload_n 0, 1) := by decide +kernel
theorem dX8_lift_23 : decode cX8_lift 23 = .ok (.getfield 63, 3) := by decide +kernel
theorem dX8_lift_26 : decode cX8_lift 26 = .ok (.bipush 8, 2) := by decide +kernel
theorem dX8_lift_28 : decode cX8_lift 28 = .ok (.aload_n 0, 1) := by decide +kernel
theorem dX8_lift_29 : decode cX8_lift 29 = .ok (.getfield 228, 3) := by decide +kernel
theorem dX8_lift_32 : decode cX8_lift 32 = .ok (.imul, 1) := by decide +kernel
theorem dX8_lift_33 : decode cX8_lift 33 = .ok (.iload_n 1, 1) := by decide +kernel
theorem dX8_lift_34 : decode cX8_lift 34 = .ok (.iadd, 1) := by decide +kernel
theorem dX8_lift_35 : decode cX8_lift 35 = .ok (.laload, 1) := by decide +kernel
theorem dX8_lift_36 : decode cX8_lift 36 = .ok (.lastore, 1) := by decide +kernel
theorem dX8_lift_37 : decode cX8_lift 37 = .ok (.aload_n 0, 1) := by decide +kernel
theorem dX8_lift_38 : decode cX8_lift 38 = .ok (.getfield 47, 3) := by decide +kernel
theorem dX8_lift_41 : decode cX8_lift 41 = .ok (.iload_n 1, 1) := by decide +kernel
theorem dX8_lift_42 : decode cX8_lift 42 = .ok (.aload_n 0, 1) := by decide +kernel
theorem dX8_lift_43 : decode cX8_lift 43 = .ok (.getfield 63, 3) := by decide +kernel
theorem dX8_lift_46 : decode cX8_lift 46 = .ok (.bipush 8, 2) := by decide +kernel
theorem dX8_lift_48 : decode cX8_lift 48 = .ok (.aload_n 0, 1) := by decide +kernel
theorem dX8_lift_49 : decode cX8_lift 49 = .ok (.getfield 228, 3) := by decide +kernel
theorem dX8_lift_52 : decode cX8_lift 52 = .ok (.imul, 1) := by decide +kernel
theorem dX8_lift_53 : decode cX8_lift 53 = .ok (.iconst 4, 1) := by decide +kernel
theorem dX8_lift_54 : decode cX8_lift 54 = .ok (.iadd, 1) := by decide +kernel
theorem dX8_lift_55 : decode cX8_lift 55 = .ok (.iload_n 1, 1) := by decide +kernel
theorem dX8_lift_56 : decode cX8_lift 56 = .ok (.iadd, 1) := by decide +kernel
theorem dX8_lift_57 : decode cX8_lift 57 = .ok (.laload, 1) := by decide +kernel
theorem dX8_lift_58 : decode cX8_lift 58 = .ok (.lastore, 1) := by decide +kernel
theorem dX8_lift_59 : decode cX8_lift 59 = .ok (.iinc 1 1, 3) := by decide +kernel
theorem dX8_lift_62 : decode cX8_lift 62 = .ok (.goto (-50), 3) := by decide +kernel
theorem dX8_lift_65 : decode cX8_lift 65 = .ok (.return_, 1) := by decide +kernel
theorem dX8_solves_0 : decode cX8_solves 0 = .ok (.aload_n 0, 1) := by decide +kernel
theorem dX8_solves_1 : decode cX8_solves 1 = .ok (.iconst 1, 1) := by decide +kernel
theorem dX8_solves_2 : decode cX8_solves 2 = .ok (.putfield 231, 3) := by decide +kernel
theorem dX8_solves_5 : decode cX8_solves 5 = .ok (.iconst 0, 1) := by decide +kernel
theorem dX8_solves_6 : decode cX8_solves 6 = .ok (.istore_n 1, 1) := by decide +kernel
theorem dX8_solves_7 : decode cX8_solves 7 = .ok (.iload_n 1, 1) := by decide +kernel
theorem dX8_solves_8 : decode cX8_solves 8 = .ok (.iconst 4, 1) := by decide +kernel
theorem dX8_solves_9 : decode cX8_solves 9 = .ok (.if_icmp .ge 21, 3) := by decide +kernel
theorem dX8_solves_12 : decode cX8_solves 12 = .ok (.aload_n 0, 1) := by decide +kernel
theorem dX8_solves_13 : decode cX8_solves 13 = .ok (.getfield 38, 3) := by decide +kernel
theorem dX8_solves_16 : decode cX8_solves 16 = .ok (.iload_n 1, 1) := by decide +kernel
theorem dX8_solves_17 : decode cX8_solves 17 = .ok (.aload_n 0, 1) := by decide +kernel
theorem dX8_solves_18 : decode cX8_solves 18 = .ok (.getfield 44, 3) := by decide +kernel
theorem dX8_solves_21 : decode cX8_solves 21 = .ok (.iload_n 1, 1) := by decide +kernel
theorem dX8_solves_22 : decode cX8_solves 22 = .ok (.laload, 1) := by decide +kernel
theorem dX8_solves_23 : decode cX8_solves 23 = .ok (.lastore, 1) := by decide +kernel
theorem dX8_solves_24 : decode cX8_solves 24 = .ok (.iinc 1 1, 3) := by decide +kernel
theorem dX8_solves_27 : decode cX8_solves 27 = .ok (.goto (-20), 3) := by decide +kernel
theorem dX8_solves_30 : decode cX8_solves 30 = .ok (.return_, 1) := by decide +kernel
theorem dX8_solve_0 : decode cX8_solve 0 = .ok (.aload_n 0, 1) := by decide +kernel
theorem dX8_solve_1 : decode cX8_solve 1 = .ok (.iconst 0, 1) := by decide +kernel
theorem dX8_solve_2 : decode cX8_solve 2 = .ok (.putfield 70, 3) := by decide +kernel
theorem dX8_solve_5 : decode cX8_solve 5 = .ok (.iload_n 1, 1) := by decide +kernel
theorem dX8_solve_6 : decode cX8_solve 6 = .ok (.i2l, 1) := by decide +kernel
theorem dX8_solve_7 : decode cX8_solve 7 = .ok (.lconst 1, 1) := by decide +kernel
theorem dX8_solve_8 : decode cX8_solve 8 = .ok (.ldc2_w 234, 3) := by decide +kernel
theorem dX8_solve_11 : decode cX8_solve 11 = .ok (.invokestatic 150, 3) := by decide +kernel
theorem dX8_solve_14 : decode cX8_solve 14 = .ok (.ifCond .ne 6, 3) := by decide +kernel
theorem dX8_solve_17 : decode cX8_solve 17 = .ok (.bipush (-2), 2) := by decide +kernel
theorem dX8_solve_19 : decode cX8_solve 19 = .ok (.ireturn, 1) := by decide +kernel
theorem dX8_solve_20 : decode cX8_solve 20 = .ok (.aload_n 0, 1) := by decide +kernel
theorem dX8_solve_21 : decode cX8_solve 21 = .ok (.iconst 1, 1) := by decide +kernel
theorem dX8_solve_22 : decode cX8_solve 22 = .ok (.putfield 236, 3) := by decide +kernel
theorem dX8_solve_25 : decode cX8_solve 25 = .ok (.aload_n 0, 1) := by decide +kernel
theorem dX8_solve_26 : decode cX8_solve 26 = .ok (.iconst 0, 1) := by decide +kernel
theorem dX8_solve_27 : decode cX8_solve 27 = .ok (.putfield 240, 3) := by decide +kernel
theorem dX8_solve_30 : decode cX8_solve 30 = .ok (.aload_n 0, 1) := by decide +kernel
theorem dX8_solve_31 : decode cX8_solve 31 = .ok (.iconst 0, 1) := by decide +kernel
theorem dX8_solve_32 : decode cX8_solve 32 = .ok (.putfield 243, 3) := by decide +kernel
theorem dX8_solve_35 : decode cX8_solve 35 = .ok (.aload_n 0, 1) := by decide +kernel
theorem dX8_solve_36 : decode cX8_solve 36 = .ok (.iconst (-1), 1) := by decide +kernel
theorem dX8_solve_37 : decode cX8_solve 37 = .ok (.putfield 231, 3) := by decide +kernel
theorem dX8_solve_40 : decode cX8_solve 40 = .ok (.aload_n 0, 1) := by decide +kernel
theorem dX8_solve_41 : decode cX8_solve 41 = .ok (.iconst 0, 1) := by decide +kernel
theorem dX8_solve_42 : decode cX8_solve 42 = .ok (.putfield 228, 3) := by decide +kernel
theorem dX8_solve_45 : decode cX8_solve 45 = .ok (.iconst 0, 1) := by decide +kernel
theorem dX8_solve_46 : decode cX8_solve 46 = .ok (.istore_n 2, 1) := by decide +kernel
theorem dX8_solve_47 : decode cX8_solve 47 = .ok (.iload_n 2, 1) := by decide +kernel
theorem dX8_solve_48 : decode cX8_solve 48 = .ok (.iconst 4, 1) := by decide +kernel
theorem dX8_solve_49 : decode cX8_solve 49 = .ok (.if_icmp .ge 33, 3) := by decide +kernel
theorem dX8_solve_52 : decode cX8_solve 52 = .ok (.aload_n 0, 1) := by decide +kernel
theorem dX8_solve_53 : decode cX8_solve 53 = .ok (.getfield 44, 3) := by decide +kernel
theorem dX8_solve_56 : decode cX8_solve 56 = .ok (.iload_n 2, 1) := by decide +kernel
theorem dX8_solve_57 : decode cX8_solve 57 = .ok (.aload_n 0, 1) := by decide +kernel
theorem dX8_solve_58 : decode cX8_solve 58 = .ok (.getfield 28, 3) := by decide +kernel
theorem dX8_solve_61 : decode cX8_solve 61 = .ok (.iload_n 2, 1) := by decide +kernel
theorem dX8_solve_62 : decode cX8_solve 62 = .ok (.laload, 1) := by decide +kernel
theorem dX8_solve_63 : decode cX8_solve 63 = .ok (.lastore, 1) := by decide +kernel
theorem dX8_solve_64 : decode cX8_solve 64 = .ok (.aload_n 0, 1) := by decide +kernel
theorem dX8_solve_65 : decode cX8_solve 65 = .ok (.getfield 47, 3) := by decide +kernel
theorem dX8_solve_68 : decode cX8_solve 68 = .ok (.iload_n 2, 1) := by decide +kernel
theorem dX8_solve_69 : decode cX8_solve 69 = .ok (.aload_n 0, 1) := by decide +kernel
theorem dX8_solve_70 : decode cX8_solve 70 = .ok (.getfield 32, 3) := by decide +kernel
theorem dX8_solve_73 : decode cX8_solve 73 = .ok (.iload_n 2, 1) := by decide +kernel
theorem dX8_solve_74 : decode cX8_solve 74 = .ok (.laload, 1) := by decide +kernel
theorem dX8_solve_75 : decode cX8_solve 75 = .ok (.lastore, 1) := by decide +kernel
theorem dX8_solve_76 : decode cX8_solve 76 = .ok (.iinc 2 1, 3) := by decide +kernel
theorem dX8_solve_79 : decode cX8_solve 79 = .ok (.goto (-32), 3) := by decide +kernel
theorem dX8_solve_82 : decode cX8_solve 82 = .ok (.aload_n 0, 1) := by decide +kernel
theorem dX8_solve_83 : decode cX8_solve 83 = .ok (.invokevirtual 246, 3) := by decide +kernel
theorem dX8_solve_86 : decode cX8_solve 86 = .ok (.aload_n 0, 1) := by decide +kernel
theorem dX8_solve_87 : decode cX8_solve 87 = .ok (.getfield 231, 3) := by decide +kernel
theorem dX8_solve_90 : decode cX8_solve 90 = .ok (.ifCond .ge 55, 3) := by decide +kernel
theorem dX8_solve_93 : decode cX8_solve 93 = .ok (.aload_n 0, 1) := by decide +kernel
theorem dX8_solve_94 : decode cX8_solve 94 = .ok (.getfield 228, 3) := by decide +kernel
theorem dX8_solve_97 : decode cX8_solve 97 = .ok (.ifCond .ne 11, 3) := by decide +kernel
theorem dX8_solve_100 : decode cX8_solve 100 = .ok (.aload_n 0, 1) := by decide +kernel
theorem dX8_solve_101 : decode cX8_solve 101 = .ok (.iconst 0, 1) := by decide +kernel
theorem dX8_solve_102 : decode cX8_solve 102 = .ok (.putfield 231, 3) := by decide +kernel
theorem dX8_solve_105 : decode cX8_solve 105 = .ok (.goto (-19), 3) := by decide +kernel
theorem dX8_solve_108 : decode cX8_solve 108 = .ok (.aload_n 0, 1) := by decide +kernel
theorem dX8_solve_109 : decode cX8_solve 109 = .ok (.getfield 240, 3) := by decide +kernel
theorem dX8_solve_112 : decode cX8_solve 112 = .ok (.iload_n 1, 1) := by decide +kernel
theorem dX8_solve_113 : decode cX8_solve 113 = .ok (.if_icmp .ne 11, 3) := by decide +kernel
theorem dX8_solve_116 : decode cX8_solve 116 = .ok (.aload_n 0, 1) := by decide +kernel
theorem dX8_solve_117 : decode cX8_solve 117 = .ok (.iconst 2, 1) := by decide +kernel
theorem dX8_solve_118 : decode cX8_solve 118 = .ok (.putfield 231, 3) := by decide +kernel
theorem dX8_solve_121 : decode cX8_solve 121 = .ok (.goto (-35), 3) := by decide +kernel
theorem dX8_solve_124 : decode cX8_solve 124 = .ok (.aload_n 0, 1) := by decide +kernel
theorem dX8_solve_125 : decode cX8_solve 125 = .ok (.invokevirtual 249, 3) := by decide +kernel
theorem dX8_solve_128 : decode cX8_solve 128 = .ok (.aload_n 0, 1) := by decide +kernel
theorem dX8_solve_129 : decode cX8_solve 129 = .ok (.dup, 1) := by decide +kernel
theorem dX8_solve_130 : decode cX8_solve 130 = .ok (.getfield 240, 3) := by decide +kernel
theorem dX8_solve_133 : decode cX8_solve 133 = .ok (.iconst 1, 1) := by decide +kernel
theorem dX8_solve_134 : decode cX8_solve 134 = .ok (.iadd, 1) := by decide +kernel
theorem dX8_solve_135 : decode cX8_solve 135 = .ok (.putfield 240, 3) := by decide +kernel
theorem dX8_solve_138 : decode cX8_solve 138 = .ok (.aload_n 0, 1) := by decide +kernel
theorem dX8_solve_139 : decode cX8_solve 139 = .ok (.invokevirtual 252, 3) := by decide +kernel
theorem dX8_solve_142 : decode cX8_solve 142 = .ok (.goto (-56), 3) := by decide +kernel
theorem dX8_solve_145 : decode cX8_solve 145 = .ok (.aload_n 0, 1) := by decide +kernel
theorem dX8_solve_146 : decode cX8_solve 146 = .ok (.getfield 231, 3) := by decide +kernel
theorem dX8_solve_149 : decode cX8_solve 149 = .ok (.ireturn, 1) := by decide +kernel
theorem dX8_look_0 : decode cX8_look 0 = .ok (.aload_n 0, 1) := by decide +kernel
theorem dX8_look_1 : decode cX8_look 1 = .ok (.invokevirtual 214, 3) := by decide +kernel
theorem dX8_look_4 : decode cX8_look 4 = .ok (.iconst 1, 1) := by decide +kernel
theorem dX8_look_5 : decode cX8_look 5 = .ok (.istore_n 1, 1) := by decide +kernel
theorem dX8_look_6 : decode cX8_look 6 = .ok (.iconst 0, 1) := by decide +kernel
theorem dX8_look_7 : decode cX8_look 7 = .ok (.istore_n 2, 1) := by decide +kernel
theorem dX8_look_8 : decode cX8_look 8 = .ok (.iload_n 2, 1) := by decide +kernel
theorem dX8_look_9 : decode cX8_look 9 = .ok (.aload_n 0, 1) := by decide +kernel
theorem dX8_look_10 : decode cX8_look 10 = .ok (.getfield 167, 3) := by decide +kernel
theorem dX8_look_13 : decode cX8_look 13 = .ok (.if_icmp .ge 35, 3) := by decide +kernel
theorem dX8_look_16 : decode cX8_look 16 = .ok (.aload_n 0, 1) := by decide +kernel
theorem dX8_look_17 : decode cX8_look 17 = .ok (.iload_n 2, 1) := by decide +kernel
theorem dX8_look_18 : decode cX8_look 18 = .ok (.invokevirtual 224, 3) := by decide +kernel
theorem dX8_look_21 : decode cX8_look 21 = .ok (.istore_n 3, 1) := by decide +kernel
theorem dX8_look_22 : decode cX8_look 22 = .ok (.iload_n 3, 1) := by decide +kernel
theorem dX8_look_23 : decode cX8_look 23 = .ok (.ifCond .ne 4, 3) := by decide +kernel
theorem dX8_look_26 : decode cX8_look 26 = .ok (.return_, 1) := by decide +kernel
theorem dX8_look_27 : decode cX8_look 27 = .ok (.iload_n 1, 1) := by decide +kernel
theorem dX8_look_28 : decode cX8_look 28 = .ok (.ifCond .eq 12, 3) := by decide +kernel
theorem dX8_look_31 : decode cX8_look 31 = .ok (.iload_n 3, 1) := by decide +kernel
theorem dX8_look_32 : decode cX8_look 32 = .ok (.iconst 1, 1) := by decide +kernel
theorem dX8_look_33 : decode cX8_look 33 = .ok (.if_icmp .ne 7, 3) := by decide +kernel
theorem dX8_look_36 : decode cX8_look 36 = .ok (.iconst 1, 1) := by decide +kernel
theorem dX8_look_37 : decode cX8_look 37 = .ok (.goto 4, 3) := by decide +kernel
theorem dX8_look_40 : decode cX8_look 40 = .ok (.iconst 0, 1) := by decide +kernel
theorem dX8_look_41 : decode cX8_look 41 = .ok (.istore_n 1, 1) := by decide +kernel
theorem dX8_look_42 : decode cX8_look 42 = .ok (.iinc 2 1, 3) := by decide +kernel
theorem dX8_look_45 : decode cX8_look 45 = .ok (.goto (-37), 3) := by decide +kernel
theorem dX8_look_48 : decode cX8_look 48 = .ok (.iload_n 1, 1) := by decide +kernel
theorem dX8_look_49 : decode cX8_look 49 = .ok (.ifCond .eq 8, 3) := by decide +kernel
theorem dX8_look_52 : decode cX8_look 52 = .ok (.aload_n 0, 1) := by decide +kernel
theorem dX8_look_53 : decode cX8_look 53 = .ok (.invokevirtual 255, 3) := by decide +kernel
theorem dX8_look_56 : decode cX8_look 56 = .ok (.return_, 1) := by decide +kernel
theorem dX8_look_57 : decode cX8_look 57 = .ok (.iconst 0, 1) := by decide +kernel
theorem dX8_look_58 : decode cX8_look 58 = .ok (.istore_n 2, 1) := by decide +kernel
theorem dX8_look_59 : decode cX8_look 59 = .ok (.iload_n 2, 1) := by decide +kernel
theorem dX8_look_60 : decode cX8_look 60 = .ok (.iconst 4, 1) := by decide +kernel
theorem dX8_look_61 : decode cX8_look 61 = .ok (.if_icmp .ge 25, 3) := by decide +kernel
theorem dX8_look_64 : decode cX8_look 64 = .ok (.aload_n 0, 1) := by decide +kernel
theorem dX8_look_65 : decode cX8_look 65 = .ok (.getfield 44, 3) := by decide +kernel
theorem dX8_look_68 : decode cX8_look 68 = .ok (.iload_n 2, 1) := by decide +kernel
theorem dX8_look_69 : decode cX8_look 69 = .ok (.laload, 1) := by decide +kernel
theorem dX8_look_70 : decode cX8_look 70 = .ok (.aload_n 0, 1) := by decide +kernel
theorem dX8_look_71 : decode cX8_look 71 = .ok (.getfield 47, 3) := by decide +kernel
theorem dX8_look_74 : decode cX8_look 74 = .ok (.iload_n 2, 1) := by decide +kernel
theorem dX8_look_75 : decode cX8_look 75 = .ok (.laload, 1) := by decide +kernel
theorem dX8_look_76 : decode cX8_look 76 = .ok (.lcmp, 1) := by decide +kernel
theorem dX8_look_77 : decode cX8_look 77 = .ok (.ifCond .ne 9, 3) := by decide +kernel
theorem dX8_look_80 : decode cX8_look 80 = .ok (.iinc 2 1, 3) := by decide +kernel
theorem dX8_look_83 : decode cX8_look 83 = .ok (.goto (-24), 3) := by decide +kernel
theorem dX8_look_86 : decode cX8_look 86 = .ok (.iload_n 2, 1) := by decide +kernel
theorem dX8_look_87 : decode cX8_look 87 = .ok (.iconst 4, 1) := by decide +kernel
theorem dX8_look_88 : decode cX8_look 88 = .ok (.if_icmp .ne 65, 3) := by decide +kernel
theorem dX8_look_91 : decode cX8_look 91 = .ok (.aload_n 0, 1) := by decide +kernel
theorem dX8_look_92 : decode cX8_look 92 = .ok (.aload_n 0, 1) := by decide +kernel
theorem dX8_look_93 : decode cX8_look 93 = .ok (.getfield 147, 3) := by decide +kernel
theorem dX8_look_96 : decode cX8_look 96 = .ok (.iconst 1, 1) := by decide +kernel
theorem dX8_look_97 : decode cX8_look 97 = .ok (.isub, 1) := by decide +kernel
theorem dX8_look_98 : decode cX8_look 98 = .ok (.aload_n 0, 1) := by decide +kernel
theorem dX8_look_99 : decode cX8_look 99 = .ok (.getfield 44, 3) := by decide +kernel
theorem dX8_look_102 : decode cX8_look 102 = .ok (.invokevirtual 183, 3) := by decide +kernel
theorem dX8_look_105 : decode cX8_look 105 = .ok (.iconst 1, 1) := by decide +kernel
theorem dX8_look_106 : decode cX8_look 106 = .ok (.istore_n 3, 1) := by decide +kernel
theorem dX8_look_107 : decode cX8_look 107 = .ok (.iconst 0, 1) := by decide +kernel
theorem dX8_look_108 : decode cX8_look 108 = .ok (.istore 4, 2) := by decide +kernel
theorem dX8_look_110 : decode cX8_look 110 = .ok (.iload 4, 2) := by decide +kernel
theorem dX8_look_112 : decode cX8_look 112 = .ok (.aload_n 0, 1) := by decide +kernel
theorem dX8_look_113 : decode cX8_look 113 = .ok (.getfield 167, 3) := by decide +kernel
theorem dX8_look_116 : decode cX8_look 116 = .ok (.if_icmp .ge 28, 3) := by decide +kernel
theorem dX8_look_119 : decode cX8_look 119 = .ok (.iload_n 3, 1) := by decide +kernel
theorem dX8_look_120 : decode cX8_look 120 = .ok (.ifCond .eq 16, 3) := by decide +kernel
theorem dX8_look_123 : decode cX8_look 123 = .ok (.aload_n 0, 1) := by decide +kernel
theorem dX8_look_124 : decode cX8_look 124 = .ok (.iload 4, 2) := by decide +kernel
theorem dX8_look_126 : decode cX8_look 126 = .ok (.invokevirtual 190, 3) := by decide +kernel
theorem dX8_look_129 : decode cX8_look 129 = .ok (.ifCond .eq 7, 3) := by decide +kernel
theorem dX8_look_132 : decode cX8_look 132 = .ok (.iconst 1, 1) := by decide +kernel
theorem dX8_look_133 : decode cX8_look 133 = .ok (.goto 4, 3) := by decide +kernel
theorem dX8_look_136 : decode cX8_look 136 = .ok (.iconst 0, 1) := by decide +kernel
theorem dX8_look_137 : decode cX8_look 137 = .ok (.istore_n 3, 1) := by decide +kernel
theorem dX8_look_138 : decode cX8_look 138 = .ok (.iinc 4 1, 3) := by decide +kernel
theorem dX8_look_141 : decode cX8_look 141 = .ok (.goto (-31), 3) := by decide +kernel
theorem dX8_look_144 : decode cX8_look 144 = .ok (.iload_n 3, 1) := by decide +kernel
theorem dX8_look_145 : decode cX8_look 145 = .ok (.ifCond .eq 7, 3) := by decide +kernel
theorem dX8_look_148 : decode cX8_look 148 = .ok (.aload_n 0, 1) := by decide +kernel
theorem dX8_look_149 : decode cX8_look 149 = .ok (.invokevirtual 255, 3) := by decide +kernel
theorem dX8_look_152 : decode cX8_look 152 = .ok (.return_, 1) := by decide +kernel
theorem dX8_look_153 : decode cX8_look 153 = .ok (.aload_n 0, 1) := by decide +kernel
theorem dX8_look_154 : decode cX8_look 154 = .ok (.dup, 1) := by decide +kernel
theorem dX8_look_155 : decode cX8_look 155 = .ok (.getfield 243, 3) := by decide +kernel
theorem dX8_look_158 : decode cX8_look 158 = .ok (.iconst 1, 1) := by decide +kernel
theorem dX8_look_159 : decode cX8_look 159 = .ok (.iadd, 1) := by decide +kernel
theorem dX8_look_160 : decode cX8_look 160 = .ok (.putfield 243, 3) := by decide +kernel
theorem dX8_look_163 : decode cX8_look 163 = .ok (.aload_n 0, 1) := by decide +kernel
theorem dX8_look_164 : decode cX8_look 164 = .ok (.getfield 44, 3) := by decide +kernel
theorem dX8_look_167 : decode cX8_look 167 = .ok (.iload_n 2, 1) := by decide +kernel
theorem dX8_look_168 : decode cX8_look 168 = .ok (.laload, 1) := by decide +kernel
theorem dX8_look_169 : decode cX8_look 169 = .ok (.lstore_n 3, 1) := by decide +kernel
theorem dX8_look_170 : decode cX8_look 170 = .ok (.aload_n 0, 1) := by decide +kernel
theorem dX8_look_171 : decode cX8_look 171 = .ok (.getfield 47, 3) := by decide +kernel
theorem dX8_look_174 : decode cX8_look 174 = .ok (.iload_n 2, 1) := by decide +kernel
theorem dX8_look_175 : decode cX8_look 175 = .ok (.laload, 1) := by decide +kernel
theorem dX8_look_176 : decode cX8_look 176 = .ok (.lstore 5, 2) := by decide +kernel
theorem dX8_look_178 : decode cX8_look 178 = .ok (.lload_n 3, 1) := by decide +kernel
theorem dX8_look_179 : decode cX8_look 179 = .ok (.lload 5, 2) := by decide +kernel
theorem dX8_look_181 : decode cX8_look 181 = .ok (.ladd, 1) := by decide +kernel
theorem dX8_look_182 : decode cX8_look 182 = .ok (.iconst 1, 1) := by decide +kernel
theorem dX8_look_183 : decode cX8_look 183 = .ok (.lshr, 1) := by decide +kernel
theorem dX8_look_184 : decode cX8_look 184 = .ok (.lstore 7, 2) := by decide +kernel
theorem dX8_look_186 : decode cX8_look 186 = .ok (.aload_n 0, 1) := by decide +kernel
theorem dX8_look_187 : decode cX8_look 187 = .ok (.getfield 44, 3) := by decide +kernel
theorem dX8_look_190 : decode cX8_look 190 = .ok (.iload_n 2, 1) := by decide +kernel
theorem dX8_look_191 : decode cX8_look 191 = .ok (.lload 7, 2) := by decide +kernel
theorem dX8_look_193 : decode cX8_look 193 = .ok (.lconst 1, 1) := by decide +kernel
theorem dX8_look_194 : decode cX8_look 194 = .ok (.ladd, 1) := by decide +kernel
theorem dX8_look_195 : decode cX8_look 195 = .ok (.lastore, 1) := by decide +kernel
theorem dX8_look_196 : decode cX8_look 196 = .ok (.aload_n 0, 1) := by decide +kernel
theorem dX8_look_197 : decode cX8_look 197 = .ok (.invokevirtual 246, 3) := by decide +kernel
theorem dX8_look_200 : decode cX8_look 200 = .ok (.aload_n 0, 1) := by decide +kernel
theorem dX8_look_201 : decode cX8_look 201 = .ok (.getfield 44, 3) := by decide +kernel
theorem dX8_look_204 : decode cX8_look 204 = .ok (.iload_n 2, 1) := by decide +kernel
theorem dX8_look_205 : decode cX8_look 205 = .ok (.lload_n 3, 1) := by decide +kernel
theorem dX8_look_206 : decode cX8_look 206 = .ok (.lastore, 1) := by decide +kernel
theorem dX8_look_207 : decode cX8_look 207 = .ok (.aload_n 0, 1) := by decide +kernel
theorem dX8_look_208 : decode cX8_look 208 = .ok (.getfield 47, 3) := by decide +kernel
theorem dX8_look_211 : decode cX8_look 211 = .ok (.iload_n 2, 1) := by decide +kernel
theorem dX8_look_212 : decode cX8_look 212 = .ok (.lload 7, 2) := by decide +kernel
theorem dX8_look_214 : decode cX8_look 214 = .ok (.lastore, 1) := by decide +kernel
theorem dX8_look_215 : decode cX8_look 215 = .ok (.aload_n 0, 1) := by decide +kernel
theorem dX8_look_216 : decode cX8_look 216 = .ok (.invokevirtual 246, 3) := by decide +kernel
theorem dX8_look_219 : decode cX8_look 219 = .ok (.return_, 1) := by decide +kernel
theorem dX8_solved_0 : decode cX8_solved 0 = .ok (.aload_n 0, 1) := by decide +kernel
theorem dX8_solved_1 : decode cX8_solved 1 = .ok (.iconst 0, 1) := by decide +kernel
theorem dX8_solved_2 : decode cX8_solved 2 = .ok (.putfield 70, 3) := by decide +kernel
theorem dX8_solved_5 : decode cX8_solved 5 = .ok (.aload_n 0, 1) := by decide +kernel
theorem dX8_solved_6 : decode cX8_solved 6 = .ok (.getfield 236, 3) := by decide +kernel
theorem dX8_solved_9 : decode cX8_solved 9 = .ok (.ifCond .eq 28, 3) := by decide +kernel
theorem dX8_solved_12 : decode cX8_solved 12 = .ok (.iload_n 1, 1) := by decide +kernel
theorem dX8_solved_13 : decode cX8_solved 13 = .ok (.i2l, 1) := by decide +kernel
theorem dX8_solved_14 : decode cX8_solved 14 = .ok (.lconst 0, 1) := by decide +kernel
theorem dX8_solved_15 : decode cX8_solved 15 = .ok (.ldc2_w 258, 3) := by decide +kernel
theorem dX8_solved_18 : decode cX8_solved 18 = .ok (.invokestatic 150, 3) := by decide +kernel
theorem dX8_solved_21 : decode cX8_solved 21 = .ok (.ifCond .eq 16, 3) := by decide +kernel
theorem dX8_solved_24 : decode cX8_solved 24 = .ok (.iload_n 1, 1) := by decide +kernel
theorem dX8_solved_25 : decode cX8_solved 25 = .ok (.iconst 2, 1) := by decide +kernel
theorem dX8_solved_26 : decode cX8_solved 26 = .ok (.if_icmp .le 15, 3) := by decide +kernel
theorem dX8_solved_29 : decode cX8_solved 29 = .ok (.aload_n 0, 1) := by decide +kernel
theorem dX8_solved_30 : decode cX8_solved 30 = .ok (.getfield 231, 3) := by decide +kernel
theorem dX8_solved_33 : decode cX8_solved 33 = .ok (.iconst 1, 1) := by decide +kernel
theorem dX8_solved_34 : decode cX8_solved 34 = .ok (.if_icmp .eq 7, 3) := by decide +kernel
theorem dX8_solved_37 : decode cX8_solved 37 = .ok (.ldc2_w 174, 3) := by decide +kernel
theorem dX8_solved_40 : decode cX8_solved 40 = .ok (.lreturn, 1) := by decide +kernel
theorem dX8_solved_41 : decode cX8_solved 41 = .ok (.iload_n 1, 1) := by decide +kernel
theorem dX8_solved_42 : decode cX8_solved 42 = .ok (.ifCond .ne 11, 3) := by decide +kernel
theorem dX8_solved_45 : decode cX8_solved 45 = .ok (.aload_n 0, 1) := by decide +kernel
theorem dX8_solved_46 : decode cX8_solved 46 = .ok (.getfield 231, 3) := by decide +kernel
theorem dX8_solved_49 : decode cX8_solved 49 = .ok (.i2l, 1) := by decide +kernel
theorem dX8_solved_50 : decode cX8_solved 50 = .ok (.goto 37, 3) := by decide +kernel
theorem dX8_solved_53 : decode cX8_solved 53 = .ok (.iload_n 1, 1) := by decide +kernel
theorem dX8_solved_54 : decode cX8_solved 54 = .ok (.iconst 1, 1) := by decide +kernel
theorem dX8_solved_55 : decode cX8_solved 55 = .ok (.if_icmp .ne 11, 3) := by decide +kernel
theorem dX8_solved_58 : decode cX8_solved 58 = .ok (.aload_n 0, 1) := by decide +kernel
theorem dX8_solved_59 : decode cX8_solved 59 = .ok (.getfield 240, 3) := by decide +kernel
theorem dX8_solved_62 : decode cX8_solved 62 = .ok (.i2l, 1) := by decide +kernel
theorem dX8_solved_63 : decode cX8_solved 63 = .ok (.goto 24, 3) := by decide +kernel
theorem dX8_solved_66 : decode cX8_solved 66 = .ok (.iload_n 1, 1) := by decide +kernel
theorem dX8_solved_67 : decode cX8_solved 67 = .ok (.iconst 2, 1) := by decide +kernel
theorem dX8_solved_68 : decode cX8_solved 68 = .ok (.if_icmp .ne 11, 3) := by decide +kernel
theorem dX8_solved_71 : decode cX8_solved 71 = .ok (.aload_n 0, 1) := by decide +kernel
theorem dX8_solved_72 : decode cX8_solved 72 = .ok (.getfield 243, 3) := by decide +kernel
theorem dX8_solved_75 : decode cX8_solved 75 = .ok (.i2l, 1) := by decide +kernel
theorem dX8_solved_76 : decode cX8_solved 76 = .ok (.goto 11, 3) := by decide +kernel
theorem dX8_solved_79 : decode cX8_solved 79 = .ok (.aload_n 0, 1) := by decide +kernel
theorem dX8_solved_80 : decode cX8_solved 80 = .ok (.getfield 38, 3) := by decide +kernel
theorem dX8_solved_83 : decode cX8_solved 83 = .ok (.iload_n 1, 1) := by decide +kernel
theorem dX8_solved_84 : decode cX8_solved 84 = .ok (.iconst 3, 1) := by decide +kernel
theorem dX8_solved_85 : decode cX8_solved 85 = .ok (.isub, 1) := by decide +kernel
theorem dX8_solved_86 : decode cX8_solved 86 = .ok (.laload, 1) := by decide +kernel
theorem dX8_solved_87 : decode cX8_solved 87 = .ok (.lreturn, 1) := by decide +kernel
theorem dX8_width_0 : decode cX8_width 0 = .ok (.aload_n 0, 1) := by decide +kernel
theorem dX8_width_1 : decode cX8_width 1 = .ok (.iconst 0, 1) := by decide +kernel
theorem dX8_width_2 : decode cX8_width 2 = .ok (.putfield 70, 3) := by decide +kernel
theorem dX8_width_5 : decode cX8_width 5 = .ok (.iload_n 1, 1) := by decide +kernel
theorem dX8_width_6 : decode cX8_width 6 = .ok (.i2l, 1) := by decide +kernel
theorem dX8_width_7 : decode cX8_width 7 = .ok (.lconst 0, 1) := by decide +kernel
theorem dX8_width_8 : decode cX8_width 8 = .ok (.ldc2_w 156, 3) := by decide +kernel
theorem dX8_width_11 : decode cX8_width 11 = .ok (.invokestatic 150, 3) := by decide +kernel
theorem dX8_width_14 : decode cX8_width 14 = .ok (.ifCond .ne 7, 3) := by decide +kernel
theorem dX8_width_17 : decode cX8_width 17 = .ok (.ldc2_w 174, 3) := by decide +kernel
theorem dX8_width_20 : decode cX8_width 20 = .ok (.lreturn, 1) := by decide +kernel
theorem dX8_width_21 : decode cX8_width 21 = .ok (.iload_n 2, 1) := by decide +kernel
theorem dX8_width_22 : decode cX8_width 22 = .ok (.ifCond .ne 10, 3) := by decide +kernel
theorem dX8_width_25 : decode cX8_width 25 = .ok (.aload_n 0, 1) := by decide +kernel
theorem dX8_width_26 : decode cX8_width 26 = .ok (.iconst 1, 1) := by decide +kernel
theorem dX8_width_27 : decode cX8_width 27 = .ok (.putfield 70, 3) := by decide +kernel
theorem dX8_width_30 : decode cX8_width 30 = .ok (.lconst 0, 1) := by decide +kernel
theorem dX8_width_31 : decode cX8_width 31 = .ok (.lreturn, 1) := by decide +kernel
theorem dX8_width_32 : decode cX8_width 32 = .ok (.aload_n 0, 1) := by decide +kernel
theorem dX8_width_33 : decode cX8_width 33 = .ok (.getfield 32, 3) := by decide +kernel
theorem dX8_width_36 : decode cX8_width 36 = .ok (.iload_n 1, 1) := by decide +kernel
theorem dX8_width_37 : decode cX8_width 37 = .ok (.laload, 1) := by decide +kernel
theorem dX8_width_38 : decode cX8_width 38 = .ok (.aload_n 0, 1) := by decide +kernel
theorem dX8_width_39 : decode cX8_width 39 = .ok (.getfield 28, 3) := by decide +kernel
theorem dX8_width_42 : decode cX8_width 42 = .ok (.iload_n 1, 1) := by decide +kernel
theorem dX8_width_43 : decode cX8_width 43 = .ok (.laload, 1) := by decide +kernel
theorem dX8_width_44 : decode cX8_width 44 = .ok (.lsub, 1) := by decide +kernel
theorem dX8_width_45 : decode cX8_width 45 = .ok (.lconst 1, 1) := by decide +kernel
theorem dX8_width_46 : decode cX8_width 46 = .ok (.ladd, 1) := by decide +kernel
theorem dX8_width_47 : decode cX8_width 47 = .ok (.iload_n 2, 1) := by decide +kernel
theorem dX8_width_48 : decode cX8_width 48 = .ok (.i2l, 1) := by decide +kernel
theorem dX8_width_49 : decode cX8_width 49 = .ok (.ldiv, 1) := by decide +kernel
theorem dX8_width_50 : decode cX8_width 50 = .ok (.lreturn, 1) := by decide +kernel
theorem dJ6_compare_7cf53_0 : decode cJ6_compare_7cf53 0 = .ok (.iload_n 0, 1) := by decide +kernel
theorem dJ6_compare_7cf53_1 : decode cJ6_compare_7cf53 1 = .ok (.iload_n 1, 1) := by decide +kernel
theorem dJ6_compare_7cf53_2 : decode cJ6_compare_7cf53 2 = .ok (.if_icmp .ge 7, 3) := by decide +kernel
theorem dJ6_compare_7cf53_5 : decode cJ6_compare_7cf53 5 = .ok (.iconst (-1), 1) := by decide +kernel
theorem dJ6_compare_7cf53_6 : decode cJ6_compare_7cf53 6 = .ok (.goto 13, 3) := by decide +kernel
theorem dJ6_compare_7cf53_9 : decode cJ6_compare_7cf53 9 = .ok (.iload_n 0, 1) := by decide +kernel
theorem dJ6_compare_7cf53_10 : decode cJ6_compare_7cf53 10 = .ok (.iload_n 1, 1) := by decide +kernel
theorem dJ6_compare_7cf53_11 : decode cJ6_compare_7cf53 11 = .ok (.if_icmp .ne 7, 3) := by decide +kernel
theorem dJ6_compare_7cf53_14 : decode cJ6_compare_7cf53 14 = .ok (.iconst 0, 1) := by decide +kernel
theorem dJ6_compare_7cf53_15 : decode cJ6_compare_7cf53 15 = .ok (.goto 4, 3) := by decide +kernel
theorem dJ6_compare_7cf53_18 : decode cJ6_compare_7cf53 18 = .ok (.iconst 1, 1) := by decide +kernel
theorem dJ6_compare_7cf53_19 : decode cJ6_compare_7cf53 19 = .ok (.ireturn, 1) := by decide +kernel
theorem dJ6_numberOfLeadingZeros_0f7a4_0 : decode cJ6_numberOfLeadingZeros_0f7a4 0 = .ok (.iload_n 0, 1) := by decide +kernel
theorem dJ6_numberOfLeadingZeros_0f7a4_1 : decode cJ6_numberOfLeadingZeros_0f7a4 1 = .ok (.ifCond .gt 14, 3) := by decide +kernel
theorem dJ6_numberOfLeadingZeros_0f7a4_4 : decode cJ6_numberOfLeadingZeros_0f7a4 4 = .ok (.iload_n 0, 1) := by decide +kernel
theorem dJ6_numberOfLeadingZeros_0f7a4_5 : decode cJ6_numberOfLeadingZeros_0f7a4 5 = .ok (.ifCond .ne 8, 3) := by decide +kernel
theorem dJ6_numberOfLeadingZeros_0f7a4_8 : decode cJ6_numberOfLeadingZeros_0f7a4 8 = .ok (.bipush 32, 2) := by decide +kernel
theorem dJ6_numberOfLeadingZeros_0f7a4_10 : decode cJ6_numberOfLeadingZeros_0f7a4 10 = .ok (.goto 4, 3) := by decide +kernel
theorem dJ6_numberOfLeadingZeros_0f7a4_13 : decode cJ6_numberOfLeadingZeros_0f7a4 13 = .ok (.iconst 0, 1) := by decide +kernel
theorem dJ6_numberOfLeadingZeros_0f7a4_14 : decode cJ6_numberOfLeadingZeros_0f7a4 14 = .ok (.ireturn, 1) := by decide +kernel
theorem dJ6_numberOfLeadingZeros_0f7a4_15 : decode cJ6_numberOfLeadingZeros_0f7a4 15 = .ok (.bipush 31, 2) := by decide +kernel
theorem dJ6_numberOfLeadingZeros_0f7a4_17 : decode cJ6_numberOfLeadingZeros_0f7a4 17 = .ok (.istore_n 1, 1) := by decide +kernel
theorem dJ6_numberOfLeadingZeros_0f7a4_18 : decode cJ6_numberOfLeadingZeros_0f7a4 18 = .ok (.iload_n 0, 1) := by decide +kernel
theorem dJ6_numberOfLeadingZeros_0f7a4_19 : decode cJ6_numberOfLeadingZeros_0f7a4 19 = .ok (.ldc_w 264, 3) := by decide +kernel
theorem dJ6_numberOfLeadingZeros_0f7a4_22 : decode cJ6_numberOfLeadingZeros_0f7a4 22 = .ok (.if_icmp .lt 11, 3) := by decide +kernel
theorem dJ6_numberOfLeadingZeros_0f7a4_25 : decode cJ6_numberOfLeadingZeros_0f7a4 25 = .ok (.iinc 1 (-16), 3) := by decide +kernel
theorem dJ6_numberOfLeadingZeros_0f7a4_28 : decode cJ6_numberOfLeadingZeros_0f7a4 28 = .ok (.iload_n 0, 1) := by decide +kernel
theorem dJ6_numberOfLeadingZeros_0f7a4_29 : decode cJ6_numberOfLeadingZeros_0f7a4 29 = .ok (.bipush 16, 2) := by decide +kernel
theorem dJ6_numberOfLeadingZeros_0f7a4_31 : decode cJ6_numberOfLeadingZeros_0f7a4 31 = .ok (.iushr, 1) := by decide +kernel
theorem dJ6_numberOfLeadingZeros_0f7a4_32 : decode cJ6_numberOfLeadingZeros_0f7a4 32 = .ok (.istore_n 0, 1) := by decide +kernel
theorem dJ6_numberOfLeadingZeros_0f7a4_33 : decode cJ6_numberOfLeadingZeros_0f7a4 33 = .ok (.iload_n 0, 1) := by decide +kernel
theorem dJ6_numberOfLeadingZeros_0f7a4_34 : decode cJ6_numberOfLeadingZeros_0f7a4 34 = .ok (.sipush 256, 3) := by decide +kernel
theorem dJ6_numberOfLeadingZeros_0f7a4_37 : decode cJ6_numberOfLeadingZeros_0f7a4 37 = .ok (.if_icmp .lt 11, 3) := by decide +kernel
theorem dJ6_numberOfLeadingZeros_0f7a4_40 : decode cJ6_numberOfLeadingZeros_0f7a4 40 = .ok (.iinc 1 (-8), 3) := by decide +kernel
theorem dJ6_numberOfLeadingZeros_0f7a4_43 : decode cJ6_numberOfLeadingZeros_0f7a4 43 = .ok (.iload_n 0, 1) := by decide +kernel
theorem dJ6_numberOfLeadingZeros_0f7a4_44 : decode cJ6_numberOfLeadingZeros_0f7a4 44 = .ok (.bipush 8, 2) := by decide +kernel
theorem dJ6_numberOfLeadingZeros_0f7a4_46 : decode cJ6_numberOfLeadingZeros_0f7a4 46 = .ok (.iushr, 1) := by decide +kernel
theorem dJ6_numberOfLeadingZeros_0f7a4_47 : decode cJ6_numberOfLeadingZeros_0f7a4 47 = .ok (.istore_n 0, 1) := by decide +kernel
theorem dJ6_numberOfLeadingZeros_0f7a4_48 : decode cJ6_numberOfLeadingZeros_0f7a4 48 = .ok (.iload_n 0, 1) := by decide +kernel
theorem dJ6_numberOfLeadingZeros_0f7a4_49 : decode cJ6_numberOfLeadingZeros_0f7a4 49 = .ok (.bipush 16, 2) := by decide +kernel
theorem dJ6_numberOfLeadingZeros_0f7a4_51 : decode cJ6_numberOfLeadingZeros_0f7a4 51 = .ok (.if_icmp .lt 10, 3) := by decide +kernel
theorem dJ6_numberOfLeadingZeros_0f7a4_54 : decode cJ6_numberOfLeadingZeros_0f7a4 54 = .ok (.iinc 1 (-4), 3) := by decide +kernel
theorem dJ6_numberOfLeadingZeros_0f7a4_57 : decode cJ6_numberOfLeadingZeros_0f7a4 57 = .ok (.iload_n 0, 1) := by decide +kernel
theorem dJ6_numberOfLeadingZeros_0f7a4_58 : decode cJ6_numberOfLeadingZeros_0f7a4 58 = .ok (.iconst 4, 1) := by decide +kernel
theorem dJ6_numberOfLeadingZeros_0f7a4_59 : decode cJ6_numberOfLeadingZeros_0f7a4 59 = .ok (.iushr, 1) := by decide +kernel
theorem dJ6_numberOfLeadingZeros_0f7a4_60 : decode cJ6_numberOfLeadingZeros_0f7a4 60 = .ok (.istore_n 0, 1) := by decide +kernel
theorem dJ6_numberOfLeadingZeros_0f7a4_61 : decode cJ6_numberOfLeadingZeros_0f7a4 61 = .ok (.iload_n 0, 1) := by decide +kernel
theorem dJ6_numberOfLeadingZeros_0f7a4_62 : decode cJ6_numberOfLeadingZeros_0f7a4 62 = .ok (.iconst 4, 1) := by decide +kernel
theorem dJ6_numberOfLeadingZeros_0f7a4_63 : decode cJ6_numberOfLeadingZeros_0f7a4 63 = .ok (.if_icmp .lt 10, 3) := by decide +kernel
theorem dJ6_numberOfLeadingZeros_0f7a4_66 : decode cJ6_numberOfLeadingZeros_0f7a4 66 = .ok (.iinc 1 (-2), 3) := by decide +kernel
theorem dJ6_numberOfLeadingZeros_0f7a4_69 : decode cJ6_numberOfLeadingZeros_0f7a4 69 = .ok (.iload_n 0, 1) := by decide +kernel
theorem dJ6_numberOfLeadingZeros_0f7a4_70 : decode cJ6_numberOfLeadingZeros_0f7a4 70 = .ok (.iconst 2, 1) := by decide +kernel
theorem dJ6_numberOfLeadingZeros_0f7a4_71 : decode cJ6_numberOfLeadingZeros_0f7a4 71 = .ok (.iushr, 1) := by decide +kernel
theorem dJ6_numberOfLeadingZeros_0f7a4_72 : decode cJ6_numberOfLeadingZeros_0f7a4 72 = .ok (.istore_n 0, 1) := by decide +kernel
theorem dJ6_numberOfLeadingZeros_0f7a4_73 : decode cJ6_numberOfLeadingZeros_0f7a4 73 = .ok (.iload_n 1, 1) := by decide +kernel
theorem dJ6_numberOfLeadingZeros_0f7a4_74 : decode cJ6_numberOfLeadingZeros_0f7a4 74 = .ok (.iload_n 0, 1) := by decide +kernel
theorem dJ6_numberOfLeadingZeros_0f7a4_75 : decode cJ6_numberOfLeadingZeros_0f7a4 75 = .ok (.iconst 1, 1) := by decide +kernel
theorem dJ6_numberOfLeadingZeros_0f7a4_76 : decode cJ6_numberOfLeadingZeros_0f7a4 76 = .ok (.iushr, 1) := by decide +kernel
theorem dJ6_numberOfLeadingZeros_0f7a4_77 : decode cJ6_numberOfLeadingZeros_0f7a4 77 = .ok (.isub, 1) := by decide +kernel
theorem dJ6_numberOfLeadingZeros_0f7a4_78 : decode cJ6_numberOfLeadingZeros_0f7a4 78 = .ok (.ireturn, 1) := by decide +kernel
theorem dJ13_numberOfLeadingZeros_95d88_0 : decode cJ13_numberOfLeadingZeros_95d88 0 = .ok (.lload_n 0, 1) := by decide +kernel
theorem dJ13_numberOfLeadingZeros_95d88_1 : decode cJ13_numberOfLeadingZeros_95d88 1 = .ok (.bipush 32, 2) := by decide +kernel
theorem dJ13_numberOfLeadingZeros_95d88_3 : decode cJ13_numberOfLeadingZeros_95d88 3 = .ok (.lushr, 1) := by decide +kernel
theorem dJ13_numberOfLeadingZeros_95d88_4 : decode cJ13_numberOfLeadingZeros_95d88 4 = .ok (.l2i, 1) := by decide +kernel
theorem dJ13_numberOfLeadingZeros_95d88_5 : decode cJ13_numberOfLeadingZeros_95d88 5 = .ok (.istore_n 2, 1) := by decide +kernel
theorem dJ13_numberOfLeadingZeros_95d88_6 : decode cJ13_numberOfLeadingZeros_95d88 6 = .ok (.iload_n 2, 1) := by decide +kernel
theorem dJ13_numberOfLeadingZeros_95d88_7 : decode cJ13_numberOfLeadingZeros_95d88 7 = .ok (.ifCond .ne 14, 3) := by decide +kernel
theorem dJ13_numberOfLeadingZeros_95d88_10 : decode cJ13_numberOfLeadingZeros_95d88 10 = .ok (.bipush 32, 2) := by decide +kernel
theorem dJ13_numberOfLeadingZeros_95d88_12 : decode cJ13_numberOfLeadingZeros_95d88 12 = .ok (.lload_n 0, 1) := by decide +kernel
theorem dJ13_numberOfLeadingZeros_95d88_13 : decode cJ13_numberOfLeadingZeros_95d88 13 = .ok (.l2i, 1) := by decide +kernel
theorem dJ13_numberOfLeadingZeros_95d88_14 : decode cJ13_numberOfLeadingZeros_95d88 14 = .ok (.invokestatic 308, 3) := by decide +kernel
theorem dJ13_numberOfLeadingZeros_95d88_17 : decode cJ13_numberOfLeadingZeros_95d88 17 = .ok (.iadd, 1) := by decide +kernel
theorem dJ13_numberOfLeadingZeros_95d88_18 : decode cJ13_numberOfLeadingZeros_95d88 18 = .ok (.goto 7, 3) := by decide +kernel
theorem dJ13_numberOfLeadingZeros_95d88_21 : decode cJ13_numberOfLeadingZeros_95d88 21 = .ok (.iload_n 2, 1) := by decide +kernel
theorem dJ13_numberOfLeadingZeros_95d88_22 : decode cJ13_numberOfLeadingZeros_95d88 22 = .ok (.invokestatic 308, 3) := by decide +kernel
theorem dJ13_numberOfLeadingZeros_95d88_25 : decode cJ13_numberOfLeadingZeros_95d88 25 = .ok (.ireturn, 1) := by decide +kernel
theorem dJ9_abs_0f7a4_0 : decode cJ9_abs_0f7a4 0 = .ok (.iload_n 0, 1) := by decide +kernel
theorem dJ9_abs_0f7a4_1 : decode cJ9_abs_0f7a4 1 = .ok (.ifCond .ge 8, 3) := by decide +kernel
theorem dJ9_abs_0f7a4_4 : decode cJ9_abs_0f7a4 4 = .ok (.iload_n 0, 1) := by decide +kernel
theorem dJ9_abs_0f7a4_5 : decode cJ9_abs_0f7a4 5 = .ok (.ineg, 1) := by decide +kernel
theorem dJ9_abs_0f7a4_6 : decode cJ9_abs_0f7a4 6 = .ok (.goto 4, 3) := by decide +kernel
theorem dJ9_abs_0f7a4_9 : decode cJ9_abs_0f7a4 9 = .ok (.iload_n 0, 1) := by decide +kernel
theorem dJ9_abs_0f7a4_10 : decode cJ9_abs_0f7a4 10 = .ok (.ireturn, 1) := by decide +kernel
theorem dJ9_abs_067f4_0 : decode cJ9_abs_067f4 0 = .ok (.lload_n 0, 1) := by decide +kernel
theorem dJ9_abs_067f4_1 : decode cJ9_abs_067f4 1 = .ok (.lconst 0, 1) := by decide +kernel
theorem dJ9_abs_067f4_2 : decode cJ9_abs_067f4 2 = .ok (.lcmp, 1) := by decide +kernel
theorem dJ9_abs_067f4_3 : decode cJ9_abs_067f4 3 = .ok (.ifCond .ge 8, 3) := by decide +kernel
theorem dJ9_abs_067f4_6 : decode cJ9_abs_067f4 6 = .ok (.lload_n 0, 1) := by decide +kernel
theorem dJ9_abs_067f4_7 : decode cJ9_abs_067f4 7 = .ok (.lneg, 1) := by decide +kernel
theorem dJ9_abs_067f4_8 : decode cJ9_abs_067f4 8 = .ok (.goto 4, 3) := by decide +kernel
theorem dJ9_abs_067f4_11 : decode cJ9_abs_067f4 11 = .ok (.lload_n 0, 1) := by decide +kernel
theorem dJ9_abs_067f4_12 : decode cJ9_abs_067f4 12 = .ok (.lreturn, 1) := by decide +kernel
theorem dJ9_max_7cf53_0 : decode cJ9_max_7cf53 0 = .ok (.iload_n 0, 1) := by decide +kernel
theorem dJ9_max_7cf53_1 : decode cJ9_max_7cf53 1 = .ok (.iload_n 1, 1) := by decide +kernel
theorem dJ9_max_7cf53_2 : decode cJ9_max_7cf53 2 = .ok (.if_icmp .lt 7, 3) := by decide +kernel
theorem dJ9_max_7cf53_5 : decode cJ9_max_7cf53 5 = .ok (.iload_n 0, 1) := by decide +kernel
theorem dJ9_max_7cf53_6 : decode cJ9_max_7cf53 6 = .ok (.goto 4, 3) := by decide +kernel
theorem dJ9_max_7cf53_9 : decode cJ9_max_7cf53 9 = .ok (.iload_n 1, 1) := by decide +kernel
theorem dJ9_max_7cf53_10 : decode cJ9_max_7cf53 10 = .ok (.ireturn, 1) := by decide +kernel
theorem dJ9_min_7cf53_0 : decode cJ9_min_7cf53 0 = .ok (.iload_n 0, 1) := by decide +kernel
theorem dJ9_min_7cf53_1 : decode cJ9_min_7cf53 1 = .ok (.iload_n 1, 1) := by decide +kernel
theorem dJ9_min_7cf53_2 : decode cJ9_min_7cf53 2 = .ok (.if_icmp .gt 7, 3) := by decide +kernel
theorem dJ9_min_7cf53_5 : decode cJ9_min_7cf53 5 = .ok (.iload_n 0, 1) := by decide +kernel
theorem dJ9_min_7cf53_6 : decode cJ9_min_7cf53 6 = .ok (.goto 4, 3) := by decide +kernel
theorem dJ9_min_7cf53_9 : decode cJ9_min_7cf53 9 = .ok (.iload_n 1, 1) := by decide +kernel
theorem dJ9_min_7cf53_10 : decode cJ9_min_7cf53 10 = .ok (.ireturn, 1) := by decide +kernel
theorem dJ7_fill_53178_0 : decode cJ7_fill_53178 0 = .ok (.iconst 0, 1) := by decide +kernel
theorem dJ7_fill_53178_1 : decode cJ7_fill_53178 1 = .ok (.istore_n 2, 1) := by decide +kernel
theorem dJ7_fill_53178_2 : decode cJ7_fill_53178 2 = .ok (.aload_n 0, 1) := by decide +kernel
theorem dJ7_fill_53178_3 : decode cJ7_fill_53178 3 = .ok (.arraylength, 1) := by decide +kernel
theorem dJ7_fill_53178_4 : decode cJ7_fill_53178 4 = .ok (.istore_n 3, 1) := by decide +kernel
theorem dJ7_fill_53178_5 : decode cJ7_fill_53178 5 = .ok (.iload_n 2, 1) := by decide +kernel
theorem dJ7_fill_53178_6 : decode cJ7_fill_53178 6 = .ok (.iload_n 3, 1) := by decide +kernel
theorem dJ7_fill_53178_7 : decode cJ7_fill_53178 7 = .ok (.if_icmp .ge 13, 3) := by decide +kernel
theorem dJ7_fill_53178_10 : decode cJ7_fill_53178 10 = .ok (.aload_n 0, 1) := by decide +kernel
theorem dJ7_fill_53178_11 : decode cJ7_fill_53178 11 = .ok (.iload_n 2, 1) := by decide +kernel
theorem dJ7_fill_53178_12 : decode cJ7_fill_53178 12 = .ok (.iload_n 1, 1) := by decide +kernel
theorem dJ7_fill_53178_13 : decode cJ7_fill_53178 13 = .ok (.iastore, 1) := by decide +kernel
theorem dJ7_fill_53178_14 : decode cJ7_fill_53178 14 = .ok (.iinc 2 1, 3) := by decide +kernel
theorem dJ7_fill_53178_17 : decode cJ7_fill_53178 17 = .ok (.goto (-12), 3) := by decide +kernel
theorem dJ7_fill_53178_20 : decode cJ7_fill_53178 20 = .ok (.return_, 1) := by decide +kernel
theorem dL_width_0 : decode cL_width 0 = .ok (.aload_n 3, 1) := by decide +kernel
theorem dL_width_1 : decode cL_width 1 = .ok (.iconst 0, 1) := by decide +kernel
theorem dL_width_2 : decode cL_width 2 = .ok (.aload_n 0, 1) := by decide +kernel
theorem dL_width_3 : decode cL_width 3 = .ok (.iload_n 1, 1) := by decide +kernel
theorem dL_width_4 : decode cL_width 4 = .ok (.iload_n 2, 1) := by decide +kernel
theorem dL_width_5 : decode cL_width 5 = .ok (.invokevirtual 7, 3) := by decide +kernel
theorem dL_width_8 : decode cL_width 8 = .ok (.lastore, 1) := by decide +kernel
theorem dL_width_9 : decode cL_width 9 = .ok (.goto 7, 3) := by decide +kernel
theorem dL_width_12 : decode cL_width 12 = .ok (.astore 4, 2) := by decide +kernel
theorem dL_width_14 : decode cL_width 14 = .ok (.iconst 1, 1) := by decide +kernel
theorem dL_width_15 : decode cL_width 15 = .ok (.ireturn, 1) := by decide +kernel
theorem dL_width_16 : decode cL_width 16 = .ok (.iconst 0, 1) := by decide +kernel
theorem dL_width_17 : decode cL_width 17 = .ok (.ireturn, 1) := by decide +kernel
theorem dL_law_0 : decode cL_law 0 = .ok (.new 8, 3) := by decide +kernel
theorem dL_law_3 : decode cL_law 3 = .ok (.dup, 1) := by decide +kernel
theorem dL_law_4 : decode cL_law 4 = .ok (.invokespecial 15, 3) := by decide +kernel
theorem dL_law_7 : decode cL_law 7 = .ok (.astore_n 1, 1) := by decide +kernel
theorem dL_law_8 : decode cL_law 8 = .ok (.new 16, 3) := by decide +kernel
theorem dL_law_11 : decode cL_law 11 = .ok (.dup, 1) := by decide +kernel
theorem dL_law_12 : decode cL_law 12 = .ok (.invokespecial 18, 3) := by decide +kernel
theorem dL_law_15 : decode cL_law 15 = .ok (.astore_n 2, 1) := by decide +kernel
theorem dL_law_16 : decode cL_law 16 = .ok (.iconst 1, 1) := by decide +kernel
theorem dL_law_17 : decode cL_law 17 = .ok (.newarray .long, 2) := by decide +kernel
theorem dL_law_19 : decode cL_law 19 = .ok (.astore_n 3, 1) := by decide +kernel
theorem dL_law_20 : decode cL_law 20 = .ok (.iconst 0, 1) := by decide +kernel
theorem dL_law_21 : decode cL_law 21 = .ok (.istore 4, 2) := by decide +kernel
theorem dL_law_23 : decode cL_law 23 = .ok (.iload 4, 2) := by decide +kernel
theorem dL_law_25 : decode cL_law 25 = .ok (.aload_n 0, 1) := by decide +kernel
theorem dL_law_26 : decode cL_law 26 = .ok (.arraylength, 1) := by decide +kernel
theorem dL_law_27 : decode cL_law 27 = .ok (.iconst 4, 1) := by decide +kernel
theorem dL_law_28 : decode cL_law 28 = .ok (.isub, 1) := by decide +kernel
theorem dL_law_29 : decode cL_law 29 = .ok (.if_icmp .gt 535, 3) := by decide +kernel
theorem dL_law_32 : decode cL_law 32 = .ok (.aload_n 0, 1) := by decide +kernel
theorem dL_law_33 : decode cL_law 33 = .ok (.iload 4, 2) := by decide +kernel
theorem dL_law_35 : decode cL_law 35 = .ok (.iaload, 1) := by decide +kernel
theorem dL_law_36 : decode cL_law 36 = .ok (.bipush 15, 2) := by decide +kernel
theorem dL_law_38 : decode cL_law 38 = .ok (.iand, 1) := by decide +kernel
theorem dL_law_39 : decode cL_law 39 = .ok (.tableswitch 519 0 13 #[69, 118, 167, 180, 229, 266, 291, 316, 341, 366, 403, 428, 453, 479], 69) := by decide +kernel
theorem dL_law_108 : decode cL_law 108 = .ok (.aload_n 1, 1) := by decide +kernel
theorem dL_law_109 : decode cL_law 109 = .ok (.aload_n 0, 1) := by decide +kernel
theorem dL_law_110 : decode cL_law 110 = .ok (.iload 4, 2) := by decide +kernel
theorem dL_law_112 : decode cL_law 112 = .ok (.iconst 1, 1) := by decide +kernel
theorem dL_law_113 : decode cL_law 113 = .ok (.iadd, 1) := by decide +kernel
theorem dL_law_114 : decode cL_law 114 = .ok (.iaload, 1) := by decide +kernel
theorem dL_law_115 : decode cL_law 115 = .ok (.aload_n 0, 1) := by decide +kernel
theorem dL_law_116 : decode cL_law 116 = .ok (.iload 4, 2) := by decide +kernel
theorem dL_law_118 : decode cL_law 118 = .ok (.iconst 2, 1) := by decide +kernel
theorem dL_law_119 : decode cL_law 119 = .ok (.iadd, 1) := by decide +kernel
theorem dL_law_120 : decode cL_law 120 = .ok (.iaload, 1) := by decide +kernel
theorem dL_law_121 : decode cL_law 121 = .ok (.aload_n 0, 1) := by decide +kernel
theorem dL_law_122 : decode cL_law 122 = .ok (.iload 4, 2) := by decide +kernel
theorem dL_law_124 : decode cL_law 124 = .ok (.iconst 3, 1) := by decide +kernel
theorem dL_law_125 : decode cL_law 125 = .ok (.iadd, 1) := by decide +kernel
theorem dL_law_126 : decode cL_law 126 = .ok (.iaload, 1) := by decide +kernel
theorem dL_law_127 : decode cL_law 127 = .ok (.invokevirtual 19, 3) := by decide +kernel
theorem dL_law_130 : decode cL_law 130 = .ok (.pop, 1) := by decide +kernel
theorem dL_law_131 : decode cL_law 131 = .ok (.aload_n 2, 1) := by decide +kernel
theorem dL_law_132 : decode cL_law 132 = .ok (.aload_n 0, 1) := by decide +kernel
theorem dL_law_133 : decode cL_law 133 = .ok (.iload 4, 2) := by decide +kernel
theorem dL_law_135 : decode cL_law 135 = .ok (.iconst 1, 1) := by decide +kernel
theorem dL_law_136 : decode cL_law 136 = .ok (.iadd, 1) := by decide +kernel
theorem dL_law_137 : decode cL_law 137 = .ok (.iaload, 1) := by decide +kernel
theorem dL_law_138 : decode cL_law 138 = .ok (.aload_n 0, 1) := by decide +kernel
theorem dL_law_139 : decode cL_law 139 = .ok (.iload 4, 2) := by decide +kernel
theorem dL_law_141 : decode cL_law 141 = .ok (.iconst 2, 1) := by decide +kernel
theorem dL_law_142 : decode cL_law 142 = .ok (.iadd, 1) := by decide +kernel
theorem dL_law_143 : decode cL_law 143 = .ok (.iaload, 1) := by decide +kernel
theorem dL_law_144 : decode cL_law 144 = .ok (.aload_n 0, 1) := by decide +kernel
theorem dL_law_145 : decode cL_law 145 = .ok (.iload 4, 2) := by decide +kernel
theorem dL_law_147 : decode cL_law 147 = .ok (.iconst 3, 1) := by decide +kernel
theorem dL_law_148 : decode cL_law 148 = .ok (.iadd, 1) := by decide +kernel
theorem dL_law_149 : decode cL_law 149 = .ok (.iaload, 1) := by decide +kernel
theorem dL_law_150 : decode cL_law 150 = .ok (.invokevirtual 23, 3) := by decide +kernel
theorem dL_law_153 : decode cL_law 153 = .ok (.pop, 1) := by decide +kernel
theorem dL_law_154 : decode cL_law 154 = .ok (.goto 404, 3) := by decide +kernel
theorem dL_law_157 : decode cL_law 157 = .ok (.aload_n 1, 1) := by decide +kernel
theorem dL_law_158 : decode cL_law 158 = .ok (.aload_n 0, 1) := by decide +kernel
theorem dL_law_159 : decode cL_law 159 = .ok (.iload 4, 2) := by decide +kernel
theorem dL_law_161 : decode cL_law 161 = .ok (.iconst 1, 1) := by decide +kernel
theorem dL_law_162 : decode cL_law 162 = .ok (.iadd, 1) := by decide +kernel
theorem dL_law_163 : decode cL_law 163 = .ok (.iaload, 1) := by decide +kernel
theorem dL_law_164 : decode cL_law 164 = .ok (.aload_n 0, 1) := by decide +kernel
theorem dL_law_165 : decode cL_law 165 = .ok (.iload 4, 2) := by decide +kernel
theorem dL_law_167 : decode cL_law 167 = .ok (.iconst 2, 1) := by decide +kernel
theorem dL_law_168 : decode cL_law 168 = .ok (.iadd, 1) := by decide +kernel
theorem dL_law_169 : decode cL_law 169 = .ok (.iaload, 1) := by decide +kernel
theorem dL_law_170 : decode cL_law 170 = .ok (.aload_n 0, 1) := by decide +kernel
theorem dL_law_171 : decode cL_law 171 = .ok (.iload 4, 2) := by decide +kernel
theorem dL_law_173 : decode cL_law 173 = .ok (.iconst 3, 1) := by decide +kernel
theorem dL_law_174 : decode cL_law 174 = .ok (.iadd, 1) := by decide +kernel
theorem dL_law_175 : decode cL_law 175 = .ok (.iaload, 1) := by decide +kernel
theorem dL_law_176 : decode cL_law 176 = .ok (.invokevirtual 24, 3) := by decide +kernel
theorem dL_law_179 : decode cL_law 179 = .ok (.pop, 1) := by decide +kernel
theorem dL_law_180 : decode cL_law 180 = .ok (.aload_n 2, 1) := by decide +kernel
theorem dL_law_181 : decode cL_law 181 = .ok (.aload_n 0, 1) := by decide +kernel
theorem dL_law_182 : decode cL_law 182 = .ok (.iload 4, 2) := by decide +kernel
theorem dL_law_184 : decode cL_law 184 = .ok (.iconst 1, 1) := by decide +kernel
theorem dL_law_185 : decode cL_law 185 = .ok (.iadd, 1) := by decide +kernel
theorem dL_law_186 : decode cL_law 186 = .ok (.iaload, 1) := by decide +kernel
theorem dL_law_187 : decode cL_law 187 = .ok (.aload_n 0, 1) := by decide +kernel
theorem dL_law_188 : decode cL_law 188 = .ok (.iload 4, 2) := by decide +kernel
theorem dL_law_190 : decode cL_law 190 = .ok (.iconst 2, 1) := by decide +kernel
theorem dL_law_191 : decode cL_law 191 = .ok (.iadd, 1) := by decide +kernel
theorem dL_law_192 : decode cL_law 192 = .ok (.iaload, 1) := by decide +kernel
theorem dL_law_193 : decode cL_law 193 = .ok (.aload_n 0, 1) := by decide +kernel
theorem dL_law_194 : decode cL_law 194 = .ok (.iload 4, 2) := by decide +kernel
theorem dL_law_196 : decode cL_law 196 = .ok (.iconst 3, 1) := by decide +kernel
theorem dL_law_197 : decode cL_law 197 = .ok (.iadd, 1) := by decide +kernel
theorem dL_law_198 : decode cL_law 198 = .ok (.iaload, 1) := by decide +kernel
theorem dL_law_199 : decode cL_law 199 = .ok (.invokevirtual 27, 3) := by decide +kernel
theorem dL_law_202 : decode cL_law 202 = .ok (.pop, 1) := by decide +kernel
theorem dL_law_203 : decode cL_law 203 = .ok (.goto 355, 3) := by decide +kernel
theorem dL_law_206 : decode cL_law 206 = .ok (.aload_n 1, 1) := by decide +kernel
theorem dL_law_207 : decode cL_law 207 = .ok (.invokevirtual 28, 3) := by decide +kernel
theorem dL_law_210 : decode cL_law 210 = .ok (.pop, 1) := by decide +kernel
theorem dL_law_211 : decode cL_law 211 = .ok (.aload_n 2, 1) := by decide +kernel
theorem dL_law_212 : decode cL_law 212 = .ok (.invokevirtual 32, 3) := by decide +kernel
theorem dL_law_215 : decode cL_law 215 = .ok (.pop, 1) := by decide +kernel
theorem dL_law_216 : decode cL_law 216 = .ok (.goto 342, 3) := by decide +kernel
theorem dL_law_219 : decode cL_law 219 = .ok (.aload_n 1, 1) := by decide +kernel
theorem dL_law_220 : decode cL_law 220 = .ok (.aload_n 0, 1) := by decide +kernel
theorem dL_law_221 : decode cL_law 221 = .ok (.iload 4, 2) := by decide +kernel
theorem dL_law_223 : decode cL_law 223 = .ok (.iconst 1, 1) := by decide +kernel
theorem dL_law_224 : decode cL_law 224 = .ok (.iadd, 1) := by decide +kernel
theorem dL_law_225 : decode cL_law 225 = .ok (.iaload, 1) := by decide +kernel
theorem dL_law_226 : decode cL_law 226 = .ok (.aload_n 0, 1) := by decide +kernel
theorem dL_law_227 : decode cL_law 227 = .ok (.iload 4, 2) := by decide +kernel
theorem dL_law_229 : decode cL_law 229 = .ok (.iconst 2, 1) := by decide +kernel
theorem dL_law_230 : decode cL_law 230 = .ok (.iadd, 1) := by decide +kernel
theorem dL_law_231 : decode cL_law 231 = .ok (.iaload, 1) := by decide +kernel
theorem dL_law_232 : decode cL_law 232 = .ok (.aload_n 0, 1) := by decide +kernel
theorem dL_law_233 : decode cL_law 233 = .ok (.iload 4, 2) := by decide +kernel
theorem dL_law_235 : decode cL_law 235 = .ok (.iconst 3, 1) := by decide +kernel
theorem dL_law_236 : decode cL_law 236 = .ok (.iadd, 1) := by decide +kernel
theorem dL_law_237 : decode cL_law 237 = .ok (.iaload, 1) := by decide +kernel
theorem dL_law_238 : decode cL_law 238 = .ok (.invokevirtual 33, 3) := by decide +kernel
theorem dL_law_241 : decode cL_law 241 = .ok (.pop, 1) := by decide +kernel
theorem dL_law_242 : decode cL_law 242 = .ok (.aload_n 2, 1) := by decide +kernel
theorem dL_law_243 : decode cL_law 243 = .ok (.aload_n 0, 1) := by decide +kernel
theorem dL_law_244 : decode cL_law 244 = .ok (.iload 4, 2) := by decide +kernel
theorem dL_law_246 : decode cL_law 246 = .ok (.iconst 1, 1) := by decide +kernel
theorem dL_law_247 : decode cL_law 247 = .ok (.iadd, 1) := by decide +kernel
theorem dL_law_248 : decode cL_law 248 = .ok (.iaload, 1) := by decide +kernel
theorem dL_law_249 : decode cL_law 249 = .ok (.aload_n 0, 1) := by decide +kernel
theorem dL_law_250 : decode cL_law 250 = .ok (.iload 4, 2) := by decide +kernel
theorem dL_law_252 : decode cL_law 252 = .ok (.iconst 2, 1) := by decide +kernel
theorem dL_law_253 : decode cL_law 253 = .ok (.iadd, 1) := by decide +kernel
theorem dL_law_254 : decode cL_law 254 = .ok (.iaload, 1) := by decide +kernel
theorem dL_law_255 : decode cL_law 255 = .ok (.aload_n 0, 1) := by decide +kernel
theorem dL_law_256 : decode cL_law 256 = .ok (.iload 4, 2) := by decide +kernel
theorem dL_law_258 : decode cL_law 258 = .ok (.iconst 3, 1) := by decide +kernel
theorem dL_law_259 : decode cL_law 259 = .ok (.iadd, 1) := by decide +kernel
theorem dL_law_260 : decode cL_law 260 = .ok (.iaload, 1) := by decide +kernel
theorem dL_law_261 : decode cL_law 261 = .ok (.invokevirtual 36, 3) := by decide +kernel
theorem dL_law_264 : decode cL_law 264 = .ok (.pop, 1) := by decide +kernel
theorem dL_law_265 : decode cL_law 265 = .ok (.goto 293, 3) := by decide +kernel
theorem dL_law_268 : decode cL_law 268 = .ok (.aload_n 1, 1) := by decide +kernel
theorem dL_law_269 : decode cL_law 269 = .ok (.aload_n 0, 1) := by decide +kernel
theorem dL_law_270 : decode cL_law 270 = .ok (.iload 4, 2) := by decide +kernel
theorem dL_law_272 : decode cL_law 272 = .ok (.iconst 1, 1) := by decide +kernel
theorem dL_law_273 : decode cL_law 273 = .ok (.iadd, 1) := by decide +kernel
theorem dL_law_274 : decode cL_law 274 = .ok (.iaload, 1) := by decide +kernel
theorem dL_law_275 : decode cL_law 275 = .ok (.aload_n 0, 1) := by decide +kernel
theorem dL_law_276 : decode cL_law 276 = .ok (.iload 4, 2) := by decide +kernel
theorem dL_law_278 : decode cL_law 278 = .ok (.iconst 2, 1) := by decide +kernel
theorem dL_law_279 : decode cL_law 279 = .ok (.iadd, 1) := by decide +kernel
theorem dL_law_280 : decode cL_law 280 = .ok (.iaload, 1) := by decide +kernel
theorem dL_law_281 : decode cL_law 281 = .ok (.invokevirtual 37, 3) := by decide +kernel
theorem dL_law_284 : decode cL_law 284 = .ok (.pop, 1) := by decide +kernel
theorem dL_law_285 : decode cL_law 285 = .ok (.aload_n 2, 1) := by decide +kernel
theorem dL_law_286 : decode cL_law 286 = .ok (.aload_n 0, 1) := by decide +kernel
theorem dL_law_287 : decode cL_law 287 = .ok (.iload 4, 2) := by decide +kernel
theorem dL_law_289 : decode cL_law 289 = .ok (.iconst 1, 1) := by decide +kernel
theorem dL_law_290 : decode cL_law 290 = .ok (.iadd, 1) := by decide +kernel
theorem dL_law_291 : decode cL_law 291 = .ok (.iaload, 1) := by decide +kernel
theorem dL_law_292 : decode cL_law 292 = .ok (.aload_n 0, 1) := by decide +kernel
theorem dL_law_293 : decode cL_law 293 = .ok (.iload 4, 2) := by decide +kernel
theorem dL_law_295 : decode cL_law 295 = .ok (.iconst 2, 1) := by decide +kernel
theorem dL_law_296 : decode cL_law 296 = .ok (.iadd, 1) := by decide +kernel
theorem dL_law_297 : decode cL_law 297 = .ok (.iaload, 1) := by decide +kernel
theorem dL_law_298 : decode cL_law 298 = .ok (.invokevirtual 41, 3) := by decide +kernel
theorem dL_law_301 : decode cL_law 301 = .ok (.pop, 1) := by decide +kernel
theorem dL_law_302 : decode cL_law 302 = .ok (.goto 256, 3) := by decide +kernel
theorem dL_law_305 : decode cL_law 305 = .ok (.aload_n 1, 1) := by decide +kernel
theorem dL_law_306 : decode cL_law 306 = .ok (.aload_n 0, 1) := by decide +kernel
theorem dL_law_307 : decode cL_law 307 = .ok (.iload 4, 2) := by decide +kernel
theorem dL_law_309 : decode cL_law 309 = .ok (.iconst 1, 1) := by decide +kernel
theorem dL_law_310 : decode cL_law 310 = .ok (.iadd, 1) := by decide +kernel
theorem dL_law_311 : decode cL_law 311 = .ok (.iaload, 1) := by decide +kernel
theorem dL_law_312 : decode cL_law 312 = .ok (.invokevirtual 42, 3) := by decide +kernel
theorem dL_law_315 : decode cL_law 315 = .ok (.pop2, 1) := by decide +kernel
theorem dL_law_316 : decode cL_law 316 = .ok (.aload_n 2, 1) := by decide +kernel
theorem dL_law_317 : decode cL_law 317 = .ok (.aload_n 0, 1) := by decide +kernel
theorem dL_law_318 : decode cL_law 318 = .ok (.iload 4, 2) := by decide +kernel
theorem dL_law_320 : decode cL_law 320 = .ok (.iconst 1, 1) := by decide +kernel
theorem dL_law_321 : decode cL_law 321 = .ok (.iadd, 1) := by decide +kernel
theorem dL_law_322 : decode cL_law 322 = .ok (.iaload, 1) := by decide +kernel
theorem dL_law_323 : decode cL_law 323 = .ok (.invokevirtual 46, 3) := by decide +kernel
theorem dL_law_326 : decode cL_law 326 = .ok (.pop2, 1) := by decide +kernel
theorem dL_law_327 : decode cL_law 327 = .ok (.goto 231, 3) := by decide +kernel
theorem dL_law_330 : decode cL_law 330 = .ok (.aload_n 1, 1) := by decide +kernel
theorem dL_law_331 : decode cL_law 331 = .ok (.aload_n 0, 1) := by decide +kernel
theorem dL_law_332 : decode cL_law 332 = .ok (.iload 4, 2) := by decide +kernel
theorem dL_law_334 : decode cL_law 334 = .ok (.iconst 1, 1) := by decide +kernel
theorem dL_law_335 : decode cL_law 335 = .ok (.iadd, 1) := by decide +kernel
theorem dL_law_336 : decode cL_law 336 = .ok (.iaload, 1) := by decide +kernel
theorem dL_law_337 : decode cL_law 337 = .ok (.invokevirtual 47, 3) := by decide +kernel
theorem dL_law_340 : decode cL_law 340 = .ok (.pop2, 1) := by decide +kernel
theorem dL_law_341 : decode cL_law 341 = .ok (.aload_n 2, 1) := by decide +kernel
theorem dL_law_342 : decode cL_law 342 = .ok (.aload_n 0, 1) := by decide +kernel
theorem dL_law_343 : decode cL_law 343 = .ok (.iload 4, 2) := by decide +kernel
theorem dL_law_345 : decode cL_law 345 = .ok (.iconst 1, 1) := by decide +kernel
theorem dL_law_346 : decode cL_law 346 = .ok (.iadd, 1) := by decide +kernel
theorem dL_law_347 : decode cL_law 347 = .ok (.iaload, 1) := by decide +kernel
theorem dL_law_348 : decode cL_law 348 = .ok (.invokevirtual 50, 3) := by decide +kernel
theorem dL_law_351 : decode cL_law 351 = .ok (.pop2, 1) := by decide +kernel
theorem dL_law_352 : decode cL_law 352 = .ok (.goto 206, 3) := by decide +kernel
theorem dL_law_355 : decode cL_law 355 = .ok (.aload_n 1, 1) := by decide +kernel
theorem dL_law_356 : decode cL_law 356 = .ok (.aload_n 0, 1) := by decide +kernel
theorem dL_law_357 : decode cL_law 357 = .ok (.iload 4, 2) := by decide +kernel
theorem dL_law_359 : decode cL_law 359 = .ok (.iconst 1, 1) := by decide +kernel
theorem dL_law_360 : decode cL_law 360 = .ok (.iadd, 1) := by decide +kernel
theorem dL_law_361 : decode cL_law 361 = .ok (.iaload, 1) := by decide +kernel
theorem dL_law_362 : decode cL_law 362 = .ok (.invokevirtual 51, 3) := by decide +kernel
theorem dL_law_365 : decode cL_law 365 = .ok (.pop2, 1) := by decide +kernel
theorem dL_law_366 : decode cL_law 366 = .ok (.aload_n 2, 1) := by decide +kernel
theorem dL_law_367 : decode cL_law 367 = .ok (.aload_n 0, 1) := by decide +kernel
theorem dL_law_368 : decode cL_law 368 = .ok (.iload 4, 2) := by decide +kernel
theorem dL_law_370 : decode cL_law 370 = .ok (.iconst 1, 1) := by decide +kernel
theorem dL_law_371 : decode cL_law 371 = .ok (.iadd, 1) := by decide +kernel
theorem dL_law_372 : decode cL_law 372 = .ok (.iaload, 1) := by decide +kernel
theorem dL_law_373 : decode cL_law 373 = .ok (.invokevirtual 54, 3) := by decide +kernel
theorem dL_law_376 : decode cL_law 376 = .ok (.pop2, 1) := by decide +kernel
theorem dL_law_377 : decode cL_law 377 = .ok (.goto 181, 3) := by decide +kernel
theorem dL_law_380 : decode cL_law 380 = .ok (.aload_n 1, 1) := by decide +kernel
theorem dL_law_381 : decode cL_law 381 = .ok (.aload_n 0, 1) := by decide +kernel
theorem dL_law_382 : decode cL_law 382 = .ok (.iload 4, 2) := by decide +kernel
theorem dL_law_384 : decode cL_law 384 = .ok (.iconst 1, 1) := by decide +kernel
theorem dL_law_385 : decode cL_law 385 = .ok (.iadd, 1) := by decide +kernel
theorem dL_law_386 : decode cL_law 386 = .ok (.iaload, 1) := by decide +kernel
theorem dL_law_387 : decode cL_law 387 = .ok (.invokevirtual 55, 3) := by decide +kernel
theorem dL_law_390 : decode cL_law 390 = .ok (.pop, 1) := by decide +kernel
theorem dL_law_391 : decode cL_law 391 = .ok (.aload_n 2, 1) := by decide +kernel
theorem dL_law_392 : decode cL_law 392 = .ok (.aload_n 0, 1) := by decide +kernel
theorem dL_law_393 : decode cL_law 393 = .ok (.iload 4, 2) := by decide +kernel
theorem dL_law_395 : decode cL_law 395 = .ok (.iconst 1, 1) := by decide +kernel
theorem dL_law_396 : decode cL_law 396 = .ok (.iadd, 1) := by decide +kernel
theorem dL_law_397 : decode cL_law 397 = .ok (.iaload, 1) := by decide +kernel
theorem dL_law_398 : decode cL_law 398 = .ok (.invokevirtual 59, 3) := by decide +kernel
theorem dL_law_401 : decode cL_law 401 = .ok (.pop, 1) := by decide +kernel
theorem dL_law_402 : decode cL_law 402 = .ok (.goto 156, 3) := by decide +kernel
theorem dL_law_405 : decode cL_law 405 = .ok (.aload_n 1, 1) := by decide +kernel
theorem dL_law_406 : decode cL_law 406 = .ok (.aload_n 0, 1) := by decide +kernel
theorem dL_law_407 : decode cL_law 407 = .ok (.iload 4, 2) := by decide +kernel
theorem dL_law_409 : decode cL_law 409 = .ok (.iconst 1, 1) := by decide +kernel
theorem dL_law_410 : decode cL_law 410 = .ok (.iadd, 1) := by decide +kernel
theorem dL_law_411 : decode cL_law 411 = .ok (.iaload, 1) := by decide +kernel
theorem dL_law_412 : decode cL_law 412 = .ok (.aload_n 0, 1) := by decide +kernel
theorem dL_law_413 : decode cL_law 413 = .ok (.iload 4, 2) := by decide +kernel
theorem dL_law_415 : decode cL_law 415 = .ok (.iconst 2, 1) := by decide +kernel
theorem dL_law_416 : decode cL_law 416 = .ok (.iadd, 1) := by decide +kernel
theorem dL_law_417 : decode cL_law 417 = .ok (.iaload, 1) := by decide +kernel
theorem dL_law_418 : decode cL_law 418 = .ok (.invokevirtual 60, 3) := by decide +kernel
theorem dL_law_421 : decode cL_law 421 = .ok (.pop2, 1) := by decide +kernel
theorem dL_law_422 : decode cL_law 422 = .ok (.aload_n 2, 1) := by decide +kernel
theorem dL_law_423 : decode cL_law 423 = .ok (.aload_n 0, 1) := by decide +kernel
theorem dL_law_424 : decode cL_law 424 = .ok (.iload 4, 2) := by decide +kernel
theorem dL_law_426 : decode cL_law 426 = .ok (.iconst 1, 1) := by decide +kernel
theorem dL_law_427 : decode cL_law 427 = .ok (.iadd, 1) := by decide +kernel
theorem dL_law_428 : decode cL_law 428 = .ok (.iaload, 1) := by decide +kernel
theorem dL_law_429 : decode cL_law 429 = .ok (.aload_n 0, 1) := by decide +kernel
theorem dL_law_430 : decode cL_law 430 = .ok (.iload 4, 2) := by decide +kernel
theorem dL_law_432 : decode cL_law 432 = .ok (.iconst 2, 1) := by decide +kernel
theorem dL_law_433 : decode cL_law 433 = .ok (.iadd, 1) := by decide +kernel
theorem dL_law_434 : decode cL_law 434 = .ok (.iaload, 1) := by decide +kernel
theorem dL_law_435 : decode cL_law 435 = .ok (.invokevirtual 63, 3) := by decide +kernel
theorem dL_law_438 : decode cL_law 438 = .ok (.pop2, 1) := by decide +kernel
theorem dL_law_439 : decode cL_law 439 = .ok (.goto 119, 3) := by decide +kernel
theorem dL_law_442 : decode cL_law 442 = .ok (.aload_n 1, 1) := by decide +kernel
theorem dL_law_443 : decode cL_law 443 = .ok (.aload_n 0, 1) := by decide +kernel
theorem dL_law_444 : decode cL_law 444 = .ok (.iload 4, 2) := by decide +kernel
theorem dL_law_446 : decode cL_law 446 = .ok (.iconst 1, 1) := by decide +kernel
theorem dL_law_447 : decode cL_law 447 = .ok (.iadd, 1) := by decide +kernel
theorem dL_law_448 : decode cL_law 448 = .ok (.iaload, 1) := by decide +kernel
theorem dL_law_449 : decode cL_law 449 = .ok (.invokevirtual 64, 3) := by decide +kernel
theorem dL_law_452 : decode cL_law 452 = .ok (.pop, 1) := by decide +kernel
theorem dL_law_453 : decode cL_law 453 = .ok (.aload_n 2, 1) := by decide +kernel
theorem dL_law_454 : decode cL_law 454 = .ok (.aload_n 0, 1) := by decide +kernel
theorem dL_law_455 : decode cL_law 455 = .ok (.iload 4, 2) := by decide +kernel
theorem dL_law_457 : decode cL_law 457 = .ok (.iconst 1, 1) := by decide +kernel
theorem dL_law_458 : decode cL_law 458 = .ok (.iadd, 1) := by decide +kernel
theorem dL_law_459 : decode cL_law 459 = .ok (.iaload, 1) := by decide +kernel
theorem dL_law_460 : decode cL_law 460 = .ok (.invokevirtual 67, 3) := by decide +kernel
theorem dL_law_463 : decode cL_law 463 = .ok (.pop, 1) := by decide +kernel
theorem dL_law_464 : decode cL_law 464 = .ok (.goto 94, 3) := by decide +kernel
theorem dL_law_467 : decode cL_law 467 = .ok (.aload_n 1, 1) := by decide +kernel
theorem dL_law_468 : decode cL_law 468 = .ok (.aload_n 0, 1) := by decide +kernel
theorem dL_law_469 : decode cL_law 469 = .ok (.iload 4, 2) := by decide +kernel
theorem dL_law_471 : decode cL_law 471 = .ok (.iconst 1, 1) := by decide +kernel
theorem dL_law_472 : decode cL_law 472 = .ok (.iadd, 1) := by decide +kernel
theorem dL_law_473 : decode cL_law 473 = .ok (.iaload, 1) := by decide +kernel
theorem dL_law_474 : decode cL_law 474 = .ok (.invokevirtual 68, 3) := by decide +kernel
theorem dL_law_477 : decode cL_law 477 = .ok (.pop, 1) := by decide +kernel
theorem dL_law_478 : decode cL_law 478 = .ok (.aload_n 2, 1) := by decide +kernel
theorem dL_law_479 : decode cL_law 479 = .ok (.aload_n 0, 1) := by decide +kernel
theorem dL_law_480 : decode cL_law 480 = .ok (.iload 4, 2) := by decide +kernel
theorem dL_law_482 : decode cL_law 482 = .ok (.iconst 1, 1) := by decide +kernel
theorem dL_law_483 : decode cL_law 483 = .ok (.iadd, 1) := by decide +kernel
theorem dL_law_484 : decode cL_law 484 = .ok (.iaload, 1) := by decide +kernel
theorem dL_law_485 : decode cL_law 485 = .ok (.invokevirtual 71, 3) := by decide +kernel
theorem dL_law_488 : decode cL_law 488 = .ok (.pop, 1) := by decide +kernel
theorem dL_law_489 : decode cL_law 489 = .ok (.goto 69, 3) := by decide +kernel
theorem dL_law_492 : decode cL_law 492 = .ok (.aload_n 1, 1) := by decide +kernel
theorem dL_law_493 : decode cL_law 493 = .ok (.aload_n 0, 1) := by decide +kernel
theorem dL_law_494 : decode cL_law 494 = .ok (.iload 4, 2) := by decide +kernel
theorem dL_law_496 : decode cL_law 496 = .ok (.iconst 1, 1) := by decide +kernel
theorem dL_law_497 : decode cL_law 497 = .ok (.iadd, 1) := by decide +kernel
theorem dL_law_498 : decode cL_law 498 = .ok (.iaload, 1) := by decide +kernel
theorem dL_law_499 : decode cL_law 499 = .ok (.invokevirtual 72, 3) := by decide +kernel
theorem dL_law_502 : decode cL_law 502 = .ok (.aload_n 2, 1) := by decide +kernel
theorem dL_law_503 : decode cL_law 503 = .ok (.aload_n 0, 1) := by decide +kernel
theorem dL_law_504 : decode cL_law 504 = .ok (.iload 4, 2) := by decide +kernel
theorem dL_law_506 : decode cL_law 506 = .ok (.iconst 1, 1) := by decide +kernel
theorem dL_law_507 : decode cL_law 507 = .ok (.iadd, 1) := by decide +kernel
theorem dL_law_508 : decode cL_law 508 = .ok (.iaload, 1) := by decide +kernel
theorem dL_law_509 : decode cL_law 509 = .ok (.invokevirtual 75, 3) := by decide +kernel
theorem dL_law_512 : decode cL_law 512 = .ok (.lcmp, 1) := by decide +kernel
theorem dL_law_513 : decode cL_law 513 = .ok (.ifCond .eq 45, 3) := by decide +kernel
theorem dL_law_516 : decode cL_law 516 = .ok (.iconst 0, 1) := by decide +kernel
theorem dL_law_517 : decode cL_law 517 = .ok (.ireturn, 1) := by decide +kernel
theorem dL_law_518 : decode cL_law 518 = .ok (.aload_n 1, 1) := by decide +kernel
theorem dL_law_519 : decode cL_law 519 = .ok (.aload_n 0, 1) := by decide +kernel
theorem dL_law_520 : decode cL_law 520 = .ok (.iload 4, 2) := by decide +kernel
theorem dL_law_522 : decode cL_law 522 = .ok (.iconst 1, 1) := by decide +kernel
theorem dL_law_523 : decode cL_law 523 = .ok (.iadd, 1) := by decide +kernel
theorem dL_law_524 : decode cL_law 524 = .ok (.iaload, 1) := by decide +kernel
theorem dL_law_525 : decode cL_law 525 = .ok (.aload_n 0, 1) := by decide +kernel
theorem dL_law_526 : decode cL_law 526 = .ok (.iload 4, 2) := by decide +kernel
theorem dL_law_528 : decode cL_law 528 = .ok (.iconst 2, 1) := by decide +kernel
theorem dL_law_529 : decode cL_law 529 = .ok (.iadd, 1) := by decide +kernel
theorem dL_law_530 : decode cL_law 530 = .ok (.iaload, 1) := by decide +kernel
theorem dL_law_531 : decode cL_law 531 = .ok (.aload_n 3, 1) := by decide +kernel
theorem dL_law_532 : decode cL_law 532 = .ok (.invokestatic 76, 3) := by decide +kernel
theorem dL_law_535 : decode cL_law 535 = .ok (.istore 5, 2) := by decide +kernel
theorem dL_law_537 : decode cL_law 537 = .ok (.aload_n 2, 1) := by decide +kernel
theorem dL_law_538 : decode cL_law 538 = .ok (.aload_n 0, 1) := by decide +kernel
theorem dL_law_539 : decode cL_law 539 = .ok (.iload 4, 2) := by decide +kernel
theorem dL_law_541 : decode cL_law 541 = .ok (.iconst 1, 1) := by decide +kernel
theorem dL_law_542 : decode cL_law 542 = .ok (.iadd, 1) := by decide +kernel
theorem dL_law_543 : decode cL_law 543 = .ok (.iaload, 1) := by decide +kernel
theorem dL_law_544 : decode cL_law 544 = .ok (.aload_n 0, 1) := by decide +kernel
theorem dL_law_545 : decode cL_law 545 = .ok (.iload 4, 2) := by decide +kernel
theorem dL_law_547 : decode cL_law 547 = .ok (.iconst 2, 1) := by decide +kernel
theorem dL_law_548 : decode cL_law 548 = .ok (.iadd, 1) := by decide +kernel
theorem dL_law_549 : decode cL_law 549 = .ok (.iaload, 1) := by decide +kernel
theorem dL_law_550 : decode cL_law 550 = .ok (.invokevirtual 81, 3) := by decide +kernel
theorem dL_law_553 : decode cL_law 553 = .ok (.lstore 6, 2) := by decide +kernel
theorem dL_law_555 : decode cL_law 555 = .ok (.goto 3, 3) := by decide +kernel
theorem dL_law_558 : decode cL_law 558 = .ok (.iinc 4 4, 3) := by decide +kernel
theorem dL_law_561 : decode cL_law 561 = .ok (.goto (-538), 3) := by decide +kernel
theorem dL_law_564 : decode cL_law 564 = .ok (.iconst 1, 1) := by decide +kernel
theorem dL_law_565 : decode cL_law 565 = .ok (.ireturn, 1) := by decide +kernel
abbrev vwCl : List vw_C := [(RX1, TX1, 2), (RX3, TX3, 7), (RX4, TX4, 4), (RX5, TX5, 13), (RX6, TX6, 7), (RX7, TX7, 6), (RX8, TX8, 26)]

