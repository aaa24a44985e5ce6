theorem dX8_range_19 : decode cX8_range 19 = .ok (.iload_n 2, 1) := by decide +kernel
theorem dX8_range_20 : decode cX8_range 20 = .ok (.i2l, 1) := by decide +kernel
theorem dX8_range_21 : decode cX8_range 21 = .ok (.ldc2_w 66, 3) := by decide +kernel
theorem dX8_range_24 : decode cX8_range 24 = .ok (.ldc2_w 68, 3) := by decide +kernel
theorem dX8_range_27 : decode cX8_range 27 = .ok (.invokestatic 150, 3) := by decide +kernel
theorem dX8_range_30 : decode cX8_range 30 = .ok (.ifCond .eq 22, 3) := by decide +kernel
theorem dX8_range_33 : decode cX8_range 33 = .ok (.iload_n 3, 1) := by decide +kernel
theorem dX8_range_34 : decode cX8_range 34 = .ok (.i2l, 1) := by decide +kernel
theorem dX8_range_35 : decode cX8_range 35 = .ok (.ldc2_w 66, 3) := by decide +kernel
theorem dX8_range_38 : decode cX8_range 38 = .ok (.ldc2_w 68, 3) := by decide +kernel
theorem dX8_range_41 : decode cX8_range 41 = .ok (.invokestatic 150, 3) := by decide +kernel
theorem dX8_range_44 : decode cX8_range 44 = .ok (.ifCond .eq 8, 3) := by decide +kernel
theorem dX8_range_47 : decode cX8_range 47 = .ok (.iload_n 2, 1) := by decide +kernel
theorem dX8_range_48 : decode cX8_range 48 = .ok (.iload_n 3, 1) := by decide +kernel
theorem dX8_range_49 : decode cX8_range 49 = .ok (.if_icmp .le 6, 3) := by decide +kernel
theorem dX8_range_52 : decode cX8_range 52 = .ok (.bipush (-2), 2) := by decide +kernel
theorem dX8_range_54 : decode cX8_range 54 = .ok (.ireturn, 1) := by decide +kernel
theorem dX8_range_55 : decode cX8_range 55 = .ok (.aload_n 0, 1) := by decide +kernel
theorem dX8_range_56 : decode cX8_range 56 = .ok (.getfield 28, 3) := by decide +kernel
theorem dX8_range_59 : decode cX8_range 59 = .ok (.iload_n 1, 1) := by decide +kernel
theorem dX8_range_60 : decode cX8_range 60 = .ok (.iload_n 2, 1) := by decide +kernel
theorem dX8_range_61 : decode cX8_range 61 = .ok (.i2l, 1) := by decide +kernel
theorem dX8_range_62 : decode cX8_range 62 = .ok (.lastore, 1) := by decide +kernel
theorem dX8_range_63 : decode cX8_range 63 = .ok (.aload_n 0, 1) := by decide +kernel
theorem dX8_range_64 : decode cX8_range 64 = .ok (.getfield 32, 3) := by decide +kernel
theorem dX8_range_67 : decode cX8_range 67 = .ok (.iload_n 1, 1) := by decide +kernel
theorem dX8_range_68 : decode cX8_range 68 = .ok (.iload_n 3, 1) := by decide +kernel
theorem dX8_range_69 : decode cX8_range 69 = .ok (.i2l, 1) := by decide +kernel
theorem dX8_range_70 : decode cX8_range 70 = .ok (.lastore, 1) := by decide +kernel
theorem dX8_range_71 : decode cX8_range 71 = .ok (.iconst 1, 1) := by decide +kernel
theorem dX8_range_72 : decode cX8_range 72 = .ok (.ireturn, 1) := by decide +kernel
theorem dX8_set_0 : decode cX8_set 0 = .ok (.aload_n 0, 1) := by decide +kernel
theorem dX8_set_1 : decode cX8_set 1 = .ok (.iconst 0, 1) := by decide +kernel
theorem dX8_set_2 : decode cX8_set 2 = .ok (.putfield 70, 3) := by decide +kernel
theorem dX8_set_5 : decode cX8_set 5 = .ok (.iload_n 1, 1) := by decide +kernel
theorem dX8_set_6 : decode cX8_set 6 = .ok (.i2l, 1) := by decide +kernel
theorem dX8_set_7 : decode cX8_set 7 = .ok (.lconst 0, 1) := by decide +kernel
theorem dX8_set_8 : decode cX8_set 8 = .ok (.ldc2_w 156, 3) := by decide +kernel
theorem dX8_set_11 : decode cX8_set 11 = .ok (.invokestatic 150, 3) := by decide +kernel
theorem dX8_set_14 : decode cX8_set 14 = .ok (.ifCond .ne 5, 3) := by decide +kernel
theorem dX8_set_17 : decode cX8_set 17 = .ok (.iconst (-1), 1) := by decide +kernel
theorem dX8_set_18 : decode cX8_set 18 = .ok (.ireturn, 1) := by decide +kernel
theorem dX8_set_19 : decode cX8_set 19 = .ok (.iload_n 2, 1) := by decide +kernel
theorem dX8_set_20 : decode cX8_set 20 = .ok (.i2l, 1) := by decide +kernel
theorem dX8_set_21 : decode cX8_set 21 = .ok (.ldc2_w 66, 3) := by decide +kernel
theorem dX8_set_24 : decode cX8_set 24 = .ok (.ldc2_w 68, 3) := by decide +kernel
theorem dX8_set_27 : decode cX8_set 27 = .ok (.invokestatic 150, 3) := by decide +kernel
theorem dX8_set_30 : decode cX8_set 30 = .ok (.ifCond .ne 6, 3) := by decide +kernel
theorem dX8_set_33 : decode cX8_set 33 = .ok (.bipush (-2), 2) := by decide +kernel
theorem dX8_set_35 : decode cX8_set 35 = .ok (.ireturn, 1) := by decide +kernel
theorem dX8_set_36 : decode cX8_set 36 = .ok (.aload_n 0, 1) := by decide +kernel
theorem dX8_set_37 : decode cX8_set 37 = .ok (.getfield 35, 3) := by decide +kernel
theorem dX8_set_40 : decode cX8_set 40 = .ok (.iload_n 1, 1) := by decide +kernel
theorem dX8_set_41 : decode cX8_set 41 = .ok (.iload_n 2, 1) := by decide +kernel
theorem dX8_set_42 : decode cX8_set 42 = .ok (.i2l, 1) := by decide +kernel
theorem dX8_set_43 : decode cX8_set 43 = .ok (.lastore, 1) := by decide +kernel
theorem dX8_set_44 : decode cX8_set 44 = .ok (.iconst 1, 1) := by decide +kernel
theorem dX8_set_45 : decode cX8_set 45 = .ok (.ireturn, 1) := by decide +kernel
theorem dX8_place_0 : decode cX8_place 0 = .ok (.aload_n 0, 1) := by decide +kernel
theorem dX8_place_1 : decode cX8_place 1 = .ok (.iconst 0, 1) := by decide +kernel
theorem dX8_place_2 : decode cX8_place 2 = .ok (.putfield 70, 3) := by decide +kernel
theorem dX8_place_5 : decode cX8_place 5 = .ok (.iload_n 1, 1) := by decide +kernel
theorem dX8_place_6 : decode cX8_place 6 = .ok (.invokestatic 170, 3) := by decide +kernel
theorem dX8_place_9 : decode cX8_place 9 = .ok (.lstore_n 2, 1) := by decide +kernel
theorem dX8_place_10 : decode cX8_place 10 = .ok (.lload_n 2, 1) := by decide +kernel
theorem dX8_place_11 : decode cX8_place 11 = .ok (.ldc2_w 82, 3) := by decide +kernel
theorem dX8_place_14 : decode cX8_place 14 = .ok (.lcmp, 1) := by decide +kernel
theorem dX8_place_15 : decode cX8_place 15 = .ok (.ifCond .ne 9, 3) := by decide +kernel
theorem dX8_place_18 : decode cX8_place 18 = .ok (.ldc2_w 174, 3) := by decide +kernel
theorem dX8_place_21 : decode cX8_place 21 = .ok (.goto 4, 3) := by decide +kernel
theorem dX8_place_24 : decode cX8_place 24 = .ok (.lload_n 2, 1) := by decide +kernel
theorem dX8_place_25 : decode cX8_place 25 = .ok (.lreturn, 1) := by decide +kernel
theorem dX8_bits_0 : decode cX8_bits 0 = .ok (.aload_n 0, 1) := by decide +kernel
theorem dX8_bits_1 : decode cX8_bits 1 = .ok (.iconst 0, 1) := by decide +kernel
theorem dX8_bits_2 : decode cX8_bits 2 = .ok (.putfield 70, 3) := by decide +kernel
theorem dX8_bits_5 : decode cX8_bits 5 = .ok (.iload_n 1, 1) := by decide +kernel
theorem dX8_bits_6 : decode cX8_bits 6 = .ok (.i2l, 1) := by decide +kernel
theorem dX8_bits_7 : decode cX8_bits 7 = .ok (.ldc2_w 66, 3) := by decide +kernel
theorem dX8_bits_10 : decode cX8_bits 10 = .ok (.ldc2_w 68, 3) := by decide +kernel
theorem dX8_bits_13 : decode cX8_bits 13 = .ok (.invokestatic 150, 3) := by decide +kernel
theorem dX8_bits_16 : decode cX8_bits 16 = .ok (.ifCond .eq 11, 3) := by decide +kernel
theorem dX8_bits_19 : decode cX8_bits 19 = .ok (.iload_n 1, 1) := by decide +kernel
theorem dX8_bits_20 : decode cX8_bits 20 = .ok (.i2l, 1) := by decide +kernel
theorem dX8_bits_21 : decode cX8_bits 21 = .ok (.invokestatic 176, 3) := by decide +kernel
theorem dX8_bits_24 : decode cX8_bits 24 = .ok (.goto 6, 3) := by decide +kernel
theorem dX8_bits_27 : decode cX8_bits 27 = .ok (.ldc2_w 174, 3) := by decide +kernel
theorem dX8_bits_30 : decode cX8_bits 30 = .ok (.lreturn, 1) := by decide +kernel
theorem dX8_value_0 : decode cX8_value 0 = .ok (.aload_n 0, 1) := by decide +kernel
theorem dX8_value_1 : decode cX8_value 1 = .ok (.iconst 0, 1) := by decide +kernel
theorem dX8_value_2 : decode cX8_value 2 = .ok (.putfield 70, 3) := by decide +kernel
theorem dX8_value_5 : decode cX8_value 5 = .ok (.aload_n 0, 1) := by decide +kernel
theorem dX8_value_6 : decode cX8_value 6 = .ok (.iload_n 1, 1) := by decide +kernel
theorem dX8_value_7 : decode cX8_value 7 = .ok (.invokevirtual 160, 3) := by decide +kernel
theorem dX8_value_10 : decode cX8_value 10 = .ok (.ifCond .ne 7, 3) := by decide +kernel
theorem dX8_value_13 : decode cX8_value 13 = .ok (.ldc2_w 174, 3) := by decide +kernel
theorem dX8_value_16 : decode cX8_value 16 = .ok (.lreturn, 1) := by decide +kernel
theorem dX8_value_17 : decode cX8_value 17 = .ok (.aload_n 0, 1) := by decide +kernel
theorem dX8_value_18 : decode cX8_value 18 = .ok (.iload_n 1, 1) := by decide +kernel
theorem dX8_value_19 : decode cX8_value 19 = .ok (.aload_n 0, 1) := by decide +kernel
theorem dX8_value_20 : decode cX8_value 20 = .ok (.getfield 35, 3) := by decide +kernel
theorem dX8_value_23 : decode cX8_value 23 = .ok (.invokevirtual 183, 3) := by decide +kernel
theorem dX8_value_26 : decode cX8_value 26 = .ok (.aload_n 0, 1) := by decide +kernel
theorem dX8_value_27 : decode cX8_value 27 = .ok (.getfield 41, 3) := by decide +kernel
theorem dX8_value_30 : decode cX8_value 30 = .ok (.iload_n 1, 1) := by decide +kernel
theorem dX8_value_31 : decode cX8_value 31 = .ok (.laload, 1) := by decide +kernel
theorem dX8_value_32 : decode cX8_value 32 = .ok (.invokestatic 176, 3) := by decide +kernel
theorem dX8_value_35 : decode cX8_value 35 = .ok (.lreturn, 1) := by decide +kernel
theorem dX8_holds_0 : decode cX8_holds 0 = .ok (.aload_n 0, 1) := by decide +kernel
theorem dX8_holds_1 : decode cX8_holds 1 = .ok (.iconst 0, 1) := by decide +kernel
theorem dX8_holds_2 : decode cX8_holds 2 = .ok (.putfield 70, 3) := by decide +kernel
theorem dX8_holds_5 : decode cX8_holds 5 = .ok (.iload_n 1, 1) := by decide +kernel
theorem dX8_holds_6 : decode cX8_holds 6 = .ok (.i2l, 1) := by decide +kernel
theorem dX8_holds_7 : decode cX8_holds 7 = .ok (.lconst 0, 1) := by decide +kernel
theorem dX8_holds_8 : decode cX8_holds 8 = .ok (.aload_n 0, 1) := by decide +kernel
theorem dX8_holds_9 : decode cX8_holds 9 = .ok (.getfield 167, 3) := by decide +kernel
theorem dX8_holds_12 : decode cX8_holds 12 = .ok (.iconst 1, 1) := by decide +kernel
theorem dX8_holds_13 : decode cX8_holds 13 = .ok (.isub, 1) := by decide +kernel
theorem dX8_holds_14 : decode cX8_holds 14 = .ok (.i2l, 1) := by decide +kernel
theorem dX8_holds_15 : decode cX8_holds 15 = .ok (.invokestatic 150, 3) := by decide +kernel
theorem dX8_holds_18 : decode cX8_holds 18 = .ok (.ifCond .ne 5, 3) := by decide +kernel
theorem dX8_holds_21 : decode cX8_holds 21 = .ok (.iconst (-1), 1) := by decide +kernel
theorem dX8_holds_22 : decode cX8_holds 22 = .ok (.ireturn, 1) := by decide +kernel
theorem dX8_holds_23 : decode cX8_holds 23 = .ok (.aload_n 0, 1) := by decide +kernel
theorem dX8_holds_24 : decode cX8_holds 24 = .ok (.aload_n 0, 1) := by decide +kernel
theorem dX8_holds_25 : decode cX8_holds 25 = .ok (.getfield 147, 3) := by decide +kernel
theorem dX8_holds_28 : decode cX8_holds 28 = .ok (.iconst 1, 1) := by decide +kernel
theorem dX8_holds_29 : decode cX8_holds 29 = .ok (.isub, 1) := by decide +kernel
theorem dX8_holds_30 : decode cX8_holds 30 = .ok (.aload_n 0, 1) := by decide +kernel
theorem dX8_holds_31 : decode cX8_holds 31 = .ok (.getfield 35, 3) := by decide +kernel
theorem dX8_holds_34 : decode cX8_holds 34 = .ok (.invokevirtual 183, 3) := by decide +kernel
theorem dX8_holds_37 : decode cX8_holds 37 = .ok (.aload_n 0, 1) := by decide +kernel
theorem dX8_holds_38 : decode cX8_holds 38 = .ok (.iload_n 1, 1) := by decide +kernel
theorem dX8_holds_39 : decode cX8_holds 39 = .ok (.invokevirtual 190, 3) := by decide +kernel
theorem dX8_holds_42 : decode cX8_holds 42 = .ok (.ifCond .eq 7, 3) := by decide +kernel
theorem dX8_holds_45 : decode cX8_holds 45 = .ok (.iconst 1, 1) := by decide +kernel
theorem dX8_holds_46 : decode cX8_holds 46 = .ok (.goto 4, 3) := by decide +kernel
theorem dX8_holds_49 : decode cX8_holds 49 = .ok (.iconst 0, 1) := by decide +kernel
theorem dX8_holds_50 : decode cX8_holds 50 = .ok (.ireturn, 1) := by decide +kernel
theorem dX8_spans_0 : decode cX8_spans 0 = .ok (.iconst 0, 1) := by decide +kernel
theorem dX8_spans_1 : decode cX8_spans 1 = .ok (.istore_n 1, 1) := by decide +kernel
theorem dX8_spans_2 : decode cX8_spans 2 = .ok (.iload_n 1, 1) := by decide +kernel
theorem dX8_spans_3 : decode cX8_spans 3 = .ok (.aload_n 0, 1) := by decide +kernel
theorem dX8_spans_4 : decode cX8_spans 4 = .ok (.getfield 147, 3) := by decide +kernel
theorem dX8_spans_7 : decode cX8_spans 7 = .ok (.if_icmp .ge 14, 3) := by decide +kernel
theorem dX8_spans_10 : decode cX8_spans 10 = .ok (.aload_n 0, 1) := by decide +kernel
theorem dX8_spans_11 : decode cX8_spans 11 = .ok (.iload_n 1, 1) := by decide +kernel
theorem dX8_spans_12 : decode cX8_spans 12 = .ok (.invokevirtual 211, 3) := by decide +kernel
theorem dX8_spans_15 : decode cX8_spans 15 = .ok (.iinc 1 1, 3) := by decide +kernel
theorem dX8_spans_18 : decode cX8_spans 18 = .ok (.goto (-16), 3) := by decide +kernel
theorem dX8_spans_21 : decode cX8_spans 21 = .ok (.return_, 1) := by decide +kernel
theorem dX8_span_0 : decode cX8_span 0 = .ok (.aload_n 0, 1) := by decide +kernel
theorem dX8_span_1 : decode cX8_span 1 = .ok (.iconst 0, 1) := by decide +kernel
theorem dX8_span_2 : decode cX8_span 2 = .ok (.putfield 70, 3) := by decide +kernel
theorem dX8_span_5 : decode cX8_span 5 = .ok (.aload_n 0, 1) := by decide +kernel
theorem dX8_span_6 : decode cX8_span 6 = .ok (.iload_n 1, 1) := by decide +kernel
theorem dX8_span_7 : decode cX8_span 7 = .ok (.invokevirtual 160, 3) := by decide +kernel
theorem dX8_span_10 : decode cX8_span 10 = .ok (.ifCond .eq 15, 3) := by decide +kernel
theorem dX8_span_13 : decode cX8_span 13 = .ok (.iload_n 2, 1) := by decide +kernel
theorem dX8_span_14 : decode cX8_span 14 = .ok (.i2l, 1) := by decide +kernel
theorem dX8_span_15 : decode cX8_span 15 = .ok (.lconst 0, 1) := by decide +kernel
theorem dX8_span_16 : decode cX8_span 16 = .ok (.ldc2_w 156, 3) := by decide +kernel
theorem dX8_span_19 : decode cX8_span 19 = .ok (.invokestatic 150, 3) := by decide +kernel
theorem dX8_span_22 : decode cX8_span 22 = .ok (.ifCond .ne 7, 3) := by decide +kernel
theorem dX8_span_25 : decode cX8_span 25 = .ok (.ldc2_w 174, 3) := by decide +kernel
theorem dX8_span_28 : decode cX8_span 28 = .ok (.lreturn, 1) := by decide +kernel
theorem dX8_span_29 : decode cX8_span 29 = .ok (.aload_n 0, 1) := by decide +kernel
theorem dX8_span_30 : decode cX8_span 30 = .ok (.invokevirtual 217, 3) := by decide +kernel
theorem dX8_span_33 : decode cX8_span 33 = .ok (.iload_n 2, 1) := by decide +kernel
theorem dX8_span_34 : decode cX8_span 34 = .ok (.ifCond .ne 18, 3) := by decide +kernel
theorem dX8_span_37 : decode cX8_span 37 = .ok (.aload_n 0, 1) := by decide +kernel
theorem dX8_span_38 : decode cX8_span 38 = .ok (.getfield 50, 3) := by decide +kernel
theorem dX8_span_41 : decode cX8_span 41 = .ok (.iload_n 1, 1) := by decide +kernel
theorem dX8_span_42 : decode cX8_span 42 = .ok (.baload, 1) := by decide +kernel
theorem dX8_span_43 : decode cX8_span 43 = .ok (.ifCond .eq 7, 3) := by decide +kernel
theorem dX8_span_46 : decode cX8_span 46 = .ok (.lconst 1, 1) := by decide +kernel
theorem dX8_span_47 : decode cX8_span 47 = .ok (.goto 4, 3) := by decide +kernel
theorem dX8_span_50 : decode cX8_span 50 = .ok (.lconst 0, 1) := by decide +kernel
theorem dX8_span_51 : decode cX8_span 51 = .ok (.lreturn, 1) := by decide +kernel
theorem dX8_span_52 : decode cX8_span 52 = .ok (.iload_n 2, 1) := by decide +kernel
theorem dX8_span_53 : decode cX8_span 53 = .ok (.iconst 3, 1) := by decide +kernel
theorem dX8_span_54 : decode cX8_span 54 = .ok (.if_icmp .ne 18, 3) := by decide +kernel
theorem dX8_span_57 : decode cX8_span 57 = .ok (.aload_n 0, 1) := by decide +kernel
theorem dX8_span_58 : decode cX8_span 58 = .ok (.getfield 60, 3) := by decide +kernel
theorem dX8_span_61 : decode cX8_span 61 = .ok (.iload_n 1, 1) := by decide +kernel
theorem dX8_span_62 : decode cX8_span 62 = .ok (.baload, 1) := by decide +kernel
theorem dX8_span_63 : decode cX8_span 63 = .ok (.ifCond .eq 7, 3) := by decide +kernel
theorem dX8_span_66 : decode cX8_span 66 = .ok (.lconst 1, 1) := by decide +kernel
theorem dX8_span_67 : decode cX8_span 67 = .ok (.goto 4, 3) := by decide +kernel
theorem dX8_span_70 : decode cX8_span 70 = .ok (.lconst 0, 1) := by decide +kernel
theorem dX8_span_71 : decode cX8_span 71 = .ok (.lreturn, 1) := by decide +kernel
theorem dX8_span_72 : decode cX8_span 72 = .ok (.aload_n 0, 1) := by decide +kernel
theorem dX8_span_73 : decode cX8_span 73 = .ok (.getfield 50, 3) := by decide +kernel
theorem dX8_span_76 : decode cX8_span 76 = .ok (.iload_n 1, 1) := by decide +kernel
theorem dX8_span_77 : decode cX8_span 77 = .ok (.baload, 1) := by decide +kernel
theorem dX8_span_78 : decode cX8_span 78 = .ok (.ifCond .ne 9, 3) := by decide +kernel
theorem dX8_span_81 : decode cX8_span 81 = .ok (.ldc2_w 174, 3) := by decide +kernel
theorem dX8_span_84 : decode cX8_span 84 = .ok (.goto 23, 3) := by decide +kernel
theorem dX8_span_87 : decode cX8_span 87 = .ok (.iload_n 2, 1) := by decide +kernel
theorem dX8_span_88 : decode cX8_span 88 = .ok (.iconst 1, 1) := by decide +kernel
theorem dX8_span_89 : decode cX8_span 89 = .ok (.if_icmp .ne 12, 3) := by decide +kernel
theorem dX8_span_92 : decode cX8_span 92 = .ok (.aload_n 0, 1) := by decide +kernel
theorem dX8_span_93 : decode cX8_span 93 = .ok (.getfield 54, 3) := by decide +kernel
theorem dX8_span_96 : decode cX8_span 96 = .ok (.iload_n 1, 1) := by decide +kernel
theorem dX8_span_97 : decode cX8_span 97 = .ok (.laload, 1) := by decide +kernel
theorem dX8_span_98 : decode cX8_span 98 = .ok (.goto 9, 3) := by decide +kernel
theorem dX8_span_101 : decode cX8_span 101 = .ok (.aload_n 0, 1) := by decide +kernel
theorem dX8_span_102 : decode cX8_span 102 = .ok (.getfield 57, 3) := by decide +kernel
theorem dX8_span_105 : decode cX8_span 105 = .ok (.iload_n 1, 1) := by decide +kernel
theorem dX8_span_106 : decode cX8_span 106 = .ok (.laload, 1) := by decide +kernel
theorem dX8_span_107 : decode cX8_span 107 = .ok (.lreturn, 1) := by decide +kernel
theorem dX8_judge_0 : decode cX8_judge 0 = .ok (.aload_n 0, 1) := by decide +kernel
theorem dX8_judge_1 : decode cX8_judge 1 = .ok (.iconst 0, 1) := by decide +kernel
theorem dX8_judge_2 : decode cX8_judge 2 = .ok (.putfield 70, 3) := by decide +kernel
theorem dX8_judge_5 : decode cX8_judge 5 = .ok (.iload_n 1, 1) := by decide +kernel
theorem dX8_judge_6 : decode cX8_judge 6 = .ok (.i2l, 1) := by decide +kernel
theorem dX8_judge_7 : decode cX8_judge 7 = .ok (.lconst 0, 1) := by decide +kernel
theorem dX8_judge_8 : decode cX8_judge 8 = .ok (.aload_n 0, 1) := by decide +kernel
theorem dX8_judge_9 : decode cX8_judge 9 = .ok (.getfield 167, 3) := by decide +kernel
theorem dX8_judge_12 : decode cX8_judge 12 = .ok (.iconst 1, 1) := by decide +kernel
theorem dX8_judge_13 : decode cX8_judge 13 = .ok (.isub, 1) := by decide +kernel
theorem dX8_judge_14 : decode cX8_judge 14 = .ok (.i2l, 1) := by decide +kernel
theorem dX8_judge_15 : decode cX8_judge 15 = .ok (.invokestatic 150, 3) := by decide +kernel
theorem dX8_judge_18 : decode cX8_judge 18 = .ok (.ifCond .ne 5, 3) := by decide +kernel
theorem dX8_judge_21 : decode cX8_judge 21 = .ok (.iconst (-1), 1) := by decide +kernel
theorem dX8_judge_22 : decode cX8_judge 22 = .ok (.ireturn, 1) := by decide +kernel
theorem dX8_judge_23 : decode cX8_judge 23 = .ok (.aload_n 0, 1) := by decide +kernel
theorem dX8_judge_24 : decode cX8_judge 24 = .ok (.invokevirtual 217, 3) := by decide +kernel
theorem dX8_judge_27 : decode cX8_judge 27 = .ok (.aload_n 0, 1) := by decide +kernel
theorem dX8_judge_28 : decode cX8_judge 28 = .ok (.iload_n 1, 1) := by decide +kernel
theorem dX8_judge_29 : decode cX8_judge 29 = .ok (.invokevirtual 224, 3) := by decide +kernel
theorem dX8_judge_32 : decode cX8_judge 32 = .ok (.ireturn, 1) := by decide +kernel
theorem dX8_lay_0 : decode cX8_lay 0 = .ok (.iconst 0, 1) := by decide +kernel
theorem dX8_lay_1 : decode cX8_lay 1 = .ok (.istore_n 1, 1) := by decide +kernel
theorem dX8_lay_2 : decode cX8_lay 2 = .ok (.iload_n 1, 1) := by decide +kernel
theorem dX8_lay_3 : decode cX8_lay 3 = .ok (.iconst 4, 1) := by decide +kernel
theorem dX8_lay_4 : decode cX8_lay 4 = .ok (.if_icmp .ge 51, 3) := by decide +kernel
theorem dX8_lay_7 : decode cX8_lay 7 = .ok (.aload_n 0, 1) := by decide +kernel
theorem dX8_lay_8 : decode cX8_lay 8 = .ok (.getfield 63, 3) := by decide +kernel
theorem dX8_lay_11 : decode cX8_lay 11 = .ok (.bipush 8, 2) := by decide +kernel
theorem dX8_lay_13 : decode cX8_lay 13 = .ok (.aload_n 0, 1) := by decide +kernel
theorem dX8_lay_14 : decode cX8_lay 14 = .ok (.getfield 228, 3) := by decide +kernel
theorem dX8_lay_17 : decode cX8_lay 17 = .ok (.imul, 1) := by decide +kernel
theorem dX8_lay_18 : decode cX8_lay 18 = .ok (.iload_n 1, 1) := by decide +kernel
theorem dX8_lay_19 : decode cX8_lay 19 = .ok (.iadd, 1) := by decide +kernel
theorem dX8_lay_20 : decode cX8_lay 20 = .ok (.aload_n 0, 1) := by decide +kernel
theorem dX8_lay_21 : decode cX8_lay 21 = .ok (.getfield 44, 3) := by decide +kernel
theorem dX8_lay_24 : decode cX8_lay 24 = .ok (.iload_n 1, 1) := by decide +kernel
theorem dX8_lay_25 : decode cX8_lay 25 = .ok (.laload, 1) := by decide +kernel
theorem dX8_lay_26 : decode cX8_lay 26 = .ok (.lastore, 1) := by decide +kernel
theorem dX8_lay_27 : decode cX8_lay 27 = .ok (.aload_n 0, 1) := by decide +kernel
theorem dX8_lay_28 : decode cX8_lay 28 = .ok (.getfield 63, 3) := by decide +kernel
theorem dX8_lay_31 : decode cX8_lay 31 = .ok (.bipush 8, 2) := by decide +kernel
theorem dX8_lay_33 : decode cX8_lay 33 = .ok (.aload_n 0, 1) := by decide +kernel
theorem dX8_lay_34 : decode cX8_lay 34 = .ok (.getfield 228, 3) := by decide +kernel
theorem dX8_lay_37 : decode cX8_lay 37 = .ok (.imul, 1) := by decide +kernel
theorem dX8_lay_38 : decode cX8_lay 38 = .ok (.iconst 4, 1) := by decide +kernel
theorem dX8_lay_39 : decode cX8_lay 39 = .ok (.iadd, 1) := by decide +kernel
theorem dX8_lay_40 : decode cX8_lay 40 = .ok (.iload_n 1, 1) := by decide +kernel
theorem dX8_lay_41 : decode cX8_lay 41 = .ok (.iadd, 1) := by decide +kernel
theorem dX8_lay_42 : decode cX8_lay 42 = .ok (.aload_n 0, 1) := by decide +kernel
theorem dX8_lay_43 : decode cX8_lay 43 = .ok (.getfield 47, 3) := by decide +kernel
theorem dX8_lay_46 : decode cX8_lay 46 = .ok (.iload_n 1, 1) := by decide +kernel
theorem dX8_lay_47 : decode cX8_lay 47 = .ok (.laload, 1) := by decide +kernel
theorem dX8_lay_48 : decode cX8_lay 48 = .ok (.lastore, 1) := by decide +kernel
theorem dX8_lay_49 : decode cX8_lay 49 = .ok (.iinc 1 1, 3) := by decide +kernel
theorem dX8_lay_52 : decode cX8_lay 52 = .ok (.goto (-50), 3) := by decide +kernel
theorem dX8_lay_55 : decode cX8_lay 55 = .ok (.aload_n 0, 1) := by decide +kernel
theorem dX8_lay_56 : decode cX8_lay 56 = .ok (.dup, 1) := by decide +kernel
theorem dX8_lay_57 : decode cX8_lay 57 = .ok (.getfield 228, 3) := by decide +kernel
theorem dX8_lay_60 : decode cX8_lay 60 = .ok (.iconst 1, 1) := by decide +kernel
theorem dX8_lay_61 : decode cX8_lay 61 = .ok (.iadd, 1) := by decide +kernel
theorem dX8_lay_62 : decode cX8_lay 62 = .ok (.putfield 228, 3) := by decide +kernel
theorem dX8_lay_65 : decode cX8_lay 65 = .ok (.return_, 1) := by decide +kernel
theorem dX8_lift_0 : decode cX8_lift 0 = .ok (.aload_n 0, 1) := by decide +kernel
theorem dX8_lift_1 : decode cX8_lift 1 = .ok (.dup, 1) := by decide +kernel
theorem dX8_lift_2 : decode cX8_lift 2 = .ok (.getfield 228, 3) := by decide +kernel
theorem dX8_lift_5 : decode cX8_lift 5 = .ok (.iconst 1, 1) := by decide +kernel
theorem dX8_lift_6 : decode cX8_lift 6 = .ok (.isub, 1) := by decide +kernel
theorem dX8_lift_7 : decode cX8_lift 7 = .ok (.putfield 228, 3) := by decide +kernel
theorem dX8_lift_10 : decode cX8_lift 10 = .ok (.iconst 0, 1) := by decide +kernel
theorem dX8_lift_11 : decode cX8_lift 11 = .ok (.istore_n 1, 1) := by decide +kernel
theorem dX8_lift_12 : decode cX8_lift 12 = .ok (.iload_n 1, 1) := by decide +kernel
theorem dX8_lift_13 : decode cX8_lift 13 = .ok (.iconst 4, 1) := by decide +kernel
theorem dX8_lift_14 : decode cX8_lift 14 = .ok (.if_icmp .ge 51, 3) := by decide +kernel
theorem dX8_lift_17 : decode cX8_lift 17 = .ok (.aload_n 0, 1) := by decide +kernel
theorem dX8_lift_18 : decode cX8_lift 18 = .ok (.getfield 44, 3) := by decide +kernel
theorem dX8_lift_21 : decode cX8_lift 21 = .ok (.iload_n 1, 1) := by decide +kernel
theorem dX8_lift_22 : decode cX8_lift 22 = .ok (.aload_n 0, 1) := by decide +kernel
theorem dX8_lift_23 : decode cX8_lift 23 = .ok (.getfield 63, 3) := by decide +kernel
theorem dX8_lift_26 : decode cX8_lift 26 = .ok (.bipush 8, 2) := by decide +kernel
theorem dX8_lift_28 : decode cX8_lift 28 = .ok (.aload_n 0, 1) := by decide +kernel
theorem dX8_lift_29 : decode cX8_lift 29 = .ok (.getfield 228, 3) := by decide +kernel
theorem dX8_lift_32 : decode cX8_lift 32 = .ok (.imul, 1) := by decide +kernel
theorem dX8_lift_33 : decode cX8_lift 33 = .ok (.iload_n 1, 1) := by decide +kernel
theorem dX8_lift_34 : decode cX8_lift 34 = .ok (.iadd, 1) := by decide +kernel
theorem dX8_lift_35 : decode cX8_lift 35 = .ok (.laload, 1) := by decide +kernel
theorem dX8_lift_36 : decode cX8_lift 36 = .ok (.lastore, 1) := by decide +kernel
theorem dX8_lift_37 : decode cX8_lift 37 = .ok (.aload_n 0, 1) := by decide +kernel
theorem dX8_lift_38 : decode cX8_lift 38 = .ok (.getfield 47, 3) := by decide +kernel
theorem dX8_lift_41 : decode cX8_lift 41 = .ok (.iload_n 1, 1) := by decide +kernel
theorem dX8_lift_42 : decode cX8_lift 42 = .ok (.aload_n 0, 1) := by decide +kernel
theorem dX8_lift_43 : decode cX8_lift 43 = .ok (.getfield 63, 3) := by decide +kernel
theorem dX8_lift_46 : decode cX8_lift 46 = .ok (.bipush 8, 2) := by decide +kernel
theorem dX8_lift_48 : decode cX8_lift 48 = .ok (.aload_n 0, 1) := by decide +kernel
theorem dX8_lift_49 : decode cX8_lift 49 = .ok (.getfield 228, 3) := by decide +kernel
theorem dX8_lift_52 : decode cX8_lift 52 = .ok (.imul, 1) := by decide +kernel
theorem dX8_lift_53 : decode cX8_lift 53 = .ok (.iconst 4, 1) := by decide +kernel
theorem dX8_lift_54 : decode cX8_lift 54 = .ok (.iadd, 1) := by decide +kernel
theorem dX8_lift_55 : decode cX8_lift 55 = .ok (.iload_n 1, 1) := by decide +kernel
theorem dX8_lift_56 : decode cX8_lift 56 = .ok (.iadd, 1) := by decide +kernel
theorem dX8_lift_57 : decode cX8_lift 57 = .ok (.laload, 1) := by decide +kernel
theorem dX8_lift_58 : decode cX8_lift 58 = .ok (.lastore, 1) := by decide +kernel
theorem dX8_lift_59 : decode cX8_lift 59 = .ok (.iinc 1 1, 3) := by decide +kernel
theorem dX8_lift_62 : decode cX8_lift 62 = .ok (.goto (-50), 3) := by decide +kernel
theorem dX8_lift_65 : decode cX8_lift 65 = .ok (.return_, 1) := by decide +kernel
theorem dX8_solves_0 : decode cX8_solves 0 = .ok (.aload_n 0, 1) := by decide +kernel
theorem dX8_solves_1 : decode cX8_solves 1 = .ok (.iconst 1, 1) := by decide +kernel
theorem dX8_solves_2 : decode cX8_solves 2 = .ok (.putfield 231, 3) := by decide +kernel
theorem dX8_solves_5 : decode cX8_solves 5 = .ok (.iconst 0, 1) := by decide +kernel
theorem dX8_solves_6 : decode cX8_solves 6 = .ok (.istore_n 1, 1) := by decide +kernel
theorem dX8_solves_7 : decode cX8_solves 7 = .ok (.iload_n 1, 1) := by decide +kernel
theorem dX8_solves_8 : decode cX8_solves 8 = .ok (.iconst 4, 1) := by decide +kernel
theorem dX8_solves_9 : decode cX8_solves 9 = .ok (.if_icmp .ge 21, 3) := by decide +kernel
theorem dX8_solves_12 : decode cX8_solves 12 = .ok (.aload_n 0, 1) := by decide +kernel
theorem dX8_solves_13 : decode cX8_solves 13 = .ok (.getfield 38, 3) := by decide +kernel
theorem dX8_solves_16 : decode cX8_solves 16 = .ok (.iload_n 1, 1) := by decide +kernel
theorem dX8_solves_17 : decode cX8_solves 17 = .ok (.aload_n 0, 1) := by decide +kernel
theorem dX8_solves_18 : decode cX8_solves 18 = .ok (.getfield 44, 3) := by decide +kernel
theorem dX8_solves_21 : decode cX8_solves 21 = .ok (.iload_n 1, 1) := by decide +kernel
theorem dX8_solves_22 : decode cX8_solves 22 = .ok (.laload, 1) := by decide +kernel
theorem dX8_solves_23 : decode cX8_solves 23 = .ok (.lastore, 1) := by decide +kernel
theorem dX8_solves_24 : decode cX8_solves 24 = .ok (.iinc 1 1, 3) := by decide +kernel
theorem dX8_solves_27 : decode cX8_solves 27 = .ok (.goto (-20), 3) := by decide +kernel
theorem dX8_solves_30 : decode cX8_solves 30 = .ok (.return_, 1) := by decide +kernel
theorem dX8_solve_0 : decode cX8_solve 0 = .ok (.aload_n 0, 1) := by decide +kernel
theorem dX8_solve_1 : decode cX8_solve 1 = .ok (.iconst 0, 1) := by decide +kernel
theorem dX8_solve_2 : decode cX8_solve 2 = .ok (.putfield 70, 3) := by decide +kernel
theorem dX8_solve_5 : decode cX8_solve 5 = .ok (.iload_n 1, 1) := by decide +kernel
theorem dX8_solve_6 : decode cX8_solve 6 = .ok (.i2l, 1) := by decide +kernel
theorem dX8_solve_7 : decode cX8_solve 7 = .ok (.lconst 1, 1) := by decide +kernel
theorem dX8_solve_8 : decode cX8_solve 8 = .ok (.ldc2_w 234, 3) := by decide +kernel
theorem dX8_solve_11 : decode cX8_solve 11 = .ok (.invokestatic 150, 3) := by decide +kernel
theorem dX8_solve_14 : decode cX8_solve 14 = .ok (.ifCond .ne 6, 3) := by decide +kernel
theorem dX8_solve_17 : decode cX8_solve 17 = .ok (.bipush (-2), 2) := by decide +kernel
theorem dX8_solve_19 : decode cX8_solve 19 = .ok (.ireturn, 1) := by decide +kernel
theorem dX8_solve_20 : decode cX8_solve 20 = .ok (.aload_n 0, 1) := by decide +kernel
theorem dX8_solve_21 : decode cX8_solve 21 = .ok (.iconst 1, 1) := by decide +kernel
theorem dX8_solve_22 : decode cX8_solve 22 = .ok (.putfield 236, 3) := by decide +kernel
theorem dX8_solve_25 : decode cX8_solve 25 = .ok (.aload_n 0, 1) := by decide +kernel
theorem dX8_solve_26 : decode cX8_solve 26 = .ok (.iconst 0, 1) := by decide +kernel
theorem dX8_solve_27 : decode cX8_solve 27 = .ok (.putfield 240, 3) := by decide +kernel
theorem dX8_solve_30 : decode cX8_solve 30 = .ok (.aload_n 0, 1) := by decide +kernel
theorem dX8_solve_31 : decode cX8_solve 31 = .ok (.iconst 0, 1) := by decide +kernel
theorem dX8_solve_32 : decode cX8_solve 32 = .ok (.putfield 243, 3) := by decide +kernel
theorem dX8_solve_35 : decode cX8_solve 35 = .ok (.aload_n 0, 1) := by decide +kernel
theorem dX8_solve_36 : decode cX8_solve 36 = .ok (.iconst (-1), 1) := by decide +kernel
theorem dX8_solve_37 : decode cX8_solve 37 = .ok (.putfield 231, 3) := by decide +kernel
theorem dX8_solve_40 : decode cX8_solve 40 = .ok (.aload_n 0, 1) := by decide +kernel
theorem dX8_solve_41 : decode cX8_solve 41 = .ok (.iconst 0, 1) := by decide +kernel
theorem dX8_solve_42 : decode cX8_solve 42 = .ok (.putfield 228, 3) := by decide +kernel
theorem dX8_solve_45 : decode cX8_solve 45 = .ok (.iconst 0, 1) := by decide +kernel
theorem dX8_solve_46 : decode cX8_solve 46 = .ok (.istore_n 2, 1) := by decide +kernel
theorem dX8_solve_47 : decode cX8_solve 47 = .ok (.iload_n 2, 1) := by decide +kernel
theorem dX8_solve_48 : decode cX8_solve 48 = .ok (.iconst 4, 1) := by decide +kernel
theorem dX8_solve_49 : decode cX8_solve 49 = .ok (.if_icmp .ge 33, 3) := by decide +kernel
theorem dX8_solve_52 : decode cX8_solve 52 = .ok (.aload_n 0, 1) := by decide +kernel
theorem dX8_solve_53 : decode cX8_solve 53 = .ok (.getfield 44, 3) := by decide +kernel
theorem dX8_solve_56 : decode cX8_solve 56 = .ok (.iload_n 2, 1) := by decide +kernel
theorem dX8_solve_57 : decode cX8_solve 57 = .ok (.aload_n 0, 1) := by decide +kernel
theorem dX8_solve_58 : decode cX8_solve 58 = .ok (.getfield 28, 3) := by decide +kernel
theorem dX8_solve_61 : decode cX8_solve 61 = .ok (.iload_n 2, 1) := by decide +kernel
theorem dX8_solve_62 : decode cX8_solve 62 = .ok (.laload, 1) := by decide +kernel
theorem dX8_solve_63 : decode cX8_solve 63 = .ok (.lastore, 1) := by decide +kernel
theorem dX8_solve_64 : decode cX8_solve 64 = .ok (.aload_n 0, 1) := by decide +kernel
theorem dX8_solve_65 : decode cX8_solve 65 = .ok (.getfield 47, 3) := by decide +kernel
theorem dX8_solve_68 : decode cX8_solve 68 = .ok (.iload_n 2, 1) := by decide +kernel
theorem dX8_solve_69 : decode cX8_solve 69 = .ok (.aload_n 0, 1) := by decide +kernel
theorem dX8_solve_70 : decode cX8_solve 70 = .ok (.getfield 32, 3) := by decide +kernel
theorem dX8_solve_73 : decode cX8_solve 73 = .ok (.iload_n 2, 1) := by decide +kernel
theorem dX8_solve_74 : decode cX8_solve 74 = .ok (.laload, 1) := by decide +kernel
theorem dX8_solve_75 : decode cX8_solve 75 = .ok (.lastore, 1) := by decide +kernel
theorem dX8_solve_76 : decode cX8_solve 76 = .ok (.iinc 2 1, 3) := by decide +kernel
theorem dX8_solve_79 : decode cX8_solve 79 = .ok (.goto (-32), 3) := by decide +kernel
theorem dX8_solve_82 : decode cX8_solve 82 = .ok (.aload_n 0, 1) := by decide +kernel
theorem dX8_solve_83 : decode cX8_solve 83 = .ok (.invokevirtual 246, 3) := by decide +kernel
theorem dX8_solve_86 : decode cX8_solve 86 = .ok (.aload_n 0, 1) := by decide +kernel
theorem dX8_solve_87 : decode cX8_solve 87 = .ok (.getfield 231, 3) := by decide +kernel
theorem dX8_solve_90 : decode cX8_solve 90 = .ok (.ifCond .ge 55, 3) := by decide +kernel
theorem dX8_solve_93 : decode cX8_solve 93 = .ok (.aload_n 0, 1) := by decide +kernel
theorem dX8_solve_94 : decode cX8_solve 94 = .ok (.getfield 228, 3) := by decide +kernel
theorem dX8_solve_97 : decode cX8_solve 97 = .ok (.ifCond .ne 11, 3) := by decide +kernel
theorem dX8_solve_100 : decode cX8_solve 100 = .ok (.aload_n 0, 1) := by decide +kernel
theorem dX8_solve_101 : decode cX8_solve 101 = .ok (.iconst 0, 1) := by decide +kernel
theorem dX8_solve_102 : decode cX8_solve 102 = .ok (.putfield 231, 3) := by decide +kernel
theorem dX8_solve_105 : decode cX8_solve 105 = .ok (.goto (-19), 3) := by decide +kernel
theorem dX8_solve_108 : decode cX8_solve 108 = .ok (.aload_n 0, 1) := by decide +kernel
theorem dX8_solve_109 : decode cX8_solve 109 = .ok (.getfield 240, 3) := by decide +kernel
theorem dX8_solve_112 : decode cX8_solve 112 = .ok (.iload_n 1, 1) := by decide +kernel
theorem dX8_solve_113 : decode cX8_solve 113 = .ok (.if_icmp .ne 11, 3) := by decide +kernel
theorem dX8_solve_116 : decode cX8_solve 116 = .ok (.aload_n 0, 1) := by decide +kernel
theorem dX8_solve_117 : decode cX8_solve 117 = .ok (.iconst 2, 1) := by decide +kernel
theorem dX8_solve_118 : decode cX8_solve 118 = .ok (.putfield 231, 3) := by decide +kernel
theorem dX8_solve_121 : decode cX8_solve 121 = .ok (.goto (-35), 3) := by decide +kernel
theorem dX8_solve_124 : decode cX8_solve 124 = .ok (.aload_n 0, 1) := by decide +kernel
theorem dX8_solve_125 : decode cX8_solve 125 = .ok (.invokevirtual 249, 3) := by decide +kernel
theorem dX8_solve_128 : decode cX8_solve 128 = .ok (.aload_n 0, 1) := by decide +kernel
theorem dX8_solve_129 : decode cX8_solve 129 = .ok (.dup, 1) := by decide +kernel
theorem dX8_solve_130 : decode cX8_solve 130 = .ok (.getfield 240, 3) := by decide +kernel
theorem dX8_solve_133 : decode cX8_solve 133 = .ok (.iconst 1, 1) := by decide +kernel
theorem dX8_solve_134 : decode cX8_solve 134 = .ok (.iadd, 1) := by decide +kernel
theorem dX8_solve_135 : decode cX8_solve 135 = .ok (.putfield 240, 3) := by decide +kernel
theorem dX8_solve_138 : decode cX8_solve 138 = .ok (.aload_n 0, 1) := by decide +kernel
theorem dX8_solve_139 : decode cX8_solve 139 = .ok (.invokevirtual 252, 3) := by decide +kernel
theorem dX8_solve_142 : decode cX8_solve 142 = .ok (.goto (-56), 3) := by decide +kernel
theorem dX8_solve_145 : decode cX8_solve 145 = .ok (.aload_n 0, 1) := by decide +kernel
theorem dX8_solve_146 : decode cX8_solve 146 = .ok (.getfield 231, 3) := by decide +kernel
theorem dX8_solve_149 : decode cX8_solve 149 = .ok (.ireturn, 1) := by decide +kernel
theorem dX8_look_0 : decode cX8_look 0 = .ok (.aload_n 0, 1) := by decide +kernel
theorem dX8_look_1 : decode cX8_look 1 = .ok (.invokevirtual 214, 3) := by decide +kernel
theorem dX8_look_4 : decode cX8_look 4 = .ok (.iconst 1, 1) := by decide +kernel
theorem dX8_look_5 : decode cX8_look 5 = .ok (.istore_n 1, 1) := by decide +kernel
theorem dX8_look_6 : decode cX8_look 6 = .ok (.iconst 0, 1) := by decide +kernel
theorem dX8_look_7 : decode cX8_look 7 = .ok (.istore_n 2, 1) := by decide +kernel
theorem dX8_look_8 : decode cX8_look 8 = .ok (.iload_n 2, 1) := by decide +kernel
theorem dX8_look_9 : decode cX8_look 9 = .ok (.aload_n 0, 1) := by decide +kernel
theorem dX8_look_10 : decode cX8_look 10 = .ok (.getfield 167, 3) := by decide +kernel
theorem dX8_look_13 : decode cX8_look 13 = .ok (.if_icmp .ge 35, 3) := by decide +kernel
theorem dX8_look_16 : decode cX8_look 16 = .ok (.aload_n 0, 1) := by decide +kernel
theorem dX8_look_17 : decode cX8_look 17 = .ok (.iload_n 2, 1) := by decide +kernel
theorem dX8_look_18 : decode cX8_look 18 = .ok (.invokevirtual 224, 3) := by decide +kernel
theorem dX8_look_21 : decode cX8_look 21 = .ok (.istore_n 3, 1) := by decide +kernel
theorem dX8_look_22 : decode cX8_look 22 = .ok (.iload_n 3, 1) := by decide +kernel
theorem dX8_look_23 : decode cX8_look 23 = .ok (.ifCond .ne 4, 3) := by decide +kernel
theorem dX8_look_26 : decode cX8_look 26 = .ok (.return_, 1) := by decide +kernel
theorem dX8_look_27 : decode cX8_look 27 = .ok (.iload_n 1, 1) := by decide +kernel
theorem dX8_look_28 : decode cX8_look 28 = .ok (.ifCond .eq 12, 3) := by decide +kernel
theorem dX8_look_31 : decode cX8_look 31 = .ok (.iload_n 3, 1) := by decide +kernel
theorem dX8_look_32 : decode cX8_look 32 = .ok (.iconst 1, 1) := by decide +kernel
theorem dX8_look_33 : decode cX8_look 33 = .ok (.if_icmp .ne 7, 3) := by decide +kernel
theorem dX8_look_36 : decode cX8_look 36 = .ok (.iconst 1, 1) := by decide +kernel
theorem dX8_look_37 : decode cX8_look 37 = .ok (.goto 4, 3) := by decide +kernel
theorem dX8_look_40 : decode cX8_look 40 = .ok (.iconst 0, 1) := by decide +kernel
theorem dX8_look_41 : decode cX8_look 41 = .ok (.istore_n 1, 1) := by decide +kernel
theorem dX8_look_42 : decode cX8_look 42 = .ok (.iinc 2 1, 3) := by decide +kernel
theorem dX8_look_45 : decode cX8_look 45 = .ok (.goto (-37), 3) := by decide +kernel
theorem dX8_look_48 : decode cX8_look 48 = .ok (.iload_n 1, 1) := by decide +kernel
theorem dX8_look_49 : decode cX8_look 49 = .ok (.ifCond .eq 8, 3) := by decide +kernel
theorem dX8_look_52 : decode cX8_look 52 = .ok (.aload_n 0, 1) := by decide +kernel
theorem dX8_look_53 : decode cX8_look 53 = .ok (.invokevirtual 255, 3) := by decide +kernel
theorem dX8_look_56 : decode cX8_look 56 = .ok (.return_, 1) := by decide +kernel
theorem dX8_look_57 : decode cX8_look 57 = .ok (.iconst 0, 1) := by decide +kernel
theorem dX8_look_58 : decode cX8_look 58 = .ok (.istore_n 2, 1) := by decide +kernel
theorem dX8_look_59 : decode cX8_look 59 = .ok (.iload_n 2, 1) := by decide +kernel
theorem dX8_look_60 : decode cX8_look 60 = .ok (.iconst 4, 1) := by decide +kernel
theorem dX8_look_61 : decode cX8_look 61 = .ok (.if_icmp .ge 25, 3) := by decide +kernel
theorem dX8_look_64 : decode cX8_look 64 = .ok (.aload_n 0, 1) := by decide +kernel
theorem dX8_look_65 : decode cX8_look 65 = .ok (.getfield 44, 3) := by decide +kernel
theorem dX8_look_68 : decode cX8_look 68 = .ok (.iload_n 2, 1) := by decide +kernel
theorem dX8_look_69 : decode cX8_look 69 = .ok (.laload, 1) := by decide +kernel
theorem dX8_look_70 : decode cX8_look 70 = .ok (.aload_n 0, 1) := by decide +kernel
theorem dX8_look_71 : decode cX8_look 71 = .ok (.getfield 47, 3) := by decide +kernel
theorem dX8_look_74 : decode cX8_look 74 = .ok (.iload_n 2, 1) := by decide +kernel
theorem dX8_look_75 : decode cX8_look 75 = .ok (.laload, 1) := by decide +kernel
theorem dX8_look_76 : decode cX8_look 76 = .ok (.lcmp, 1) := by decide +kernel
theorem dX8_look_77 : decode cX8_look 77 = .ok (.ifCond .ne 9, 3) := by decide +kernel
theorem dX8_look_80 : decode cX8_look 80 = .ok (.iinc 2 1, 3) := by decide +kernel
theorem dX8_look_83 : decode cX8_look 83 = .ok (.goto (-24), 3) := by decide +kernel
theorem dX8_look_86 : decode cX8_look 86 = .ok (.iload_n 2, 1) := by decide +kernel
theorem dX8_look_87 : decode cX8_look 87 = .ok (.iconst 4, 1) := by decide +kernel
theorem dX8_look_88 : decode cX8_look 88 = .ok (.if_icmp .ne 65, 3) := by decide +kernel
theorem dX8_look_91 : decode cX8_look 91 = .ok (.aload_n 0, 1) := by decide +kernel
theorem dX8_look_92 : decode cX8_look 92 = .ok (.aload_n 0, 1) := by decide +kernel
theorem dX8_look_93 : decode cX8_look 93 = .ok (.getfield 147, 3) := by decide +kernel
theorem dX8_look_96 : decode cX8_look 96 = .ok (.iconst 1, 1) := by decide +kernel
theorem dX8_look_97 : decode cX8_look 97 = .ok (.isub, 1) := by decide +kernel
theorem dX8_look_98 : decode cX8_look 98 = .ok (.aload_n 0, 1) := by decide +kernel
theorem dX8_look_99 : decode cX8_look 99 = .ok (.getfield 44, 3) := by decide +kernel
theorem dX8_look_102 : decode cX8_look 102 = .ok (.invokevirtual 183, 3) := by decide +kernel
theorem dX8_look_105 : decode cX8_look 105 = .ok (.iconst 1, 1) := by decide +kernel
theorem dX8_look_106 : decode cX8_look 106 = .ok (.istore_n 3, 1) := by decide +kernel
theorem dX8_look_107 : decode cX8_look 107 = .ok (.iconst 0, 1) := by decide +kernel
theorem dX8_look_108 : decode cX8_look 108 = .ok (.istore 4, 2) := by decide +kernel
theorem dX8_look_110 : decode cX8_look 110 = .ok (.iload 4, 2) := by decide +kernel
theorem dX8_look_112 : decode cX8_look 112 = .ok (.aload_n 0, 1) := by decide +kernel
theorem dX8_look_113 : decode cX8_look 113 = .ok (.getfield 167, 3) := by decide +kernel
theorem dX8_look_116 : decode cX8_look 116 = .ok (.if_icmp .ge 28, 3) := by decide +kernel
theorem dX8_look_119 : decode cX8_look 119 = .ok (.iload_n 3, 1) := by decide +kernel
theorem dX8_look_120 : decode cX8_look 120 = .ok (.ifCond .eq 16, 3) := by decide +kernel
theorem dX8_look_123 : decode cX8_look 123 = .ok (.aload_n 0, 1) := by decide +kernel
theorem dX8_look_124 : decode cX8_look 124 = .ok (.iload 4, 2) := by decide +kernel
theorem dX8_look_126 : decode cX8_look 126 = .ok (.invokevirtual 190, 3) := by decide +kernel
theorem dX8_look_129 : decode cX8_look 129 = .ok (.ifCond .eq 7, 3) := by decide +kernel
theorem dX8_look_132 : decode cX8_look 132 = .ok (.iconst 1, 1) := by decide +kernel
theorem dX8_look_133 : decode cX8_look 133 = .ok (.goto 4, 3) := by decide +kernel
theorem dX8_look_136 : decode cX8_look 136 = .ok (.iconst 0, 1) := by decide +kernel
theorem dX8_look_137 : decode cX8_look 137 = .ok (.istore_n 3, 1) := by decide +kernel
theorem dX8_look_138 : decode cX8_look 138 = .ok (.iinc 4 1, 3) := by decide +kernel
theorem dX8_look_141 : decode cX8_look 141 = .ok (.goto (-31), 3) := by decide +kernel
theorem dX8_look_144 : decode cX8_look 144 = .ok (.iload_n 3, 1) := by decide +kernel
theorem dX8_look_145 : decode cX8_look 145 = .ok (.ifCond .eq 7, 3) := by decide +kernel
theorem dX8_look_148 : decode cX8_look 148 = .ok (.aload_n 0, 1) := by decide +kernel
theorem dX8_look_149 : decode cX8_look 149 = .ok (.invokevirtual 255, 3) := by decide +kernel
theorem dX8_look_152 : decode cX8_look 152 = .ok (.return_, 1) := by decide +kernel
theorem dX8_look_153 : decode cX8_look 153 = .ok (.aload_n 0, 1) := by decide +kernel
theorem dX8_look_154 : decode cX8_look 154 = .ok (.dup, 1) := by decide +kernel
theorem dX8_look_155 : decode cX8_look 155 = .ok (.getfield 243, 3) := by decide +kernel
theorem dX8_look_158 : decode cX8_look 158 = .ok (.iconst 1, 1) := by decide +kernel
theorem dX8_look_159 : decode cX8_look 159 = .ok (.iadd, 1) := by decide +kernel
theorem dX8_look_160 : decode cX8_look 160 = .ok (.putfield 243, 3) := by decide +kernel
theorem dX8_look_163 : decode cX8_look 163 = .ok (.aload_n 0, 1) := by decide +kernel
theorem dX8_look_164 : decode cX8_look 164 = .ok (.getfield 44, 3) := by decide +kernel
theorem dX8_look_167 : decode cX8_look 167 = .ok (.iload_n 2, 1) := by decide +kernel
theorem dX8_look_168 : decode cX8_look 168 = .ok (.laload, 1) := by decide +kernel
theorem dX8_look_169 : decode cX8_look 169 = .ok (.lstore_n 3, 1) := by decide +kernel
theorem dX8_look_170 : decode cX8_look 170 = .ok (.aload_n 0, 1) := by decide +kernel
theorem dX8_look_171 : decode cX8_look 171 = .ok (.getfield 47, 3) := by decide +kernel
theorem dX8_look_174 : decode cX8_look 174 = .ok (.iload_n 2, 1) := by decide +kernel
theorem dX8_look_175 : decode cX8_look 175 = .ok (.laload, 1) := by decide +kernel
theorem dX8_look_176 : decode cX8_look 176 = .ok (.lstore 5, 2) := by decide +kernel
theorem dX8_look_178 : decode cX8_look 178 = .ok (.lload_n 3, 1) := by decide +kernel
theorem dX8_look_179 : decode cX8_look 179 = .ok (.lload 5, 2) := by decide +kernel
theorem dX8_look_181 : decode cX8_look 181 = .ok (.ladd, 1) := by decide +kernel
theorem dX8_look_182 : decode cX8_look 182 = .ok (.iconst 1, 1) := by decide +kernel
theorem dX8_look_183 : decode cX8_look 183 = .ok (.lshr, 1) := by decide +kernel
theorem dX8_look_184 : decode cX8_look 184 = .ok (.lstore 7, 2) := by decide +kernel
theorem dX8_look_186 : decode cX8_look 186 = .ok (.aload_n 0, 1) := by decide +kernel
theorem dX8_look_187 : decode cX8_look 187 = .ok (.getfield 44, 3) := by decide +kernel
theorem dX8_look_190 : decode cX8_look 190 = .ok (.iload_n 2, 1) := by decide +kernel
theorem dX8_look_191 : decode cX8_look 191 = .ok (.lload 7, 2) := by decide +kernel
theorem dX8_look_193 : decode cX8_look 193 = .ok (.lconst 1, 1) := by decide +kernel
theorem dX8_look_194 : decode cX8_look 194 = .ok (.ladd, 1) := by decide +kernel
theorem dX8_look_195 : decode cX8_look 195 = .ok (.lastore, 1) := by decide +kernel
theorem dX8_look_196 : decode cX8_look 196 = .ok (.aload_n 0, 1) := by decide +kernel
theorem dX8_look_197 : decode cX8_look 197 = .ok (.invokevirtual 246, 3) := by decide +kernel
theorem dX8_look_200 : decode cX8_look 200 = .ok (.aload_n 0, 1) := by decide +kernel
theorem dX8_look_201 : decode cX8_look 201 = .ok (.getfield 44, 3) := by decide +kernel
theorem dX8_look_204 : decode cX8_look 204 = .ok (.iload_n 2, 1) := by decide +kernel
theorem dX8_look_205 : decode cX8_look 205 = .ok (.lload_n 3, 1) := by decide +kernel
theorem dX8_look_206 : decode cX8_look 206 = .ok (.lastore, 1) := by decide +kernel
theorem dX8_look_207 : decode cX8_look 207 = .ok (.aload_n 0, 1) := by decide +kernel
theorem dX8_look_208 : decode cX8_look 208 = .ok (.getfield 47, 3) := by decide +kernel
theorem dX8_look_211 : decode cX8_look 211 = .ok (.iload_n 2, 1) := by decide +kernel
theorem dX8_look_212 : decode cX8_look 212 = .ok (.lload 7, 2) := by decide +kernel
theorem dX8_look_214 : decode cX8_look 214 = .ok (.lastore, 1) := by decide +kernel
theorem dX8_look_215 : decode cX8_look 215 = .ok (.aload_n 0, 1) := by decide +kernel
theorem dX8_look_216 : decode cX8_look 216 = .ok (.invokevirtual 246, 3) := by decide +kernel
theorem dX8_look_219 : decode cX8_look 219 = .ok (.return_, 1) := by decide +kernel
theorem dX8_solved_0 : decode cX8_solved 0 = .ok (.aload_n 0, 1) := by decide +kernel
theorem dX8_solved_1 : decode cX8_solved 1 = .ok (.iconst 0, 1) := by decide +kernel
theorem dX8_solved_2 : decode cX8_solved 2 = .ok (.putfield 70, 3) := by decide +kernel
theorem dX8_solved_5 : decode cX8_solved 5 = .ok (.aload_n 0, 1) := by decide +kernel
theorem dX8_solved_6 : decode cX8_solved 6 = .ok (.getfield 236, 3) := by decide +kernel
theorem dX8_solved_9 : decode cX8_solved 9 = .ok (.ifCond .eq 28, 3) := by decide +kernel
theorem dX8_solved_12 : decode cX8_solved 12 = .ok (.iload_n 1, 1) := by decide +kernel
theorem dX8_solved_13 : decode cX8_solved 13 = .ok (.i2l, 1) := by decide +kernel
theorem dX8_solved_14 : decode cX8_solved 14 = .ok (.lconst 0, 1) := by decide +kernel
theorem dX8_solved_15 : decode cX8_solved 15 = .ok (.ldc2_w 258, 3) := by decide +kernel
theorem dX8_solved_18 : decode cX8_solved 18 = .ok (.invokestatic 150, 3) := by decide +kernel
theorem dX8_solved_21 : decode cX8_solved 21 = .ok (.ifCond .eq 16, 3) := by decide +kernel
theorem dX8_solved_24 : decode cX8_solved 24 = .ok (.iload_n 1, 1) := by decide +kernel
theorem dX8_solved_25 : decode cX8_solved 25 = .ok (.iconst 2, 1) := by decide +kernel
theorem dX8_solved_26 : decode cX8_solved 26 = .ok (.if_icmp .le 15, 3) := by decide +kernel
theorem dX8_solved_29 : decode cX8_solved 29 = .ok (.aload_n 0, 1) := by decide +kernel
theorem dX8_solved_30 : decode cX8_solved 30 = .ok (.getfield 231, 3) := by decide +kernel
theorem dX8_solved_33 : decode cX8_solved 33 = .ok (.iconst 1, 1) := by decide +kernel
theorem dX8_solved_34 : decode cX8_solved 34 = .ok (.if_icmp .eq 7, 3) := by decide +kernel
theorem dX8_solved_37 : decode cX8_solved 37 = .ok (.ldc2_w 174, 3) := by decide +kernel
theorem dX8_solved_40 : decode cX8_solved 40 = .ok (.lreturn, 1) := by decide +kernel
theorem dX8_solved_41 : decode cX8_solved 41 = .ok (.iload_n 1, 1) := by decide +kernel
theorem dX8_solved_42 : decode cX8_solved 42 = .ok (.ifCond .ne 11, 3) := by decide +kernel
theorem dX8_solved_45 : decode cX8_solved 45 = .ok (.aload_n 0, 1) := by decide +kernel
theorem dX8_solved_46 : decode cX8_solved 46 = .ok (.getfield 231, 3) := by decide +kernel
theorem dX8_solved_49 : decode cX8_solved 49 = .ok (.i2l, 1) := by decide +kernel
theorem dX8_solved_50 : decode cX8_solved 50 = .ok (.goto 37, 3) := by decide +kernel
theorem dX8_solved_53 : decode cX8_solved 53 = .ok (.iload_n 1, 1) := by decide +kernel
theorem dX8_solved_54 : decode cX8_solved 54 = .ok (.iconst 1, 1) := by decide +kernel
theorem dX8_solved_55 : decode cX8_solved 55 = .ok (.if_icmp .ne 11, 3) := by decide +kernel
theorem dX8_solved_58 : decode cX8_solved 58 = .ok (.aload_n 0, 1) := by decide +kernel
theorem dX8_solved_59 : decode cX8_solved 59 = .ok (.getfield 240, 3) := by decide +kernel
theorem dX8_solved_62 : decode cX8_solved 62 = .ok (.i2l, 1) := by decide +kernel
theorem dX8_solved_63 : decode cX8_solved 63 = .ok (.goto 24, 3) := by decide +kernel
theorem dX8_solved_66 : decode cX8_solved 66 = .ok (.iload_n 1, 1) := by decide +kernel
theorem dX8_solved_67 : decode cX8_solved 67 = .ok (.iconst 2, 1) := by decide +kernel
theorem dX8_solved_68 : decode cX8_solved 68 = .ok (.if_icmp .ne 11, 3) := by decide +kernel
theorem dX8_solved_71 : decode cX8_solved 71 = .ok (.aload_n 0, 1) := by decide +kernel
theorem dX8_solved_72 : decode cX8_solved 72 = .ok (.getfield 243, 3) := by decide +kernel
theorem dX8_solved_75 : decode cX8_solved 75 = .ok (.i2l, 1) := by decide +kernel
theorem dX8_solved_76 : decode cX8_solved 76 = .ok (.goto 11, 3) := by decide +kernel
theorem dX8_solved_79 : decode cX8_solved 79 = .ok (.aload_n 0, 1) := by decide +kernel
theorem dX8_solved_80 : decode cX8_solved 80 = .ok (.getfield 38, 3) := by decide +kernel
theorem dX8_solved_83 : decode cX8_solved 83 = .ok (.iload_n 1, 1) := by decide +kernel
theorem dX8_solved_84 : decode cX8_solved 84 = .ok (.iconst 3, 1) := by decide +kernel
theorem dX8_solved_85 : decode cX8_solved 85 = .ok (.isub, 1) := by decide +kernel
theorem dX8_solved_86 : decode cX8_solved 86 = .ok (.laload, 1) := by decide +kernel
theorem dX8_solved_87 : decode cX8_solved 87 = .ok (.lreturn, 1) := by decide +kernel
theorem dX8_width_0 : decode cX8_width 0 = .ok (.aload_n 0, 1) := by decide +kernel
theorem dX8_width_1 : decode cX8_width 1 = .ok (.iconst 0, 1) := by decide +kernel
theorem dX8_width_2 : decode cX8_width 2 = .ok (.putfield 70, 3) := by decide +kernel
theorem dX8_width_5 : decode cX8_width 5 = .ok (.iload_n 1, 1) := by decide +kernel
theorem dX8_width_6 : decode cX8_width 6 = .ok (.i2l, 1) := by decide +kernel
theorem dX8_width_7 : decode cX8_width 7 = .ok (.lconst 0, 1) := by decide +kernel
theorem dX8_width_8 : decode cX8_width 8 = .ok (.ldc2_w 156, 3) := by decide +kernel
theorem dX8_width_11 : decode cX8_width 11 = .ok (.invokestatic 150, 3) := by decide +kernel
theorem dX8_width_14 : decode cX8_width 14 = .ok (.ifCond .ne 7, 3) := by decide +kernel
theorem dX8_width_17 : decode cX8_width 17 = .ok (.ldc2_w 174, 3) := by decide +kernel
theorem dX8_width_20 : decode cX8_width 20 = .ok (.lreturn, 1) := by decide +kernel
theorem dX8_width_21 : decode cX8_width 21 = .ok (.iload_n 2, 1) := by decide +kernel
theorem dX8_width_22 : decode cX8_width 22 = .ok (.ifCond .ne 10, 3) := by decide +kernel
theorem dX8_width_25 : decode cX8_width 25 = .ok (.aload_n 0, 1) := by decide +kernel
theorem dX8_width_26 : decode cX8_width 26 = .ok (.iconst 1, 1) := by decide +kernel
theorem dX8_width_27 : decode cX8_width 27 = .ok (.putfield 70, 3) := by decide +kernel
theorem dX8_width_30 : decode cX8_width 30 = .ok (.lconst 0, 1) := by decide +kernel
theorem dX8_width_31 : decode cX8_width 31 = .ok (.lreturn, 1) := by decide +kernel
theorem dX8_width_32 : decode cX8_width 32 = .ok (.aload_n 0, 1) := by decide +kernel
theorem dX8_width_33 : decode cX8_width 33 = .ok (.getfield 32, 3) := by decide +kernel
theorem dX8_width_36 : decode cX8_width 36 = .ok (.iload_n 1, 1) := by decide +kernel
theorem dX8_width_37 : decode cX8_width 37 = .ok (.laload, 1) := by decide +kernel
theorem dX8_width_38 : decode cX8_width 38 = .ok (.aload_n 0, 1) := by decide +kernel
theorem dX8_width_39 : decode cX8_width 39 = .ok (.getfield 28, 3) := by decide +kernel
theorem dX8_width_42 : decode cX8_width 42 = .ok (.iload_n 1, 1) := by decide +kernel
theorem dX8_width_43 : decode cX8_width 43 = .ok (.laload, 1) := by decide +kernel
theorem dX8_width_44 : decode cX8_width 44 = .ok (.lsub, 1) := by decide +kernel
theorem dX8_width_45 : decode cX8_width 45 = .ok (.lconst 1, 1) := by decide +kernel
theorem dX8_width_46 : decode cX8_width 46 = .ok (.ladd, 1) := by decide +kernel
theorem dX8_width_47 : decode cX8_width 47 = .ok (.iload_n 2, 1) := by decide +kernel
theorem dX8_width_48 : decode cX8_width 48 = .ok (.i2l, 1) := by decide +kernel
theorem dX8_width_49 : decode cX8_width 49 = .ok (.ldiv, 1) := by decide +kernel
theorem dX8_width_50 : decode cX8_width 50 = .ok (.lreturn, 1) := by decide +kernel
theorem dJ7_fill_53178_0 : decode cJ7_fill_53178 0 = .ok (.iconst 0, 1) := by decide +kernel
theorem dJ7_fill_53178_1 : decode cJ7_fill_53178 1 = .ok (.istore_n 2, 1) := by decide +kernel
theorem dJ7_fill_53178_2 : decode cJ7_fill_53178 2 = .ok (.aload_n 0, 1) := by decide +kernel
theorem dJ7_fill_53178_3 : decode cJ7_fill_53178 3 = .ok (.arraylength, 1) := by decide +kernel
theorem dJ7_fill_53178_4 : decode cJ7_fill_53178 4 = .ok (.istore_n 3, 1) := by decide +kernel
theorem dJ7_fill_53178_5 : decode cJ7_fill_53178 5 = .ok (.iload_n 2, 1) := by decide +kernel
theorem dJ7_fill_53178_6 : decode cJ7_fill_53178 6 = .ok (.iload_n 3, 1) := by decide +kernel
theorem dJ7_fill_53178_7 : decode cJ7_fill_53178 7 = .ok (.if_icmp .ge 13, 3) := by decide +kernel
theorem dJ7_fill_53178_10 : decode cJ7_fill_53178 10 = .ok (.aload_n 0, 1) := by decide +kernel
theorem dJ7_fill_53178_11 : decode cJ7_fill_53178 11 = .ok (.iload_n 2, 1) := by decide +kernel
theorem dJ7_fill_53178_12 : decode cJ7_fill_53178 12 = .ok (.iload_n 1, 1) := by decide +kernel
theorem dJ7_fill_53178_13 : decode cJ7_fill_53178 13 = .ok (.iastore, 1) := by decide +kernel
theorem dJ7_fill_53178_14 : decode cJ7_fill_53178 14 = .ok (.iinc 2 1, 3) := by decide +kernel
theorem dJ7_fill_53178_17 : decode cJ7_fill_53178 17 = .ok (.goto (-12), 3) := by decide +kernel
theorem dJ7_fill_53178_20 : decode cJ7_fill_53178 20 = .ok (.return_, 1) := by decide +kernel
theorem dL_width_0 : decode cL_width 0 = .ok (.aload_n 3, 1) := by decide +kernel
theorem dL_width_1 : decode cL_width 1 = .ok (.iconst 0, 1) := by decide +kernel
theorem dL_width_2 : decode cL_width 2 = .ok (.aload_n 0, 1) := by decide +kernel
theorem dL_width_3 : decode cL_width 3 = .ok (.iload_n 1, 1) := by decide +kernel
theorem dL_width_4 : decode cL_width 4 = .ok (.iload_n 2, 1) := by decide +kernel
theorem dL_width_5 : decode cL_width 5 = .ok (.invokevirtual 7, 3) := by decide +kernel
theorem dL_width_8 : decode cL_width 8 = .ok (.lastore, 1) := by decide +kernel
theorem dL_width_9 : decode cL_width 9 = .ok (.goto 7, 3) := by decide +kernel
theorem dL_width_12 : decode cL_width 12 = .ok (.astore 4, 2) := by decide +kernel
theorem dL_width_14 : decode cL_width 14 = .ok (.iconst 1, 1) := by decide +kernel
theorem dL_width_15 : decode cL_width 15 = .ok (.ireturn, 1) := by decide +kernel
theorem dL_width_16 : decode cL_width 16 = .ok (.iconst 0, 1) := by decide +kernel
theorem dL_width_17 : decode cL_width 17 = .ok (.ireturn, 1) := by decide +kernel
theorem dL_law_0 : decode cL_law 0 = .ok (.new 8, 3) := by decide +kernel
theorem dL_law_3 : decode cL_law 3 = .ok (.dup, 1) := by decide +kernel
theorem dL_law_4 : decode cL_law 4 = .ok (.invokespecial 15, 3) := by decide +kernel
theorem dL_law_7 : decode cL_law 7 = .ok (.astore_n 1, 1) := by decide +kernel
theorem dL_law_8 : decode cL_law 8 = .ok (.new 16, 3) := by decide +kernel
theorem dL_law_11 : decode cL_law 11 = .ok (.dup, 1) := by decide +kernel
theorem dL_law_12 : decode cL_law 12 = .ok (.invokespecial 18, 3) := by decide +kernel
theorem dL_law_15 : decode cL_law 15 = .ok (.astore_n 2, 1) := by decide +kernel
theorem dL_law_16 : decode cL_law 16 = .ok (.iconst 1, 1) := by decide +kernel
theorem dL_law_17 : decode cL_law 17 = .ok (.newarray .long, 2) := by decide +kernel
theorem dL_law_19 : decode cL_law 19 = .ok (.astore_n 3, 1) := by decide +kernel
theorem dL_law_20 : decode cL_law 20 = .ok (.iconst 0, 1) := by decide +kernel
theorem dL_law_21 : decode cL_law 21 = .ok (.istore 4, 2) := by decide +kernel
theorem dL_law_23 : decode cL_law 23 = .ok (.iload 4, 2) := by decide +kernel
theorem dL_law_25 : decode cL_law 25 = .ok (.aload_n 0, 1) := by decide +kernel
theorem dL_law_26 : decode cL_law 26 = .ok (.arraylength, 1) := by decide +kernel
theorem dL_law_27 : decode cL_law 27 = .ok (.iconst 4, 1) := by decide +kernel
theorem dL_law_28 : decode cL_law 28 = .ok (.isub, 1) := by decide +kernel
theorem dL_law_29 : decode cL_law 29 = .ok (.if_icmp .gt 566, 3) := by decide +kernel
theorem dL_law_32 : decode cL_law 32 = .ok (.aload_n 0, 1) := by decide +kernel
theorem dL_law_33 : decode cL_law 33 = .ok (.iload 4, 2) := by decide +kernel
theorem dL_law_35 : decode cL_law 35 = .ok (.iaload, 1) := by decide +kernel
theorem dL_law_36 : decode cL_law 36 = .ok (.bipush 15, 2) := by decide +kernel
theorem dL_law_38 : decode cL_law 38 = .ok (.iand, 1) := by decide +kernel
theorem dL_law_39 : decode cL_law 39 = .ok (.tableswitch 550 0 13 #[69, 118, 167, 180, 229, 266, 292, 318, 344, 369, 407, 432, 457, 483], 69) := by decide +kernel
theorem dL_law_108 : decode cL_law 108 = .ok (.aload_n 1, 1) := by decide +kernel
theorem dL_law_109 : decode cL_law 109 = .ok (.aload_n 0, 1) := by decide +kernel
theorem dL_law_110 : decode cL_law 110 = .ok (.iload 4, 2) := by decide +kernel
theorem dL_law_112 : decode cL_law 112 = .ok (.iconst 1, 1) := by decide +kernel
theorem dL_law_113 : decode cL_law 113 = .ok (.iadd, 1) := by decide +kernel
theorem dL_law_114 : decode cL_law 114 = .ok (.iaload, 1) := by decide +kernel
theorem dL_law_115 : decode cL_law 115 = .ok (.aload_n 0, 1) := by decide +kernel
theorem dL_law_116 : decode cL_law 116 = .ok (.iload 4, 2) := by decide +kernel
theorem dL_law_118 : decode cL_law 118 = .ok (.iconst 2, 1) := by decide +kernel
theorem dL_law_119 : decode cL_law 119 = .ok (.iadd, 1) := by decide +kernel
theorem dL_law_120 : decode cL_law 120 = .ok (.iaload, 1) := by decide +kernel
theorem dL_law_121 : decode cL_law 121 = .ok (.aload_n 0, 1) := by decide +kernel
theorem dL_law_122 : decode cL_law 122 = .ok (.iload 4, 2) := by decide +kernel
theorem dL_law_124 : decode cL_law 124 = .ok (.iconst 3, 1) := by decide +kernel
theorem dL_law_125 : decode cL_law 125 = .ok (.iadd, 1) := by decide +kernel
theorem dL_law_126 : decode cL_law 126 = .ok (.iaload, 1) := by decide +kernel
theorem dL_law_127 : decode cL_law 127 = .ok (.invokevirtual 19, 3) := by decide +kernel
theorem dL_law_130 : decode cL_law 130 = .ok (.aload_n 2, 1) := by decide +kernel
theorem dL_law_131 : decode cL_law 131 = .ok (.aload_n 0, 1) := by decide +kernel
theorem dL_law_132 : decode cL_law 132 = .ok (.iload 4, 2) := by decide +kernel
theorem dL_law_134 : decode cL_law 134 = .ok (.iconst 1, 1) := by decide +kernel
theorem dL_law_135 : decode cL_law 135 = .ok (.iadd, 1) := by decide +kernel
theorem dL_law_136 : decode cL_law 136 = .ok (.iaload, 1) := by decide +kernel
theorem dL_law_137 : decode cL_law 137 = .ok (.aload_n 0, 1) := by decide +kernel
theorem dL_law_138 : decode cL_law 138 = .ok (.iload 4, 2) := by decide +kernel
theorem dL_law_140 : decode cL_law 140 = .ok (.iconst 2, 1) := by decide +kernel
theorem dL_law_141 : decode cL_law 141 = .ok (.iadd, 1) := by decide +kernel
theorem dL_law_142 : decode cL_law 142 = .ok (.iaload, 1) := by decide +kernel
theorem dL_law_143 : decode cL_law 143 = .ok (.aload_n 0, 1) := by decide +kernel
theorem dL_law_144 : decode cL_law 144 = .ok (.iload 4, 2) := by decide +kernel
theorem dL_law_146 : decode cL_law 146 = .ok (.iconst 3, 1) := by decide +kernel
theorem dL_law_147 : decode cL_law 147 = .ok (.iadd, 1) := by decide +kernel
theorem dL_law_148 : decode cL_law 148 = .ok (.iaload, 1) := by decide +kernel
theorem dL_law_149 : decode cL_law 149 = .ok (.invokevirtual 23, 3) := by decide +kernel
theorem dL_law_152 : decode cL_law 152 = .ok (.if_icmp .eq 437, 3) := by decide +kernel
theorem dL_law_155 : decode cL_law 155 = .ok (.iconst 0, 1) := by decide +kernel
theorem dL_law_156 : decode cL_law 156 = .ok (.ireturn, 1) := by decide +kernel
theorem dL_law_157 : decode cL_law 157 = .ok (.aload_n 1, 1) := by decide +kernel
theorem dL_law_158 : decode cL_law 158 = .ok (.aload_n 0, 1) := by decide +kernel
theorem dL_law_159 : decode cL_law 159 = .ok (.iload 4, 2) := by decide +kernel
theorem dL_law_161 : decode cL_law 161 = .ok (.iconst 1, 1) := by decide +kernel
theorem dL_law_162 : decode cL_law 162 = .ok (.iadd, 1) := by decide +kernel
theorem dL_law_163 : decode cL_law 163 = .ok (.iaload, 1) := by decide +kernel
theorem dL_law_164 : decode cL_law 164 = .ok (.aload_n 0, 1) := by decide +kernel
theorem dL_law_165 : decode cL_law 165 = .ok (.iload 4, 2) := by decide +kernel
theorem dL_law_167 : decode cL_law 167 = .ok (.iconst 2, 1) := by decide +kernel
theorem dL_law_168 : decode cL_law 168 = .ok (.iadd, 1) := by decide +kernel
theorem dL_law_169 : decode cL_law 169 = .ok (.iaload, 1) := by decide +kernel
theorem dL_law_170 : decode cL_law 170 = .ok (.aload_n 0, 1) := by decide +kernel
theorem dL_law_171 : decode cL_law 171 = .ok (.iload 4, 2) := by decide +kernel
theorem dL_law_173 : decode cL_law 173 = .ok (.iconst 3, 1) := by decide +kernel
theorem dL_law_174 : decode cL_law 174 = .ok (.iadd, 1) := by decide +kernel
theorem dL_law_175 : decode cL_law 175 = .ok (.iaload, 1) := by decide +kernel
theorem dL_law_176 : decode cL_law 176 = .ok (.invokevirtual 24, 3) := by decide +kernel
theorem dL_law_179 : decode cL_law 179 = .ok (.aload_n 2, 1) := by decide +kernel
theorem dL_law_180 : decode cL_law 180 = .ok (.aload_n 0, 1) := by decide +kernel
theorem dL_law_181 : decode cL_law 181 = .ok (.iload 4, 2) := by decide +kernel
theorem dL_law_183 : decode cL_law 183 = .ok (.iconst 1, 1) := by decide +kernel
theorem dL_law_184 : decode cL_law 184 = .ok (.iadd, 1) := by decide +kernel
theorem dL_law_185 : decode cL_law 185 = .ok (.iaload, 1) := by decide +kernel
theorem dL_law_186 : decode cL_law 186 = .ok (.aload_n 0, 1) := by decide +kernel
theorem dL_law_187 : decode cL_law 187 = .ok (.iload 4, 2) := by decide +kernel
theorem dL_law_189 : decode cL_law 189 = .ok (.iconst 2, 1) := by decide +kernel
theorem dL_law_190 : decode cL_law 190 = .ok (.iadd, 1) := by decide +kernel
theorem dL_law_191 : decode cL_law 191 = .ok (.iaload, 1) := by decide +kernel
theorem dL_law_192 : decode cL_law 192 = .ok (.aload_n 0, 1) := by decide +kernel
theorem dL_law_193 : decode cL_law 193 = .ok (.iload 4, 2) := by decide +kernel
theorem dL_law_195 : decode cL_law 195 = .ok (.iconst 3, 1) := by decide +kernel
theorem dL_law_196 : decode cL_law 196 = .ok (.iadd, 1) := by decide +kernel
theorem dL_law_197 : decode cL_law 197 = .ok (.iaload, 1) := by decide +kernel
theorem dL_law_198 : decode cL_law 198 = .ok (.invokevirtual 27, 3) := by decide +kernel
theorem dL_law_201 : decode cL_law 201 = .ok (.if_icmp .eq 388, 3) := by decide +kernel
theorem dL_law_204 : decode cL_law 204 = .ok (.iconst 0, 1) := by decide +kernel
theorem dL_law_205 : decode cL_law 205 = .ok (.ireturn, 1) := by decide +kernel
theorem dL_law_206 : decode cL_law 206 = .ok (.aload_n 1, 1) := by decide +kernel
theorem dL_law_207 : decode cL_law 207 = .ok (.invokevirtual 28, 3) := by decide +kernel
theorem dL_law_210 : decode cL_law 210 = .ok (.aload_n 2, 1) := by decide +kernel
theorem dL_law_211 : decode cL_law 211 = .ok (.invokevirtual 32, 3) := by decide +kernel
theorem dL_law_214 : decode cL_law 214 = .ok (.if_icmp .eq 375, 3) := by decide +kernel
theorem dL_law_217 : decode cL_law 217 = .ok (.iconst 0, 1) := by decide +kernel
theorem dL_law_218 : decode cL_law 218 = .ok (.ireturn, 1) := by decide +kernel
theorem dL_law_219 : decode cL_law 219 = .ok (.aload_n 1, 1) := by decide +kernel
theorem dL_law_220 : decode cL_law 220 = .ok (.aload_n 0, 1) := by decide +kernel
theorem dL_law_221 : decode cL_law 221 = .ok (.iload 4, 2) := by decide +kernel
theorem dL_law_223 : decode cL_law 223 = .ok (.iconst 1, 1) := by decide +kernel
theorem dL_law_224 : decode cL_law 224 = .ok (.iadd, 1) := by decide +kernel
theorem dL_law_225 : decode cL_law 225 = .ok (.iaload, 1) := by decide +kernel
theorem dL_law_226 : decode cL_law 226 = .ok (.aload_n 0, 1) := by decide +kernel
theorem dL_law_227 : decode cL_law 227 = .ok (.iload 4, 2) := by decide +kernel
theorem dL_law_229 : decode cL_law 229 = .ok (.iconst 2, 1) := by decide +kernel
theorem dL_law_230 : decode cL_law 230 = .ok (.iadd, 1) := by decide +kernel
theorem dL_law_231 : decode cL_law 231 = .ok (.iaload, 1) := by decide +kernel
theorem dL_law_232 : decode cL_law 232 = .ok (.aload_n 0, 1) := by decide +kernel
theorem dL_law_233 : decode cL_law 233 = .ok (.iload 4, 2) := by decide +kernel
theorem dL_law_235 : decode cL_law 235 = .ok (.iconst 3, 1) := by decide +kernel
theorem dL_law_236 : decode cL_law 236 = .ok (.iadd, 1) := by decide +kernel
theorem dL_law_237 : decode cL_law 237 = .ok (.iaload, 1) := by decide +kernel
theorem dL_law_238 : decode cL_law 238 = .ok (.invokevirtual 33, 3) := by decide +kernel
theorem dL_law_241 : decode cL_law 241 = .ok (.aload_n 2, 1) := by decide +kernel
theorem dL_law_242 : decode cL_law 242 = .ok (.aload_n 0, 1) := by decide +kernel
theorem dL_law_243 : decode cL_law 243 = .ok (.iload 4, 2) := by decide +kernel
theorem dL_law_245 : decode cL_law 245 = .ok (.iconst 1, 1) := by decide +kernel
theorem dL_law_246 : decode cL_law 246 = .ok (.iadd, 1) := by decide +kernel
theorem dL_law_247 : decode cL_law 247 = .ok (.iaload, 1) := by decide +kernel
theorem dL_law_248 : decode cL_law 248 = .ok (.aload_n 0, 1) := by decide +kernel
theorem dL_law_249 : decode cL_law 249 = .ok (.iload 4, 2) := by decide +kernel
theorem dL_law_251 : decode cL_law 251 = .ok (.iconst 2, 1) := by decide +kernel
theorem dL_law_252 : decode cL_law 252 = .ok (.iadd, 1) := by decide +kernel
theorem dL_law_253 : decode cL_law 253 = .ok (.iaload, 1) := by decide +kernel
theorem dL_law_254 : decode cL_law 254 = .ok (.aload_n 0, 1) := by decide +kernel
theorem dL_law_255 : decode cL_law 255 = .ok (.iload 4, 2) := by decide +kernel
theorem dL_law_257 : decode cL_law 257 = .ok (.iconst 3, 1) := by decide +kernel
theorem dL_law_258 : decode cL_law 258 = .ok (.iadd, 1) := by decide +kernel
theorem dL_law_259 : decode cL_law 259 = .ok (.iaload, 1) := by decide +kernel
theorem dL_law_260 : decode cL_law 260 = .ok (.invokevirtual 36, 3) := by decide +kernel
theorem dL_law_263 : decode cL_law 263 = .ok (.if_icmp .eq 326, 3) := by decide +kernel
theorem dL_law_266 : decode cL_law 266 = .ok (.iconst 0, 1) := by decide +kernel
theorem dL_law_267 : decode cL_law 267 = .ok (.ireturn, 1) := by decide +kernel
theorem dL_law_268 : decode cL_law 268 = .ok (.aload_n 1, 1) := by decide +kernel
theorem dL_law_269 : decode cL_law 269 = .ok (.aload_n 0, 1) := by decide +kernel
theorem dL_law_270 : decode cL_law 270 = .ok (.iload 4, 2) := by decide +kernel
theorem dL_law_272 : decode cL_law 272 = .ok (.iconst 1, 1) := by decide +kernel
theorem dL_law_273 : decode cL_law 273 = .ok (.iadd, 1) := by decide +kernel
theorem dL_law_274 : decode cL_law 274 = .ok (.iaload, 1) := by decide +kernel
theorem dL_law_275 : decode cL_law 275 = .ok (.aload_n 0, 1) := by decide +kernel
theorem dL_law_276 : decode cL_law 276 = .ok (.iload 4, 2) := by decide +kernel
theorem dL_law_278 : decode cL_law 278 = .ok (.iconst 2, 1) := by decide +kernel
theorem dL_law_279 : decode cL_law 279 = .ok (.iadd, 1) := by decide +kernel
theorem dL_law_280 : decode cL_law 280 = .ok (.iaload, 1) := by decide +kernel
theorem dL_law_281 : decode cL_law 281 = .ok (.invokevirtual 37, 3) := by decide +kernel
theorem dL_law_284 : decode cL_law 284 = .ok (.aload_n 2, 1) := by decide +kernel
theorem dL_law_285 : decode cL_law 285 = .ok (.aload_n 0, 1) := by decide +kernel
theorem dL_law_286 : decode cL_law 286 = .ok (.iload 4, 2) := by decide +kernel
theorem dL_law_288 : decode cL_law 288 = .ok (.iconst 1, 1) := by decide +kernel
theorem dL_law_289 : decode cL_law 289 = .ok (.iadd, 1) := by decide +kernel
theorem dL_law_290 : decode cL_law 290 = .ok (.iaload, 1) := by decide +kernel
theorem dL_law_291 : decode cL_law 291 = .ok (.aload_n 0, 1) := by decide +kernel
theorem dL_law_292 : decode cL_law 292 = .ok (.iload 4, 2) := by decide +kernel
theorem dL_law_294 : decode cL_law 294 = .ok (.iconst 2, 1) := by decide +kernel
theorem dL_law_295 : decode cL_law 295 = .ok (.iadd, 1) := by decide +kernel
theorem dL_law_296 : decode cL_law 296 = .ok (.iaload, 1) := by decide +kernel
theorem dL_law_297 : decode cL_law 297 = .ok (.invokevirtual 41, 3) := by decide +kernel
theorem dL_law_300 : decode cL_law 300 = .ok (.if_icmp .eq 289, 3) := by decide +kernel
theorem dL_law_303 : decode cL_law 303 = .ok (.iconst 0, 1) := by decide +kernel
theorem dL_law_304 : decode cL_law 304 = .ok (.ireturn, 1) := by decide +kernel
theorem dL_law_305 : decode cL_law 305 = .ok (.aload_n 1, 1) := by decide +kernel
theorem dL_law_306 : decode cL_law 306 = .ok (.aload_n 0, 1) := by decide +kernel
theorem dL_law_307 : decode cL_law 307 = .ok (.iload 4, 2) := by decide +kernel
theorem dL_law_309 : decode cL_law 309 = .ok (.iconst 1, 1) := by decide +kernel
theorem dL_law_310 : decode cL_law 310 = .ok (.iadd, 1) := by decide +kernel
theorem dL_law_311 : decode cL_law 311 = .ok (.iaload, 1) := by decide +kernel
theorem dL_law_312 : decode cL_law 312 = .ok (.invokevirtual 42, 3) := by decide +kernel
theorem dL_law_315 : decode cL_law 315 = .ok (.aload_n 2, 1) := by decide +kernel
theorem dL_law_316 : decode cL_law 316 = .ok (.aload_n 0, 1) := by decide +kernel
theorem dL_law_317 : decode cL_law 317 = .ok (.iload 4, 2) := by decide +kernel
theorem dL_law_319 : decode cL_law 319 = .ok (.iconst 1, 1) := by decide +kernel
theorem dL_law_320 : decode cL_law 320 = .ok (.iadd, 1) := by decide +kernel
theorem dL_law_321 : decode cL_law 321 = .ok (.iaload, 1) := by decide +kernel
theorem dL_law_322 : decode cL_law 322 = .ok (.invokevirtual 46, 3) := by decide +kernel
theorem dL_law_325 : decode cL_law 325 = .ok (.lcmp, 1) := by decide +kernel
theorem dL_law_326 : decode cL_law 326 = .ok (.ifCond .eq 263, 3) := by decide +kernel
theorem dL_law_329 : decode cL_law 329 = .ok (.iconst 0, 1) := by decide +kernel
theorem dL_law_330 : decode cL_law 330 = .ok (.ireturn, 1) := by decide +kernel
theorem dL_law_331 : decode cL_law 331 = .ok (.aload_n 1, 1) := by decide +kernel
theorem dL_law_332 : decode cL_law 332 = .ok (.aload_n 0, 1) := by decide +kernel
theorem dL_law_333 : decode cL_law 333 = .ok (.iload 4, 2) := by decide +kernel
theorem dL_law_335 : decode cL_law 335 = .ok (.iconst 1, 1) := by decide +kernel
theorem dL_law_336 : decode cL_law 336 = .ok (.iadd, 1) := by decide +kernel
theorem dL_law_337 : decode cL_law 337 = .ok (.iaload, 1) := by decide +kernel
theorem dL_law_338 : decode cL_law 338 = .ok (.invokevirtual 47, 3) := by decide +kernel
theorem dL_law_341 : decode cL_law 341 = .ok (.aload_n 2, 1) := by decide +kernel
theorem dL_law_342 : decode cL_law 342 = .ok (.aload_n 0, 1) := by decide +kernel
theorem dL_law_343 : decode cL_law 343 = .ok (.iload 4, 2) := by decide +kernel
theorem dL_law_345 : decode cL_law 345 = .ok (.iconst 1, 1) := by decide +kernel
theorem dL_law_346 : decode cL_law 346 = .ok (.iadd, 1) := by decide +kernel
theorem dL_law_347 : decode cL_law 347 = .ok (.iaload, 1) := by decide +kernel
theorem dL_law_348 : decode cL_law 348 = .ok (.invokevirtual 50, 3) := by decide +kernel
theorem dL_law_351 : decode cL_law 351 = .ok (.lcmp, 1) := by decide +kernel
theorem dL_law_352 : decode cL_law 352 = .ok (.ifCond .eq 237, 3) := by decide +kernel
theorem dL_law_355 : decode cL_law 355 = .ok (.iconst 0, 1) := by decide +kernel
theorem dL_law_356 : decode cL_law 356 = .ok (.ireturn, 1) := by decide +kernel
theorem dL_law_357 : decode cL_law 357 = .ok (.aload_n 1, 1) := by decide +kernel
theorem dL_law_358 : decode cL_law 358 = .ok (.aload_n 0, 1) := by decide +kernel
theorem dL_law_359 : decode cL_law 359 = .ok (.iload 4, 2) := by decide +kernel
theorem dL_law_361 : decode cL_law 361 = .ok (.iconst 1, 1) := by decide +kernel
theorem dL_law_362 : decode cL_law 362 = .ok (.iadd, 1) := by decide +kernel
theorem dL_law_363 : decode cL_law 363 = .ok (.iaload, 1) := by decide +kernel
theorem dL_law_364 : decode cL_law 364 = .ok (.invokevirtual 51, 3) := by decide +kernel
theorem dL_law_367 : decode cL_law 367 = .ok (.aload_n 2, 1) := by decide +kernel
theorem dL_law_368 : decode cL_law 368 = .ok (.aload_n 0, 1) := by decide +kernel
theorem dL_law_369 : decode cL_law 369 = .ok (.iload 4, 2) := by decide +kernel
theorem dL_law_371 : decode cL_law 371 = .ok (.iconst 1, 1) := by decide +kernel
theorem dL_law_372 : decode cL_law 372 = .ok (.iadd, 1) := by decide +kernel
theorem dL_law_373 : decode cL_law 373 = .ok (.iaload, 1) := by decide +kernel
theorem dL_law_374 : decode cL_law 374 = .ok (.invokevirtual 54, 3) := by decide +kernel
theorem dL_law_377 : decode cL_law 377 = .ok (.lcmp, 1) := by decide +kernel
theorem dL_law_378 : decode cL_law 378 = .ok (.ifCond .eq 211, 3) := by decide +kernel
theorem dL_law_381 : decode cL_law 381 = .ok (.iconst 0, 1) := by decide +kernel
theorem dL_law_382 : decode cL_law 382 = .ok (.ireturn, 1) := by decide +kernel
theorem dL_law_383 : decode cL_law 383 = .ok (.aload_n 1, 1) := by decide +kernel
theorem dL_law_384 : decode cL_law 384 = .ok (.aload_n 0, 1) := by decide +kernel
theorem dL_law_385 : decode cL_law 385 = .ok (.iload 4, 2) := by decide +kernel
theorem dL_law_387 : decode cL_law 387 = .ok (.iconst 1, 1) := by decide +kernel
theorem dL_law_388 : decode cL_law 388 = .ok (.iadd, 1) := by decide +kernel
theorem dL_law_389 : decode cL_law 389 = .ok (.iaload, 1) := by decide +kernel
theorem dL_law_390 : decode cL_law 390 = .ok (.invokevirtual 55, 3) := by decide +kernel
theorem dL_law_393 : decode cL_law 393 = .ok (.aload_n 2, 1) := by decide +kernel
theorem dL_law_394 : decode cL_law 394 = .ok (.aload_n 0, 1) := by decide +kernel
theorem dL_law_395 : decode cL_law 395 = .ok (.iload 4, 2) := by decide +kernel
theorem dL_law_397 : decode cL_law 397 = .ok (.iconst 1, 1) := by decide +kernel
theorem dL_law_398 : decode cL_law 398 = .ok (.iadd, 1) := by decide +kernel
theorem dL_law_399 : decode cL_law 399 = .ok (.iaload, 1) := by decide +kernel
theorem dL_law_400 : decode cL_law 400 = .ok (.invokevirtual 59, 3) := by decide +kernel
theorem dL_law_403 : decode cL_law 403 = .ok (.if_icmp .eq 186, 3) := by decide +kernel
theorem dL_law_406 : decode cL_law 406 = .ok (.iconst 0, 1) := by decide +kernel
theorem dL_law_407 : decode cL_law 407 = .ok (.ireturn, 1) := by decide +kernel
theorem dL_law_408 : decode cL_law 408 = .ok (.aload_n 1, 1) := by decide +kernel
theorem dL_law_409 : decode cL_law 409 = .ok (.aload_n 0, 1) := by decide +kernel
theorem dL_law_410 : decode cL_law 410 = .ok (.iload 4, 2) := by decide +kernel
theorem dL_law_412 : decode cL_law 412 = .ok (.iconst 1, 1) := by decide +kernel
theorem dL_law_413 : decode cL_law 413 = .ok (.iadd, 1) := by decide +kernel
theorem dL_law_414 : decode cL_law 414 = .ok (.iaload, 1) := by decide +kernel
theorem dL_law_415 : decode cL_law 415 = .ok (.aload_n 0, 1) := by decide +kernel
theorem dL_law_416 : decode cL_law 416 = .ok (.iload 4, 2) := by decide +kernel
theorem dL_law_418 : decode cL_law 418 = .ok (.iconst 2, 1) := by decide +kernel
theorem dL_law_419 : decode cL_law 419 = .ok (.iadd, 1) := by decide +kernel
theorem dL_law_420 : decode cL_law 420 = .ok (.iaload, 1) := by decide +kernel
theorem dL_law_421 : decode cL_law 421 = .ok (.invokevirtual 60, 3) := by decide +kernel
theorem dL_law_424 : decode cL_law 424 = .ok (.aload_n 2, 1) := by decide +kernel
theorem dL_law_425 : decode cL_law 425 = .ok (.aload_n 0, 1) := by decide +kernel
theorem dL_law_426 : decode cL_law 426 = .ok (.iload 4, 2) := by decide +kernel
theorem dL_law_428 : decode cL_law 428 = .ok (.iconst 1, 1) := by decide +kernel
theorem dL_law_429 : decode cL_law 429 = .ok (.iadd, 1) := by decide +kernel
theorem dL_law_430 : decode cL_law 430 = .ok (.iaload, 1) := by decide +kernel
theorem dL_law_431 : decode cL_law 431 = .ok (.aload_n 0, 1) := by decide +kernel
theorem dL_law_432 : decode cL_law 432 = .ok (.iload 4, 2) := by decide +kernel
theorem dL_law_434 : decode cL_law 434 = .ok (.iconst 2, 1) := by decide +kernel
theorem dL_law_435 : decode cL_law 435 = .ok (.iadd, 1) := by decide +kernel
theorem dL_law_436 : decode cL_law 436 = .ok (.iaload, 1) := by decide +kernel
theorem dL_law_437 : decode cL_law 437 = .ok (.invokevirtual 63, 3) := by decide +kernel
theorem dL_law_440 : decode cL_law 440 = .ok (.lcmp, 1) := by decide +kernel
theorem dL_law_441 : decode cL_law 441 = .ok (.ifCond .eq 148, 3) := by decide +kernel
theorem dL_law_444 : decode cL_law 444 = .ok (.iconst 0, 1) := by decide +kernel
theorem dL_law_445 : decode cL_law 445 = .ok (.ireturn, 1) := by decide +kernel
theorem dL_law_446 : decode cL_law 446 = .ok (.aload_n 1, 1) := by decide +kernel
theorem dL_law_447 : decode cL_law 447 = .ok (.aload_n 0, 1) := by decide +kernel
theorem dL_law_448 : decode cL_law 448 = .ok (.iload 4, 2) := by decide +kernel
theorem dL_law_450 : decode cL_law 450 = .ok (.iconst 1, 1) := by decide +kernel
theorem dL_law_451 : decode cL_law 451 = .ok (.iadd, 1) := by decide +kernel
theorem dL_law_452 : decode cL_law 452 = .ok (.iaload, 1) := by decide +kernel
theorem dL_law_453 : decode cL_law 453 = .ok (.invokevirtual 64, 3) := by decide +kernel
theorem dL_law_456 : decode cL_law 456 = .ok (.aload_n 2, 1) := by decide +kernel
theorem dL_law_457 : decode cL_law 457 = .ok (.aload_n 0, 1) := by decide +kernel
theorem dL_law_458 : decode cL_law 458 = .ok (.iload 4, 2) := by decide +kernel
theorem dL_law_460 : decode cL_law 460 = .ok (.iconst 1, 1) := by decide +kernel
theorem dL_law_461 : decode cL_law 461 = .ok (.iadd, 1) := by decide +kernel
theorem dL_law_462 : decode cL_law 462 = .ok (.iaload, 1) := by decide +kernel
theorem dL_law_463 : decode cL_law 463 = .ok (.invokevirtual 67, 3) := by decide +kernel
theorem dL_law_466 : decode cL_law 466 = .ok (.if_icmp .eq 123, 3) := by decide +kernel
theorem dL_law_469 : decode cL_law 469 = .ok (.iconst 0, 1) := by decide +kernel
theorem dL_law_470 : decode cL_law 470 = .ok (.ireturn, 1) := by decide +kernel
theorem dL_law_471 : decode cL_law 471 = .ok (.aload_n 1, 1) := by decide +kernel
theorem dL_law_472 : decode cL_law 472 = .ok (.aload_n 0, 1) := by decide +kernel
theorem dL_law_473 : decode cL_law 473 = .ok (.iload 4, 2) := by decide +kernel
theorem dL_law_475 : decode cL_law 475 = .ok (.iconst 1, 1) := by decide +kernel
theorem dL_law_476 : decode cL_law 476 = .ok (.iadd, 1) := by decide +kernel
theorem dL_law_477 : decode cL_law 477 = .ok (.iaload, 1) := by decide +kernel
theorem dL_law_478 : decode cL_law 478 = .ok (.invokevirtual 68, 3) := by decide +kernel
theorem dL_law_481 : decode cL_law 481 = .ok (.aload_n 2, 1) := by decide +kernel
theorem dL_law_482 : decode cL_law 482 = .ok (.aload_n 0, 1) := by decide +kernel
theorem dL_law_483 : decode cL_law 483 = .ok (.iload 4, 2) := by decide +kernel
theorem dL_law_485 : decode cL_law 485 = .ok (.iconst 1, 1) := by decide +kernel
theorem dL_law_486 : decode cL_law 486 = .ok (.iadd, 1) := by decide +kernel
theorem dL_law_487 : decode cL_law 487 = .ok (.iaload, 1) := by decide +kernel
theorem dL_law_488 : decode cL_law 488 = .ok (.invokevirtual 71, 3) := by decide +kernel
theorem dL_law_491 : decode cL_law 491 = .ok (.if_icmp .eq 98, 3) := by decide +kernel
theorem dL_law_494 : decode cL_law 494 = .ok (.iconst 0, 1) := by decide +kernel
theorem dL_law_495 : decode cL_law 495 = .ok (.ireturn, 1) := by decide +kernel
theorem dL_law_496 : decode cL_law 496 = .ok (.aload_n 1, 1) := by decide +kernel
theorem dL_law_497 : decode cL_law 497 = .ok (.aload_n 0, 1) := by decide +kernel
theorem dL_law_498 : decode cL_law 498 = .ok (.iload 4, 2) := by decide +kernel
theorem dL_law_500 : decode cL_law 500 = .ok (.iconst 1, 1) := by decide +kernel
theorem dL_law_501 : decode cL_law 501 = .ok (.iadd, 1) := by decide +kernel
theorem dL_law_502 : decode cL_law 502 = .ok (.iaload, 1) := by decide +kernel
theorem dL_law_503 : decode cL_law 503 = .ok (.invokevirtual 72, 3) := by decide +kernel
theorem dL_law_506 : decode cL_law 506 = .ok (.aload_n 2, 1) := by decide +kernel
theorem dL_law_507 : decode cL_law 507 = .ok (.aload_n 0, 1) := by decide +kernel
theorem dL_law_508 : decode cL_law 508 = .ok (.iload 4, 2) := by decide +kernel
theorem dL_law_510 : decode cL_law 510 = .ok (.iconst 1, 1) := by decide +kernel
theorem dL_law_511 : decode cL_law 511 = .ok (.iadd, 1) := by decide +kernel
theorem dL_law_512 : decode cL_law 512 = .ok (.iaload, 1) := by decide +kernel
theorem dL_law_513 : decode cL_law 513 = .ok (.invokevirtual 75, 3) := by decide +kernel
theorem dL_law_516 : decode cL_law 516 = .ok (.lcmp, 1) := by decide +kernel
theorem dL_law_517 : decode cL_law 517 = .ok (.ifCond .eq 72, 3) := by decide +kernel
theorem dL_law_520 : decode cL_law 520 = .ok (.iconst 0, 1) := by decide +kernel
theorem dL_law_521 : decode cL_law 521 = .ok (.ireturn, 1) := by decide +kernel
theorem dL_law_522 : decode cL_law 522 = .ok (.aload_n 1, 1) := by decide +kernel
theorem dL_law_523 : decode cL_law 523 = .ok (.aload_n 0, 1) := by decide +kernel
theorem dL_law_524 : decode cL_law 524 = .ok (.iload 4, 2) := by decide +kernel
theorem dL_law_526 : decode cL_law 526 = .ok (.iconst 1, 1) := by decide +kernel
theorem dL_law_527 : decode cL_law 527 = .ok (.iadd, 1) := by decide +kernel
theorem dL_law_528 : decode cL_law 528 = .ok (.iaload, 1) := by decide +kernel
theorem dL_law_529 : decode cL_law 529 = .ok (.aload_n 0, 1) := by decide +kernel
theorem dL_law_530 : decode cL_law 530 = .ok (.iload 4, 2) := by decide +kernel
theorem dL_law_532 : decode cL_law 532 = .ok (.iconst 2, 1) := by decide +kernel
theorem dL_law_533 : decode cL_law 533 = .ok (.iadd, 1) := by decide +kernel
theorem dL_law_534 : decode cL_law 534 = .ok (.iaload, 1) := by decide +kernel
theorem dL_law_535 : decode cL_law 535 = .ok (.aload_n 3, 1) := by decide +kernel
theorem dL_law_536 : decode cL_law 536 = .ok (.invokestatic 76, 3) := by decide +kernel
theorem dL_law_539 : decode cL_law 539 = .ok (.istore 5, 2) := by decide +kernel
theorem dL_law_541 : decode cL_law 541 = .ok (.aload_n 2, 1) := by decide +kernel
theorem dL_law_542 : decode cL_law 542 = .ok (.aload_n 0, 1) := by decide +kernel
theorem dL_law_543 : decode cL_law 543 = .ok (.iload 4, 2) := by decide +kernel
theorem dL_law_545 : decode cL_law 545 = .ok (.iconst 1, 1) := by decide +kernel
theorem dL_law_546 : decode cL_law 546 = .ok (.iadd, 1) := by decide +kernel
theorem dL_law_547 : decode cL_law 547 = .ok (.iaload, 1) := by decide +kernel
theorem dL_law_548 : decode cL_law 548 = .ok (.aload_n 0, 1) := by decide +kernel
theorem dL_law_549 : decode cL_law 549 = .ok (.iload 4, 2) := by decide +kernel
theorem dL_law_551 : decode cL_law 551 = .ok (.iconst 2, 1) := by decide +kernel
theorem dL_law_552 : decode cL_law 552 = .ok (.iadd, 1) := by decide +kernel
theorem dL_law_553 : decode cL_law 553 = .ok (.iaload, 1) := by decide +kernel
theorem dL_law_554 : decode cL_law 554 = .ok (.invokevirtual 81, 3) := by decide +kernel
theorem dL_law_557 : decode cL_law 557 = .ok (.lstore 6, 2) := by decide +kernel
theorem dL_law_559 : decode cL_law 559 = .ok (.aload_n 2, 1) := by decide +kernel
theorem dL_law_560 : decode cL_law 560 = .ok (.invokevirtual 82, 3) := by decide +kernel
theorem dL_law_563 : decode cL_law 563 = .ok (.iload 5, 2) := by decide +kernel
theorem dL_law_565 : decode cL_law 565 = .ok (.if_icmp .eq 5, 3) := by decide +kernel
theorem dL_law_568 : decode cL_law 568 = .ok (.iconst 0, 1) := by decide +kernel
theorem dL_law_569 : decode cL_law 569 = .ok (.ireturn, 1) := by decide +kernel
theorem dL_law_570 : decode cL_law 570 = .ok (.iload 5, 2) := by decide +kernel
theorem dL_law_572 : decode cL_law 572 = .ok (.ifCond .ne 14, 3) := by decide +kernel
theorem dL_law_575 : decode cL_law 575 = .ok (.aload_n 3, 1) := by decide +kernel
theorem dL_law_576 : decode cL_law 576 = .ok (.iconst 0, 1) := by decide +kernel
theorem dL_law_577 : decode cL_law 577 = .ok (.laload, 1) := by decide +kernel
theorem dL_law_578 : decode cL_law 578 = .ok (.lload 6, 2) := by decide +kernel
theorem dL_law_580 : decode cL_law 580 = .ok (.lcmp, 1) := by decide +kernel
theorem dL_law_581 : decode cL_law 581 = .ok (.ifCond .eq 5, 3) := by decide +kernel
theorem dL_law_584 : decode cL_law 584 = .ok (.iconst 0, 1) := by decide +kernel
theorem dL_law_585 : decode cL_law 585 = .ok (.ireturn, 1) := by decide +kernel
theorem dL_law_586 : decode cL_law 586 = .ok (.goto 3, 3) := by decide +kernel
theorem dL_law_589 : decode cL_law 589 = .ok (.iinc 4 4, 3) := by decide +kernel
theorem dL_law_592 : decode cL_law 592 = .ok (.goto (-569), 3) := by decide +kernel
theorem dL_law_595 : decode cL_law 595 = .ok (.iconst 1, 1) := by decide +kernel
theorem dL_law_596 : decode cL_law 596 = .ok (.ireturn, 1) := by decide +kernel
abbrev vwCl : List vw_C := [(RX1, TX1, 2), (RX3, TX3, 7), (RX4, TX4, 4), (RX5, TX5, 13), (RX6, TX6, 7), (RX7, TX7, 6), (RX8, TX8, 26)]

