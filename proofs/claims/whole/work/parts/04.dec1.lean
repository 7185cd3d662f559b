theorem dX7_readAnd_33 : decode cX7_readAnd 33 = .ok (.iload_n 1, 1) := by decide +kernel
theorem dX7_readAnd_34 : decode cX7_readAnd 34 = .ok (.invokevirtual 184, 3) := by decide +kernel
theorem dX7_readAnd_37 : decode cX7_readAnd 37 = .ok (.ifCond .ne 5, 3) := by decide +kernel
theorem dX7_readAnd_40 : decode cX7_readAnd 40 = .ok (.iconst 0, 1) := by decide +kernel
theorem dX7_readAnd_41 : decode cX7_readAnd 41 = .ok (.ireturn, 1) := by decide +kernel
theorem dX7_readAnd_42 : decode cX7_readAnd 42 = .ok (.aload_n 0, 1) := by decide +kernel
theorem dX7_readAnd_43 : decode cX7_readAnd 43 = .ok (.getfield 9, 3) := by decide +kernel
theorem dX7_readAnd_46 : decode cX7_readAnd 46 = .ok (.getfield 174, 3) := by decide +kernel
theorem dX7_readAnd_49 : decode cX7_readAnd 49 = .ok (.bipush (-13), 2) := by decide +kernel
theorem dX7_readAnd_51 : decode cX7_readAnd 51 = .ok (.invokevirtual 180, 3) := by decide +kernel
theorem dX7_readAnd_54 : decode cX7_readAnd 54 = .ok (.iinc 2 1, 3) := by decide +kernel
theorem dX7_readAnd_57 : decode cX7_readAnd 57 = .ok (.goto (-45), 3) := by decide +kernel
theorem dX7_readAnd_60 : decode cX7_readAnd 60 = .ok (.iconst 1, 1) := by decide +kernel
theorem dX7_readAnd_61 : decode cX7_readAnd 61 = .ok (.ireturn, 1) := by decide +kernel
theorem dX7_readNot_0 : decode cX7_readNot 0 = .ok (.iconst 0, 1) := by decide +kernel
theorem dX7_readNot_1 : decode cX7_readNot 1 = .ok (.istore_n 2, 1) := by decide +kernel
theorem dX7_readNot_2 : decode cX7_readNot 2 = .ok (.iconst 0, 1) := by decide +kernel
theorem dX7_readNot_3 : decode cX7_readNot 3 = .ok (.istore_n 3, 1) := by decide +kernel
theorem dX7_readNot_4 : decode cX7_readNot 4 = .ok (.iload_n 3, 1) := by decide +kernel
theorem dX7_readNot_5 : decode cX7_readNot 5 = .ok (.bipush 6, 2) := by decide +kernel
theorem dX7_readNot_7 : decode cX7_readNot 7 = .ok (.if_icmp .gt 37, 3) := by decide +kernel
theorem dX7_readNot_10 : decode cX7_readNot 10 = .ok (.aload_n 0, 1) := by decide +kernel
theorem dX7_readNot_11 : decode cX7_readNot 11 = .ok (.ldc 189, 2) := by decide +kernel
theorem dX7_readNot_13 : decode cX7_readNot 13 = .ok (.invokevirtual 62, 3) := by decide +kernel
theorem dX7_readNot_16 : decode cX7_readNot 16 = .ok (.ifCond .eq 28, 3) := by decide +kernel
theorem dX7_readNot_19 : decode cX7_readNot 19 = .ok (.iload_n 2, 1) := by decide +kernel
theorem dX7_readNot_20 : decode cX7_readNot 20 = .ok (.bipush 6, 2) := by decide +kernel
theorem dX7_readNot_22 : decode cX7_readNot 22 = .ok (.if_icmp .ne 9, 3) := by decide +kernel
theorem dX7_readNot_25 : decode cX7_readNot 25 = .ok (.aload_n 0, 1) := by decide +kernel
theorem dX7_readNot_26 : decode cX7_readNot 26 = .ok (.iconst 2, 1) := by decide +kernel
theorem dX7_readNot_27 : decode cX7_readNot 27 = .ok (.invokevirtual 90, 3) := by decide +kernel
theorem dX7_readNot_30 : decode cX7_readNot 30 = .ok (.ireturn, 1) := by decide +kernel
theorem dX7_readNot_31 : decode cX7_readNot 31 = .ok (.iinc 2 1, 3) := by decide +kernel
theorem dX7_readNot_34 : decode cX7_readNot 34 = .ok (.aload_n 0, 1) := by decide +kernel
theorem dX7_readNot_35 : decode cX7_readNot 35 = .ok (.invokevirtual 49, 3) := by decide +kernel
theorem dX7_readNot_38 : decode cX7_readNot 38 = .ok (.iinc 3 1, 3) := by decide +kernel
theorem dX7_readNot_41 : decode cX7_readNot 41 = .ok (.goto (-37), 3) := by decide +kernel
theorem dX7_readNot_44 : decode cX7_readNot 44 = .ok (.aload_n 0, 1) := by decide +kernel
theorem dX7_readNot_45 : decode cX7_readNot 45 = .ok (.iload_n 1, 1) := by decide +kernel
theorem dX7_readNot_46 : decode cX7_readNot 46 = .ok (.invokevirtual 191, 3) := by decide +kernel
theorem dX7_readNot_49 : decode cX7_readNot 49 = .ok (.ifCond .ne 5, 3) := by decide +kernel
theorem dX7_readNot_52 : decode cX7_readNot 52 = .ok (.iconst 0, 1) := by decide +kernel
theorem dX7_readNot_53 : decode cX7_readNot 53 = .ok (.ireturn, 1) := by decide +kernel
theorem dX7_readNot_54 : decode cX7_readNot 54 = .ok (.iconst 0, 1) := by decide +kernel
theorem dX7_readNot_55 : decode cX7_readNot 55 = .ok (.istore_n 3, 1) := by decide +kernel
theorem dX7_readNot_56 : decode cX7_readNot 56 = .ok (.iload_n 3, 1) := by decide +kernel
theorem dX7_readNot_57 : decode cX7_readNot 57 = .ok (.iload_n 2, 1) := by decide +kernel
theorem dX7_readNot_58 : decode cX7_readNot 58 = .ok (.if_icmp .ge 21, 3) := by decide +kernel
theorem dX7_readNot_61 : decode cX7_readNot 61 = .ok (.aload_n 0, 1) := by decide +kernel
theorem dX7_readNot_62 : decode cX7_readNot 62 = .ok (.getfield 9, 3) := by decide +kernel
theorem dX7_readNot_65 : decode cX7_readNot 65 = .ok (.getfield 174, 3) := by decide +kernel
theorem dX7_readNot_68 : decode cX7_readNot 68 = .ok (.bipush (-11), 2) := by decide +kernel
theorem dX7_readNot_70 : decode cX7_readNot 70 = .ok (.invokevirtual 180, 3) := by decide +kernel
theorem dX7_readNot_73 : decode cX7_readNot 73 = .ok (.iinc 3 1, 3) := by decide +kernel
theorem dX7_readNot_76 : decode cX7_readNot 76 = .ok (.goto (-20), 3) := by decide +kernel
theorem dX7_readNot_79 : decode cX7_readNot 79 = .ok (.iconst 1, 1) := by decide +kernel
theorem dX7_readNot_80 : decode cX7_readNot 80 = .ok (.ireturn, 1) := by decide +kernel
theorem dX7_readTest_0 : decode cX7_readTest 0 = .ok (.aload_n 0, 1) := by decide +kernel
theorem dX7_readTest_1 : decode cX7_readTest 1 = .ok (.iload_n 1, 1) := by decide +kernel
theorem dX7_readTest_2 : decode cX7_readTest 2 = .ok (.invokevirtual 194, 3) := by decide +kernel
theorem dX7_readTest_5 : decode cX7_readTest 5 = .ok (.ifCond .ne 5, 3) := by decide +kernel
theorem dX7_readTest_8 : decode cX7_readTest 8 = .ok (.iconst 0, 1) := by decide +kernel
theorem dX7_readTest_9 : decode cX7_readTest 9 = .ok (.ireturn, 1) := by decide +kernel
theorem dX7_readTest_10 : decode cX7_readTest 10 = .ok (.aload_n 0, 1) := by decide +kernel
theorem dX7_readTest_11 : decode cX7_readTest 11 = .ok (.bipush 60, 2) := by decide +kernel
theorem dX7_readTest_13 : decode cX7_readTest 13 = .ok (.invokevirtual 197, 3) := by decide +kernel
theorem dX7_readTest_16 : decode cX7_readTest 16 = .ok (.ifCond .eq 8, 3) := by decide +kernel
theorem dX7_readTest_19 : decode cX7_readTest 19 = .ok (.bipush (-14), 2) := by decide +kernel
theorem dX7_readTest_21 : decode cX7_readTest 21 = .ok (.goto 5, 3) := by decide +kernel
theorem dX7_readTest_24 : decode cX7_readTest 24 = .ok (.bipush (-15), 2) := by decide +kernel
theorem dX7_readTest_26 : decode cX7_readTest 26 = .ok (.istore_n 2, 1) := by decide +kernel
theorem dX7_readTest_27 : decode cX7_readTest 27 = .ok (.aload_n 0, 1) := by decide +kernel
theorem dX7_readTest_28 : decode cX7_readTest 28 = .ok (.bipush 60, 2) := by decide +kernel
theorem dX7_readTest_30 : decode cX7_readTest 30 = .ok (.invokevirtual 197, 3) := by decide +kernel
theorem dX7_readTest_33 : decode cX7_readTest 33 = .ok (.ifCond .ne 14, 3) := by decide +kernel
theorem dX7_readTest_36 : decode cX7_readTest 36 = .ok (.aload_n 0, 1) := by decide +kernel
theorem dX7_readTest_37 : decode cX7_readTest 37 = .ok (.bipush 61, 2) := by decide +kernel
theorem dX7_readTest_39 : decode cX7_readTest 39 = .ok (.invokevirtual 197, 3) := by decide +kernel
theorem dX7_readTest_42 : decode cX7_readTest 42 = .ok (.ifCond .ne 5, 3) := by decide +kernel
theorem dX7_readTest_45 : decode cX7_readTest 45 = .ok (.iconst 1, 1) := by decide +kernel
theorem dX7_readTest_46 : decode cX7_readTest 46 = .ok (.ireturn, 1) := by decide +kernel
theorem dX7_readTest_47 : decode cX7_readTest 47 = .ok (.aload_n 0, 1) := by decide +kernel
theorem dX7_readTest_48 : decode cX7_readTest 48 = .ok (.invokevirtual 49, 3) := by decide +kernel
theorem dX7_readTest_51 : decode cX7_readTest 51 = .ok (.aload_n 0, 1) := by decide +kernel
theorem dX7_readTest_52 : decode cX7_readTest 52 = .ok (.iload_n 1, 1) := by decide +kernel
theorem dX7_readTest_53 : decode cX7_readTest 53 = .ok (.invokevirtual 194, 3) := by decide +kernel
theorem dX7_readTest_56 : decode cX7_readTest 56 = .ok (.ifCond .ne 5, 3) := by decide +kernel
theorem dX7_readTest_59 : decode cX7_readTest 59 = .ok (.iconst 0, 1) := by decide +kernel
theorem dX7_readTest_60 : decode cX7_readTest 60 = .ok (.ireturn, 1) := by decide +kernel
theorem dX7_readTest_61 : decode cX7_readTest 61 = .ok (.aload_n 0, 1) := by decide +kernel
theorem dX7_readTest_62 : decode cX7_readTest 62 = .ok (.getfield 9, 3) := by decide +kernel
theorem dX7_readTest_65 : decode cX7_readTest 65 = .ok (.getfield 174, 3) := by decide +kernel
theorem dX7_readTest_68 : decode cX7_readTest 68 = .ok (.iload_n 2, 1) := by decide +kernel
theorem dX7_readTest_69 : decode cX7_readTest 69 = .ok (.invokevirtual 180, 3) := by decide +kernel
theorem dX7_readTest_72 : decode cX7_readTest 72 = .ok (.iconst 1, 1) := by decide +kernel
theorem dX7_readTest_73 : decode cX7_readTest 73 = .ok (.ireturn, 1) := by decide +kernel
theorem dX7_readSum_0 : decode cX7_readSum 0 = .ok (.aload_n 0, 1) := by decide +kernel
theorem dX7_readSum_1 : decode cX7_readSum 1 = .ok (.iload_n 1, 1) := by decide +kernel
theorem dX7_readSum_2 : decode cX7_readSum 2 = .ok (.invokevirtual 200, 3) := by decide +kernel
theorem dX7_readSum_5 : decode cX7_readSum 5 = .ok (.ifCond .ne 5, 3) := by decide +kernel
theorem dX7_readSum_8 : decode cX7_readSum 8 = .ok (.iconst 0, 1) := by decide +kernel
theorem dX7_readSum_9 : decode cX7_readSum 9 = .ok (.ireturn, 1) := by decide +kernel
theorem dX7_readSum_10 : decode cX7_readSum 10 = .ok (.iconst 0, 1) := by decide +kernel
theorem dX7_readSum_11 : decode cX7_readSum 11 = .ok (.istore_n 2, 1) := by decide +kernel
theorem dX7_readSum_12 : decode cX7_readSum 12 = .ok (.iload_n 2, 1) := by decide +kernel
theorem dX7_readSum_13 : decode cX7_readSum 13 = .ok (.sipush 700, 3) := by decide +kernel
theorem dX7_readSum_16 : decode cX7_readSum 16 = .ok (.if_icmp .ge 69, 3) := by decide +kernel
theorem dX7_readSum_19 : decode cX7_readSum 19 = .ok (.aload_n 0, 1) := by decide +kernel
theorem dX7_readSum_20 : decode cX7_readSum 20 = .ok (.bipush 43, 2) := by decide +kernel
theorem dX7_readSum_22 : decode cX7_readSum 22 = .ok (.invokevirtual 197, 3) := by decide +kernel
theorem dX7_readSum_25 : decode cX7_readSum 25 = .ok (.ifCond .ne 12, 3) := by decide +kernel
theorem dX7_readSum_28 : decode cX7_readSum 28 = .ok (.aload_n 0, 1) := by decide +kernel
theorem dX7_readSum_29 : decode cX7_readSum 29 = .ok (.bipush 45, 2) := by decide +kernel
theorem dX7_readSum_31 : decode cX7_readSum 31 = .ok (.invokevirtual 197, 3) := by decide +kernel
theorem dX7_readSum_34 : decode cX7_readSum 34 = .ok (.ifCond .eq 51, 3) := by decide +kernel
theorem dX7_readSum_37 : decode cX7_readSum 37 = .ok (.aload_n 0, 1) := by decide +kernel
theorem dX7_readSum_38 : decode cX7_readSum 38 = .ok (.bipush 43, 2) := by decide +kernel
theorem dX7_readSum_40 : decode cX7_readSum 40 = .ok (.invokevirtual 197, 3) := by decide +kernel
theorem dX7_readSum_43 : decode cX7_readSum 43 = .ok (.ifCond .eq 8, 3) := by decide +kernel
theorem dX7_readSum_46 : decode cX7_readSum 46 = .ok (.bipush (-16), 2) := by decide +kernel
theorem dX7_readSum_48 : decode cX7_readSum 48 = .ok (.goto 5, 3) := by decide +kernel
theorem dX7_readSum_51 : decode cX7_readSum 51 = .ok (.bipush (-17), 2) := by decide +kernel
theorem dX7_readSum_53 : decode cX7_readSum 53 = .ok (.istore_n 3, 1) := by decide +kernel
theorem dX7_readSum_54 : decode cX7_readSum 54 = .ok (.aload_n 0, 1) := by decide +kernel
theorem dX7_readSum_55 : decode cX7_readSum 55 = .ok (.invokevirtual 49, 3) := by decide +kernel
theorem dX7_readSum_58 : decode cX7_readSum 58 = .ok (.aload_n 0, 1) := by decide +kernel
theorem dX7_readSum_59 : decode cX7_readSum 59 = .ok (.iload_n 1, 1) := by decide +kernel
theorem dX7_readSum_60 : decode cX7_readSum 60 = .ok (.invokevirtual 200, 3) := by decide +kernel
theorem dX7_readSum_63 : decode cX7_readSum 63 = .ok (.ifCond .ne 5, 3) := by decide +kernel
theorem dX7_readSum_66 : decode cX7_readSum 66 = .ok (.iconst 0, 1) := by decide +kernel
theorem dX7_readSum_67 : decode cX7_readSum 67 = .ok (.ireturn, 1) := by decide +kernel
theorem dX7_readSum_68 : decode cX7_readSum 68 = .ok (.aload_n 0, 1) := by decide +kernel
theorem dX7_readSum_69 : decode cX7_readSum 69 = .ok (.getfield 9, 3) := by decide +kernel
theorem dX7_readSum_72 : decode cX7_readSum 72 = .ok (.getfield 174, 3) := by decide +kernel
theorem dX7_readSum_75 : decode cX7_readSum 75 = .ok (.iload_n 3, 1) := by decide +kernel
theorem dX7_readSum_76 : decode cX7_readSum 76 = .ok (.invokevirtual 180, 3) := by decide +kernel
theorem dX7_readSum_79 : decode cX7_readSum 79 = .ok (.iinc 2 1, 3) := by decide +kernel
theorem dX7_readSum_82 : decode cX7_readSum 82 = .ok (.goto (-70), 3) := by decide +kernel
theorem dX7_readSum_85 : decode cX7_readSum 85 = .ok (.iconst 1, 1) := by decide +kernel
theorem dX7_readSum_86 : decode cX7_readSum 86 = .ok (.ireturn, 1) := by decide +kernel
theorem dX7_readProduct_0 : decode cX7_readProduct 0 = .ok (.aload_n 0, 1) := by decide +kernel
theorem dX7_readProduct_1 : decode cX7_readProduct 1 = .ok (.iload_n 1, 1) := by decide +kernel
theorem dX7_readProduct_2 : decode cX7_readProduct 2 = .ok (.invokevirtual 203, 3) := by decide +kernel
theorem dX7_readProduct_5 : decode cX7_readProduct 5 = .ok (.ifCond .ne 5, 3) := by decide +kernel
theorem dX7_readProduct_8 : decode cX7_readProduct 8 = .ok (.iconst 0, 1) := by decide +kernel
theorem dX7_readProduct_9 : decode cX7_readProduct 9 = .ok (.ireturn, 1) := by decide +kernel
theorem dX7_readProduct_10 : decode cX7_readProduct 10 = .ok (.iconst 0, 1) := by decide +kernel
theorem dX7_readProduct_11 : decode cX7_readProduct 11 = .ok (.istore_n 2, 1) := by decide +kernel
theorem dX7_readProduct_12 : decode cX7_readProduct 12 = .ok (.iload_n 2, 1) := by decide +kernel
theorem dX7_readProduct_13 : decode cX7_readProduct 13 = .ok (.sipush 700, 3) := by decide +kernel
theorem dX7_readProduct_16 : decode cX7_readProduct 16 = .ok (.if_icmp .ge 69, 3) := by decide +kernel
theorem dX7_readProduct_19 : decode cX7_readProduct 19 = .ok (.aload_n 0, 1) := by decide +kernel
theorem dX7_readProduct_20 : decode cX7_readProduct 20 = .ok (.bipush 42, 2) := by decide +kernel
theorem dX7_readProduct_22 : decode cX7_readProduct 22 = .ok (.invokevirtual 197, 3) := by decide +kernel
theorem dX7_readProduct_25 : decode cX7_readProduct 25 = .ok (.ifCond .ne 12, 3) := by decide +kernel
theorem dX7_readProduct_28 : decode cX7_readProduct 28 = .ok (.aload_n 0, 1) := by decide +kernel
theorem dX7_readProduct_29 : decode cX7_readProduct 29 = .ok (.bipush 47, 2) := by decide +kernel
theorem dX7_readProduct_31 : decode cX7_readProduct 31 = .ok (.invokevirtual 197, 3) := by decide +kernel
theorem dX7_readProduct_34 : decode cX7_readProduct 34 = .ok (.ifCond .eq 51, 3) := by decide +kernel
theorem dX7_readProduct_37 : decode cX7_readProduct 37 = .ok (.aload_n 0, 1) := by decide +kernel
theorem dX7_readProduct_38 : decode cX7_readProduct 38 = .ok (.bipush 42, 2) := by decide +kernel
theorem dX7_readProduct_40 : decode cX7_readProduct 40 = .ok (.invokevirtual 197, 3) := by decide +kernel
theorem dX7_readProduct_43 : decode cX7_readProduct 43 = .ok (.ifCond .eq 8, 3) := by decide +kernel
theorem dX7_readProduct_46 : decode cX7_readProduct 46 = .ok (.bipush (-18), 2) := by decide +kernel
theorem dX7_readProduct_48 : decode cX7_readProduct 48 = .ok (.goto 5, 3) := by decide +kernel
theorem dX7_readProduct_51 : decode cX7_readProduct 51 = .ok (.bipush (-19), 2) := by decide +kernel
theorem dX7_readProduct_53 : decode cX7_readProduct 53 = .ok (.istore_n 3, 1) := by decide +kernel
theorem dX7_readProduct_54 : decode cX7_readProduct 54 = .ok (.aload_n 0, 1) := by decide +kernel
theorem dX7_readProduct_55 : decode cX7_readProduct 55 = .ok (.invokevirtual 49, 3) := by decide +kernel
theorem dX7_readProduct_58 : decode cX7_readProduct 58 = .ok (.aload_n 0, 1) := by decide +kernel
theorem dX7_readProduct_59 : decode cX7_readProduct 59 = .ok (.iload_n 1, 1) := by decide +kernel
theorem dX7_readProduct_60 : decode cX7_readProduct 60 = .ok (.invokevirtual 203, 3) := by decide +kernel
theorem dX7_readProduct_63 : decode cX7_readProduct 63 = .ok (.ifCond .ne 5, 3) := by decide +kernel
theorem dX7_readProduct_66 : decode cX7_readProduct 66 = .ok (.iconst 0, 1) := by decide +kernel
theorem dX7_readProduct_67 : decode cX7_readProduct 67 = .ok (.ireturn, 1) := by decide +kernel
theorem dX7_readProduct_68 : decode cX7_readProduct 68 = .ok (.aload_n 0, 1) := by decide +kernel
theorem dX7_readProduct_69 : decode cX7_readProduct 69 = .ok (.getfield 9, 3) := by decide +kernel
theorem dX7_readProduct_72 : decode cX7_readProduct 72 = .ok (.getfield 174, 3) := by decide +kernel
theorem dX7_readProduct_75 : decode cX7_readProduct 75 = .ok (.iload_n 3, 1) := by decide +kernel
theorem dX7_readProduct_76 : decode cX7_readProduct 76 = .ok (.invokevirtual 180, 3) := by decide +kernel
theorem dX7_readProduct_79 : decode cX7_readProduct 79 = .ok (.iinc 2 1, 3) := by decide +kernel
theorem dX7_readProduct_82 : decode cX7_readProduct 82 = .ok (.goto (-70), 3) := by decide +kernel
theorem dX7_readProduct_85 : decode cX7_readProduct 85 = .ok (.iconst 1, 1) := by decide +kernel
theorem dX7_readProduct_86 : decode cX7_readProduct 86 = .ok (.ireturn, 1) := by decide +kernel
theorem dX7_readPart_0 : decode cX7_readPart 0 = .ok (.aload_n 0, 1) := by decide +kernel
theorem dX7_readPart_1 : decode cX7_readPart 1 = .ok (.bipush 40, 2) := by decide +kernel
theorem dX7_readPart_3 : decode cX7_readPart 3 = .ok (.invokevirtual 197, 3) := by decide +kernel
theorem dX7_readPart_6 : decode cX7_readPart 6 = .ok (.ifCond .eq 32, 3) := by decide +kernel
theorem dX7_readPart_9 : decode cX7_readPart 9 = .ok (.aload_n 0, 1) := by decide +kernel
theorem dX7_readPart_10 : decode cX7_readPart 10 = .ok (.invokevirtual 49, 3) := by decide +kernel
theorem dX7_readPart_13 : decode cX7_readPart 13 = .ok (.aload_n 0, 1) := by decide +kernel
theorem dX7_readPart_14 : decode cX7_readPart 14 = .ok (.iload_n 1, 1) := by decide +kernel
theorem dX7_readPart_15 : decode cX7_readPart 15 = .ok (.iconst 1, 1) := by decide +kernel
theorem dX7_readPart_16 : decode cX7_readPart 16 = .ok (.iadd, 1) := by decide +kernel
theorem dX7_readPart_17 : decode cX7_readPart 17 = .ok (.invokevirtual 135, 3) := by decide +kernel
theorem dX7_readPart_20 : decode cX7_readPart 20 = .ok (.ifCond .eq 16, 3) := by decide +kernel
theorem dX7_readPart_23 : decode cX7_readPart 23 = .ok (.aload_n 0, 1) := by decide +kernel
theorem dX7_readPart_24 : decode cX7_readPart 24 = .ok (.bipush 41, 2) := by decide +kernel
theorem dX7_readPart_26 : decode cX7_readPart 26 = .ok (.invokevirtual 56, 3) := by decide +kernel
theorem dX7_readPart_29 : decode cX7_readPart 29 = .ok (.ifCond .eq 7, 3) := by decide +kernel
theorem dX7_readPart_32 : decode cX7_readPart 32 = .ok (.iconst 1, 1) := by decide +kernel
theorem dX7_readPart_33 : decode cX7_readPart 33 = .ok (.goto 4, 3) := by decide +kernel
theorem dX7_readPart_36 : decode cX7_readPart 36 = .ok (.iconst 0, 1) := by decide +kernel
theorem dX7_readPart_37 : decode cX7_readPart 37 = .ok (.ireturn, 1) := by decide +kernel
theorem dX7_readPart_38 : decode cX7_readPart 38 = .ok (.aload_n 0, 1) := by decide +kernel
theorem dX7_readPart_39 : decode cX7_readPart 39 = .ok (.getfield 23, 3) := by decide +kernel
theorem dX7_readPart_42 : decode cX7_readPart 42 = .ok (.iconst 1, 1) := by decide +kernel
theorem dX7_readPart_43 : decode cX7_readPart 43 = .ok (.if_icmp .ne 39, 3) := by decide +kernel
theorem dX7_readPart_46 : decode cX7_readPart 46 = .ok (.aload_n 0, 1) := by decide +kernel
theorem dX7_readPart_47 : decode cX7_readPart 47 = .ok (.invokevirtual 206, 3) := by decide +kernel
theorem dX7_readPart_50 : decode cX7_readPart 50 = .ok (.istore_n 2, 1) := by decide +kernel
theorem dX7_readPart_51 : decode cX7_readPart 51 = .ok (.iload_n 2, 1) := by decide +kernel
theorem dX7_readPart_52 : decode cX7_readPart 52 = .ok (.iconst (-1), 1) := by decide +kernel
theorem dX7_readPart_53 : decode cX7_readPart 53 = .ok (.if_icmp .ne 9, 3) := by decide +kernel
theorem dX7_readPart_56 : decode cX7_readPart 56 = .ok (.aload_n 0, 1) := by decide +kernel
theorem dX7_readPart_57 : decode cX7_readPart 57 = .ok (.iconst 3, 1) := by decide +kernel
theorem dX7_readPart_58 : decode cX7_readPart 58 = .ok (.invokevirtual 90, 3) := by decide +kernel
theorem dX7_readPart_61 : decode cX7_readPart 61 = .ok (.ireturn, 1) := by decide +kernel
theorem dX7_readPart_62 : decode cX7_readPart 62 = .ok (.aload_n 0, 1) := by decide +kernel
theorem dX7_readPart_63 : decode cX7_readPart 63 = .ok (.getfield 9, 3) := by decide +kernel
theorem dX7_readPart_66 : decode cX7_readPart 66 = .ok (.getfield 174, 3) := by decide +kernel
theorem dX7_readPart_69 : decode cX7_readPart 69 = .ok (.iload_n 2, 1) := by decide +kernel
theorem dX7_readPart_70 : decode cX7_readPart 70 = .ok (.invokestatic 209, 3) := by decide +kernel
theorem dX7_readPart_73 : decode cX7_readPart 73 = .ok (.invokevirtual 180, 3) := by decide +kernel
theorem dX7_readPart_76 : decode cX7_readPart 76 = .ok (.aload_n 0, 1) := by decide +kernel
theorem dX7_readPart_77 : decode cX7_readPart 77 = .ok (.invokevirtual 49, 3) := by decide +kernel
theorem dX7_readPart_80 : decode cX7_readPart 80 = .ok (.iconst 1, 1) := by decide +kernel
theorem dX7_readPart_81 : decode cX7_readPart 81 = .ok (.ireturn, 1) := by decide +kernel
theorem dX7_readPart_82 : decode cX7_readPart 82 = .ok (.aload_n 0, 1) := by decide +kernel
theorem dX7_readPart_83 : decode cX7_readPart 83 = .ok (.iconst 0, 1) := by decide +kernel
theorem dX7_readPart_84 : decode cX7_readPart 84 = .ok (.sipush 9999, 3) := by decide +kernel
theorem dX7_readPart_87 : decode cX7_readPart 87 = .ok (.invokevirtual 94, 3) := by decide +kernel
theorem dX7_readPart_90 : decode cX7_readPart 90 = .ok (.istore_n 2, 1) := by decide +kernel
theorem dX7_readPart_91 : decode cX7_readPart 91 = .ok (.iload_n 2, 1) := by decide +kernel
theorem dX7_readPart_92 : decode cX7_readPart 92 = .ok (.iconst (-1), 1) := by decide +kernel
theorem dX7_readPart_93 : decode cX7_readPart 93 = .ok (.if_icmp .ne 5, 3) := by decide +kernel
theorem dX7_readPart_96 : decode cX7_readPart 96 = .ok (.iconst 0, 1) := by decide +kernel
theorem dX7_readPart_97 : decode cX7_readPart 97 = .ok (.ireturn, 1) := by decide +kernel
theorem dX7_readPart_98 : decode cX7_readPart 98 = .ok (.aload_n 0, 1) := by decide +kernel
theorem dX7_readPart_99 : decode cX7_readPart 99 = .ok (.getfield 9, 3) := by decide +kernel
theorem dX7_readPart_102 : decode cX7_readPart 102 = .ok (.getfield 174, 3) := by decide +kernel
theorem dX7_readPart_105 : decode cX7_readPart 105 = .ok (.iload_n 2, 1) := by decide +kernel
theorem dX7_readPart_106 : decode cX7_readPart 106 = .ok (.invokevirtual 180, 3) := by decide +kernel
theorem dX7_readPart_109 : decode cX7_readPart 109 = .ok (.iconst 1, 1) := by decide +kernel
theorem dX7_readPart_110 : decode cX7_readPart 110 = .ok (.ireturn, 1) := by decide +kernel
theorem dX7_valueOfWord_0 : decode cX7_valueOfWord 0 = .ok (.aload_n 0, 1) := by decide +kernel
theorem dX7_valueOfWord_1 : decode cX7_valueOfWord 1 = .ok (.ldc 213, 2) := by decide +kernel
theorem dX7_valueOfWord_3 : decode cX7_valueOfWord 3 = .ok (.invokevirtual 62, 3) := by decide +kernel
theorem dX7_valueOfWord_6 : decode cX7_valueOfWord 6 = .ok (.ifCond .eq 5, 3) := by decide +kernel
theorem dX7_valueOfWord_9 : decode cX7_valueOfWord 9 = .ok (.iconst 0, 1) := by decide +kernel
theorem dX7_valueOfWord_10 : decode cX7_valueOfWord 10 = .ok (.ireturn, 1) := by decide +kernel
theorem dX7_valueOfWord_11 : decode cX7_valueOfWord 11 = .ok (.aload_n 0, 1) := by decide +kernel
theorem dX7_valueOfWord_12 : decode cX7_valueOfWord 12 = .ok (.ldc 216, 2) := by decide +kernel
theorem dX7_valueOfWord_14 : decode cX7_valueOfWord 14 = .ok (.invokevirtual 62, 3) := by decide +kernel
theorem dX7_valueOfWord_17 : decode cX7_valueOfWord 17 = .ok (.ifCond .eq 5, 3) := by decide +kernel
theorem dX7_valueOfWord_20 : decode cX7_valueOfWord 20 = .ok (.iconst 1, 1) := by decide +kernel
theorem dX7_valueOfWord_21 : decode cX7_valueOfWord 21 = .ok (.ireturn, 1) := by decide +kernel
theorem dX7_valueOfWord_22 : decode cX7_valueOfWord 22 = .ok (.aload_n 0, 1) := by decide +kernel
theorem dX7_valueOfWord_23 : decode cX7_valueOfWord 23 = .ok (.ldc 217, 2) := by decide +kernel
theorem dX7_valueOfWord_25 : decode cX7_valueOfWord 25 = .ok (.invokevirtual 62, 3) := by decide +kernel
theorem dX7_valueOfWord_28 : decode cX7_valueOfWord 28 = .ok (.ifCond .eq 5, 3) := by decide +kernel
theorem dX7_valueOfWord_31 : decode cX7_valueOfWord 31 = .ok (.iconst 2, 1) := by decide +kernel
theorem dX7_valueOfWord_32 : decode cX7_valueOfWord 32 = .ok (.ireturn, 1) := by decide +kernel
theorem dX7_valueOfWord_33 : decode cX7_valueOfWord 33 = .ok (.aload_n 0, 1) := by decide +kernel
theorem dX7_valueOfWord_34 : decode cX7_valueOfWord 34 = .ok (.ldc 160, 2) := by decide +kernel
theorem dX7_valueOfWord_36 : decode cX7_valueOfWord 36 = .ok (.invokevirtual 62, 3) := by decide +kernel
theorem dX7_valueOfWord_39 : decode cX7_valueOfWord 39 = .ok (.ifCond .eq 5, 3) := by decide +kernel
theorem dX7_valueOfWord_42 : decode cX7_valueOfWord 42 = .ok (.iconst 3, 1) := by decide +kernel
theorem dX7_valueOfWord_43 : decode cX7_valueOfWord 43 = .ok (.ireturn, 1) := by decide +kernel
theorem dX7_valueOfWord_44 : decode cX7_valueOfWord 44 = .ok (.aload_n 0, 1) := by decide +kernel
theorem dX7_valueOfWord_45 : decode cX7_valueOfWord 45 = .ok (.ldc 218, 2) := by decide +kernel
theorem dX7_valueOfWord_47 : decode cX7_valueOfWord 47 = .ok (.invokevirtual 62, 3) := by decide +kernel
theorem dX7_valueOfWord_50 : decode cX7_valueOfWord 50 = .ok (.ifCond .eq 5, 3) := by decide +kernel
theorem dX7_valueOfWord_53 : decode cX7_valueOfWord 53 = .ok (.iconst 4, 1) := by decide +kernel
theorem dX7_valueOfWord_54 : decode cX7_valueOfWord 54 = .ok (.ireturn, 1) := by decide +kernel
theorem dX7_valueOfWord_55 : decode cX7_valueOfWord 55 = .ok (.aload_n 0, 1) := by decide +kernel
theorem dX7_valueOfWord_56 : decode cX7_valueOfWord 56 = .ok (.ldc 220, 2) := by decide +kernel
theorem dX7_valueOfWord_58 : decode cX7_valueOfWord 58 = .ok (.invokevirtual 62, 3) := by decide +kernel
theorem dX7_valueOfWord_61 : decode cX7_valueOfWord 61 = .ok (.ifCond .eq 7, 3) := by decide +kernel
theorem dX7_valueOfWord_64 : decode cX7_valueOfWord 64 = .ok (.iconst 5, 1) := by decide +kernel
theorem dX7_valueOfWord_65 : decode cX7_valueOfWord 65 = .ok (.goto 4, 3) := by decide +kernel
theorem dX7_valueOfWord_68 : decode cX7_valueOfWord 68 = .ok (.iconst (-1), 1) := by decide +kernel
theorem dX7_valueOfWord_69 : decode cX7_valueOfWord 69 = .ok (.ireturn, 1) := by decide +kernel
theorem dX7_takeNumber_0 : decode cX7_takeNumber 0 = .ok (.aload_n 0, 1) := by decide +kernel
theorem dX7_takeNumber_1 : decode cX7_takeNumber 1 = .ok (.getfield 23, 3) := by decide +kernel
theorem dX7_takeNumber_4 : decode cX7_takeNumber 4 = .ok (.iconst 2, 1) := by decide +kernel
theorem dX7_takeNumber_5 : decode cX7_takeNumber 5 = .ok (.if_icmp .eq 11, 3) := by decide +kernel
theorem dX7_takeNumber_8 : decode cX7_takeNumber 8 = .ok (.aload_n 0, 1) := by decide +kernel
theorem dX7_takeNumber_9 : decode cX7_takeNumber 9 = .ok (.iconst 1, 1) := by decide +kernel
theorem dX7_takeNumber_10 : decode cX7_takeNumber 10 = .ok (.invokevirtual 90, 3) := by decide +kernel
theorem dX7_takeNumber_13 : decode cX7_takeNumber 13 = .ok (.pop, 1) := by decide +kernel
theorem dX7_takeNumber_14 : decode cX7_takeNumber 14 = .ok (.iconst (-1), 1) := by decide +kernel
theorem dX7_takeNumber_15 : decode cX7_takeNumber 15 = .ok (.ireturn, 1) := by decide +kernel
theorem dX7_takeNumber_16 : decode cX7_takeNumber 16 = .ok (.aload_n 0, 1) := by decide +kernel
theorem dX7_takeNumber_17 : decode cX7_takeNumber 17 = .ok (.invokevirtual 107, 3) := by decide +kernel
theorem dX7_takeNumber_20 : decode cX7_takeNumber 20 = .ok (.istore_n 3, 1) := by decide +kernel
theorem dX7_takeNumber_21 : decode cX7_takeNumber 21 = .ok (.iload_n 3, 1) := by decide +kernel
theorem dX7_takeNumber_22 : decode cX7_takeNumber 22 = .ok (.iload_n 1, 1) := by decide +kernel
theorem dX7_takeNumber_23 : decode cX7_takeNumber 23 = .ok (.if_icmp .lt 8, 3) := by decide +kernel
theorem dX7_takeNumber_26 : decode cX7_takeNumber 26 = .ok (.iload_n 3, 1) := by decide +kernel
theorem dX7_takeNumber_27 : decode cX7_takeNumber 27 = .ok (.iload_n 2, 1) := by decide +kernel
theorem dX7_takeNumber_28 : decode cX7_takeNumber 28 = .ok (.if_icmp .le 11, 3) := by decide +kernel
theorem dX7_takeNumber_31 : decode cX7_takeNumber 31 = .ok (.aload_n 0, 1) := by decide +kernel
theorem dX7_takeNumber_32 : decode cX7_takeNumber 32 = .ok (.iconst 2, 1) := by decide +kernel
theorem dX7_takeNumber_33 : decode cX7_takeNumber 33 = .ok (.invokevirtual 90, 3) := by decide +kernel
theorem dX7_takeNumber_36 : decode cX7_takeNumber 36 = .ok (.pop, 1) := by decide +kernel
theorem dX7_takeNumber_37 : decode cX7_takeNumber 37 = .ok (.iconst (-1), 1) := by decide +kernel
theorem dX7_takeNumber_38 : decode cX7_takeNumber 38 = .ok (.ireturn, 1) := by decide +kernel
theorem dX7_takeNumber_39 : decode cX7_takeNumber 39 = .ok (.aload_n 0, 1) := by decide +kernel
theorem dX7_takeNumber_40 : decode cX7_takeNumber 40 = .ok (.invokevirtual 49, 3) := by decide +kernel
theorem dX7_takeNumber_43 : decode cX7_takeNumber 43 = .ok (.iload_n 3, 1) := by decide +kernel
theorem dX7_takeNumber_44 : decode cX7_takeNumber 44 = .ok (.ireturn, 1) := by decide +kernel
theorem dX7_takeValley_0 : decode cX7_takeValley 0 = .ok (.aload_n 0, 1) := by decide +kernel
theorem dX7_takeValley_1 : decode cX7_takeValley 1 = .ok (.invokevirtual 107, 3) := by decide +kernel
theorem dX7_takeValley_4 : decode cX7_takeValley 4 = .ok (.istore_n 1, 1) := by decide +kernel
theorem dX7_takeValley_5 : decode cX7_takeValley 5 = .ok (.iload_n 1, 1) := by decide +kernel
theorem dX7_takeValley_6 : decode cX7_takeValley 6 = .ok (.iconst (-1), 1) := by decide +kernel
theorem dX7_takeValley_7 : decode cX7_takeValley 7 = .ok (.if_icmp .eq 22, 3) := by decide +kernel
theorem dX7_takeValley_10 : decode cX7_takeValley 10 = .ok (.iload_n 1, 1) := by decide +kernel
theorem dX7_takeValley_11 : decode cX7_takeValley 11 = .ok (.aload_n 0, 1) := by decide +kernel
theorem dX7_takeValley_12 : decode cX7_takeValley 12 = .ok (.getfield 9, 3) := by decide +kernel
theorem dX7_takeValley_15 : decode cX7_takeValley 15 = .ok (.getfield 87, 3) := by decide +kernel
theorem dX7_takeValley_18 : decode cX7_takeValley 18 = .ok (.if_icmp .lt 11, 3) := by decide +kernel
theorem dX7_takeValley_21 : decode cX7_takeValley 21 = .ok (.aload_n 0, 1) := by decide +kernel
theorem dX7_takeValley_22 : decode cX7_takeValley 22 = .ok (.iconst 3, 1) := by decide +kernel
theorem dX7_takeValley_23 : decode cX7_takeValley 23 = .ok (.invokevirtual 90, 3) := by decide +kernel
theorem dX7_takeValley_26 : decode cX7_takeValley 26 = .ok (.pop, 1) := by decide +kernel
theorem dX7_takeValley_27 : decode cX7_takeValley 27 = .ok (.iconst (-1), 1) := by decide +kernel
theorem dX7_takeValley_28 : decode cX7_takeValley 28 = .ok (.ireturn, 1) := by decide +kernel
theorem dX7_takeValley_29 : decode cX7_takeValley 29 = .ok (.aload_n 0, 1) := by decide +kernel
theorem dX7_takeValley_30 : decode cX7_takeValley 30 = .ok (.iconst 0, 1) := by decide +kernel
theorem dX7_takeValley_31 : decode cX7_takeValley 31 = .ok (.sipush 9999, 3) := by decide +kernel
theorem dX7_takeValley_34 : decode cX7_takeValley 34 = .ok (.invokevirtual 94, 3) := by decide +kernel
theorem dX7_takeValley_37 : decode cX7_takeValley 37 = .ok (.ireturn, 1) := by decide +kernel
theorem dX7_takeSign_0 : decode cX7_takeSign 0 = .ok (.aload_n 0, 1) := by decide +kernel
theorem dX7_takeSign_1 : decode cX7_takeSign 1 = .ok (.iload_n 1, 1) := by decide +kernel
theorem dX7_takeSign_2 : decode cX7_takeSign 2 = .ok (.invokevirtual 197, 3) := by decide +kernel
theorem dX7_takeSign_5 : decode cX7_takeSign 5 = .ok (.ifCond .ne 9, 3) := by decide +kernel
theorem dX7_takeSign_8 : decode cX7_takeSign 8 = .ok (.aload_n 0, 1) := by decide +kernel
theorem dX7_takeSign_9 : decode cX7_takeSign 9 = .ok (.iconst 1, 1) := by decide +kernel
theorem dX7_takeSign_10 : decode cX7_takeSign 10 = .ok (.invokevirtual 90, 3) := by decide +kernel
theorem dX7_takeSign_13 : decode cX7_takeSign 13 = .ok (.ireturn, 1) := by decide +kernel
theorem dX7_takeSign_14 : decode cX7_takeSign 14 = .ok (.aload_n 0, 1) := by decide +kernel
theorem dX7_takeSign_15 : decode cX7_takeSign 15 = .ok (.invokevirtual 49, 3) := by decide +kernel
theorem dX7_takeSign_18 : decode cX7_takeSign 18 = .ok (.iconst 1, 1) := by decide +kernel
theorem dX7_takeSign_19 : decode cX7_takeSign 19 = .ok (.ireturn, 1) := by decide +kernel
theorem dX7_numberHere_0 : decode cX7_numberHere 0 = .ok (.aload_n 0, 1) := by decide +kernel
theorem dX7_numberHere_1 : decode cX7_numberHere 1 = .ok (.getfield 23, 3) := by decide +kernel
theorem dX7_numberHere_4 : decode cX7_numberHere 4 = .ok (.iconst 2, 1) := by decide +kernel
theorem dX7_numberHere_5 : decode cX7_numberHere 5 = .ok (.if_icmp .ne 16, 3) := by decide +kernel
theorem dX7_numberHere_8 : decode cX7_numberHere 8 = .ok (.aload_n 0, 1) := by decide +kernel
theorem dX7_numberHere_9 : decode cX7_numberHere 9 = .ok (.getfield 29, 3) := by decide +kernel
theorem dX7_numberHere_12 : decode cX7_numberHere 12 = .ok (.aload_n 0, 1) := by decide +kernel
theorem dX7_numberHere_13 : decode cX7_numberHere 13 = .ok (.getfield 26, 3) := by decide +kernel
theorem dX7_numberHere_16 : decode cX7_numberHere 16 = .ok (.isub, 1) := by decide +kernel
theorem dX7_numberHere_17 : decode cX7_numberHere 17 = .ok (.iconst 4, 1) := by decide +kernel
theorem dX7_numberHere_18 : decode cX7_numberHere 18 = .ok (.if_icmp .le 5, 3) := by decide +kernel
theorem dX7_numberHere_21 : decode cX7_numberHere 21 = .ok (.iconst (-1), 1) := by decide +kernel
theorem dX7_numberHere_22 : decode cX7_numberHere 22 = .ok (.ireturn, 1) := by decide +kernel
theorem dX7_numberHere_23 : decode cX7_numberHere 23 = .ok (.iconst 0, 1) := by decide +kernel
theorem dX7_numberHere_24 : decode cX7_numberHere 24 = .ok (.istore_n 1, 1) := by decide +kernel
theorem dX7_numberHere_25 : decode cX7_numberHere 25 = .ok (.aload_n 0, 1) := by decide +kernel
theorem dX7_numberHere_26 : decode cX7_numberHere 26 = .ok (.getfield 26, 3) := by decide +kernel
theorem dX7_numberHere_29 : decode cX7_numberHere 29 = .ok (.istore_n 2, 1) := by decide +kernel
theorem dX7_numberHere_30 : decode cX7_numberHere 30 = .ok (.iload_n 2, 1) := by decide +kernel
theorem dX7_numberHere_31 : decode cX7_numberHere 31 = .ok (.aload_n 0, 1) := by decide +kernel
theorem dX7_numberHere_32 : decode cX7_numberHere 32 = .ok (.getfield 29, 3) := by decide +kernel
theorem dX7_numberHere_35 : decode cX7_numberHere 35 = .ok (.if_icmp .ge 23, 3) := by decide +kernel
theorem dX7_numberHere_38 : decode cX7_numberHere 38 = .ok (.iload_n 1, 1) := by decide +kernel
theorem dX7_numberHere_39 : decode cX7_numberHere 39 = .ok (.bipush 10, 2) := by decide +kernel
theorem dX7_numberHere_41 : decode cX7_numberHere 41 = .ok (.imul, 1) := by decide +kernel
theorem dX7_numberHere_42 : decode cX7_numberHere 42 = .ok (.aload_n 0, 1) := by decide +kernel
theorem dX7_numberHere_43 : decode cX7_numberHere 43 = .ok (.iload_n 2, 1) := by decide +kernel
theorem dX7_numberHere_44 : decode cX7_numberHere 44 = .ok (.invokevirtual 222, 3) := by decide +kernel
theorem dX7_numberHere_47 : decode cX7_numberHere 47 = .ok (.iadd, 1) := by decide +kernel
theorem dX7_numberHere_48 : decode cX7_numberHere 48 = .ok (.bipush 48, 2) := by decide +kernel
theorem dX7_numberHere_50 : decode cX7_numberHere 50 = .ok (.isub, 1) := by decide +kernel
theorem dX7_numberHere_51 : decode cX7_numberHere 51 = .ok (.istore_n 1, 1) := by decide +kernel
theorem dX7_numberHere_52 : decode cX7_numberHere 52 = .ok (.iinc 2 1, 3) := by decide +kernel
theorem dX7_numberHere_55 : decode cX7_numberHere 55 = .ok (.goto (-25), 3) := by decide +kernel
theorem dX7_numberHere_58 : decode cX7_numberHere 58 = .ok (.iload_n 1, 1) := by decide +kernel
theorem dX7_numberHere_59 : decode cX7_numberHere 59 = .ok (.ireturn, 1) := by decide +kernel
theorem dX7_isIllPaired_0 : decode cX7_isIllPaired 0 = .ok (.iload_n 1, 1) := by decide +kernel
theorem dX7_isIllPaired_1 : decode cX7_isIllPaired 1 = .ok (.iload_n 2, 1) := by decide +kernel
theorem dX7_isIllPaired_2 : decode cX7_isIllPaired 2 = .ok (.if_icmp .ne 7, 3) := by decide +kernel
theorem dX7_isIllPaired_5 : decode cX7_isIllPaired 5 = .ok (.iconst 1, 1) := by decide +kernel
theorem dX7_isIllPaired_6 : decode cX7_isIllPaired 6 = .ok (.goto 4, 3) := by decide +kernel
theorem dX7_isIllPaired_9 : decode cX7_isIllPaired 9 = .ok (.iconst 0, 1) := by decide +kernel
theorem dX7_isIllPaired_10 : decode cX7_isIllPaired 10 = .ok (.istore_n 3, 1) := by decide +kernel
theorem dX7_isIllPaired_11 : decode cX7_isIllPaired 11 = .ok (.iconst 0, 1) := by decide +kernel
theorem dX7_isIllPaired_12 : decode cX7_isIllPaired 12 = .ok (.istore 4, 2) := by decide +kernel
theorem dX7_isIllPaired_14 : decode cX7_isIllPaired 14 = .ok (.iload 4, 2) := by decide +kernel
theorem dX7_isIllPaired_16 : decode cX7_isIllPaired 16 = .ok (.aload_n 0, 1) := by decide +kernel
theorem dX7_isIllPaired_17 : decode cX7_isIllPaired 17 = .ok (.getfield 9, 3) := by decide +kernel
theorem dX7_isIllPaired_20 : decode cX7_isIllPaired 20 = .ok (.getfield 100, 3) := by decide +kernel
theorem dX7_isIllPaired_23 : decode cX7_isIllPaired 23 = .ok (.if_icmp .ge 33, 3) := by decide +kernel
theorem dX7_isIllPaired_26 : decode cX7_isIllPaired 26 = .ok (.iload_n 3, 1) := by decide +kernel
theorem dX7_isIllPaired_27 : decode cX7_isIllPaired 27 = .ok (.ifCond .ne 17, 3) := by decide +kernel
theorem dX7_isIllPaired_30 : decode cX7_isIllPaired 30 = .ok (.aload_n 0, 1) := by decide +kernel
theorem dX7_isIllPaired_31 : decode cX7_isIllPaired 31 = .ok (.getfield 9, 3) := by decide +kernel
theorem dX7_isIllPaired_34 : decode cX7_isIllPaired 34 = .ok (.iload 4, 2) := by decide +kernel
theorem dX7_isIllPaired_36 : decode cX7_isIllPaired 36 = .ok (.iload_n 1, 1) := by decide +kernel
theorem dX7_isIllPaired_37 : decode cX7_isIllPaired 37 = .ok (.iload_n 2, 1) := by decide +kernel
theorem dX7_isIllPaired_38 : decode cX7_isIllPaired 38 = .ok (.invokevirtual 225, 3) := by decide +kernel
theorem dX7_isIllPaired_41 : decode cX7_isIllPaired 41 = .ok (.ifCond .eq 7, 3) := by decide +kernel
theorem dX7_isIllPaired_44 : decode cX7_isIllPaired 44 = .ok (.iconst 1, 1) := by decide +kernel
theorem dX7_isIllPaired_45 : decode cX7_isIllPaired 45 = .ok (.goto 4, 3) := by decide +kernel
theorem dX7_isIllPaired_48 : decode cX7_isIllPaired 48 = .ok (.iconst 0, 1) := by decide +kernel
theorem dX7_isIllPaired_49 : decode cX7_isIllPaired 49 = .ok (.istore_n 3, 1) := by decide +kernel
theorem dX7_isIllPaired_50 : decode cX7_isIllPaired 50 = .ok (.iinc 4 1, 3) := by decide +kernel
theorem dX7_isIllPaired_53 : decode cX7_isIllPaired 53 = .ok (.goto (-39), 3) := by decide +kernel
theorem dX7_isIllPaired_56 : decode cX7_isIllPaired 56 = .ok (.iload_n 3, 1) := by decide +kernel
theorem dX7_isIllPaired_57 : decode cX7_isIllPaired 57 = .ok (.ireturn, 1) := by decide +kernel
theorem dX7_mayBeginPart_0 : decode cX7_mayBeginPart 0 = .ok (.aload_n 0, 1) := by decide +kernel
theorem dX7_mayBeginPart_1 : decode cX7_mayBeginPart 1 = .ok (.getfield 23, 3) := by decide +kernel
theorem dX7_mayBeginPart_4 : decode cX7_mayBeginPart 4 = .ok (.iconst 2, 1) := by decide +kernel
theorem dX7_mayBeginPart_5 : decode cX7_mayBeginPart 5 = .ok (.if_icmp .eq 20, 3) := by decide +kernel
theorem dX7_mayBeginPart_8 : decode cX7_mayBeginPart 8 = .ok (.aload_n 0, 1) := by decide +kernel
theorem dX7_mayBeginPart_9 : decode cX7_mayBeginPart 9 = .ok (.getfield 23, 3) := by decide +kernel
theorem dX7_mayBeginPart_12 : decode cX7_mayBeginPart 12 = .ok (.iconst 1, 1) := by decide +kernel
theorem dX7_mayBeginPart_13 : decode cX7_mayBeginPart 13 = .ok (.if_icmp .eq 12, 3) := by decide +kernel
theorem dX7_mayBeginPart_16 : decode cX7_mayBeginPart 16 = .ok (.aload_n 0, 1) := by decide +kernel
theorem dX7_mayBeginPart_17 : decode cX7_mayBeginPart 17 = .ok (.bipush 40, 2) := by decide +kernel
theorem dX7_mayBeginPart_19 : decode cX7_mayBeginPart 19 = .ok (.invokevirtual 197, 3) := by decide +kernel
theorem dX7_mayBeginPart_22 : decode cX7_mayBeginPart 22 = .ok (.ifCond .eq 7, 3) := by decide +kernel
theorem dX7_mayBeginPart_25 : decode cX7_mayBeginPart 25 = .ok (.iconst 1, 1) := by decide +kernel
theorem dX7_mayBeginPart_26 : decode cX7_mayBeginPart 26 = .ok (.goto 4, 3) := by decide +kernel
theorem dX7_mayBeginPart_29 : decode cX7_mayBeginPart 29 = .ok (.iconst 0, 1) := by decide +kernel
theorem dX7_mayBeginPart_30 : decode cX7_mayBeginPart 30 = .ok (.ireturn, 1) := by decide +kernel
theorem dX7_isSign_0 : decode cX7_isSign 0 = .ok (.aload_n 0, 1) := by decide +kernel
theorem dX7_isSign_1 : decode cX7_isSign 1 = .ok (.getfield 23, 3) := by decide +kernel
theorem dX7_isSign_4 : decode cX7_isSign 4 = .ok (.iconst 3, 1) := by decide +kernel
theorem dX7_isSign_5 : decode cX7_isSign 5 = .ok (.if_icmp .ne 19, 3) := by decide +kernel
theorem dX7_isSign_8 : decode cX7_isSign 8 = .ok (.aload_n 0, 1) := by decide +kernel
theorem dX7_isSign_9 : decode cX7_isSign 9 = .ok (.aload_n 0, 1) := by decide +kernel
theorem dX7_isSign_10 : decode cX7_isSign 10 = .ok (.getfield 26, 3) := by decide +kernel
theorem dX7_isSign_13 : decode cX7_isSign 13 = .ok (.invokevirtual 222, 3) := by decide +kernel
theorem dX7_isSign_16 : decode cX7_isSign 16 = .ok (.iload_n 1, 1) := by decide +kernel
theorem dX7_isSign_17 : decode cX7_isSign 17 = .ok (.if_icmp .ne 7, 3) := by decide +kernel
theorem dX7_isSign_20 : decode cX7_isSign 20 = .ok (.iconst 1, 1) := by decide +kernel
theorem dX7_isSign_21 : decode cX7_isSign 21 = .ok (.goto 4, 3) := by decide +kernel
theorem dX7_isSign_24 : decode cX7_isSign 24 = .ok (.iconst 0, 1) := by decide +kernel
theorem dX7_isSign_25 : decode cX7_isSign 25 = .ok (.ireturn, 1) := by decide +kernel
theorem dX7_isWord_0 : decode cX7_isWord 0 = .ok (.aload_n 0, 1) := by decide +kernel
theorem dX7_isWord_1 : decode cX7_isWord 1 = .ok (.getfield 23, 3) := by decide +kernel
theorem dX7_isWord_4 : decode cX7_isWord 4 = .ok (.iconst 1, 1) := by decide +kernel
theorem dX7_isWord_5 : decode cX7_isWord 5 = .ok (.if_icmp .ne 19, 3) := by decide +kernel
theorem dX7_isWord_8 : decode cX7_isWord 8 = .ok (.aload_n 0, 1) := by decide +kernel
theorem dX7_isWord_9 : decode cX7_isWord 9 = .ok (.getfield 29, 3) := by decide +kernel
theorem dX7_isWord_12 : decode cX7_isWord 12 = .ok (.aload_n 0, 1) := by decide +kernel
theorem dX7_isWord_13 : decode cX7_isWord 13 = .ok (.getfield 26, 3) := by decide +kernel
theorem dX7_isWord_16 : decode cX7_isWord 16 = .ok (.isub, 1) := by decide +kernel
theorem dX7_isWord_17 : decode cX7_isWord 17 = .ok (.aload_n 1, 1) := by decide +kernel
theorem dX7_isWord_18 : decode cX7_isWord 18 = .ok (.invokevirtual 229, 3) := by decide +kernel
theorem dX7_isWord_21 : decode cX7_isWord 21 = .ok (.if_icmp .eq 5, 3) := by decide +kernel
theorem dX7_isWord_24 : decode cX7_isWord 24 = .ok (.iconst 0, 1) := by decide +kernel
theorem dX7_isWord_25 : decode cX7_isWord 25 = .ok (.ireturn, 1) := by decide +kernel
theorem dX7_isWord_26 : decode cX7_isWord 26 = .ok (.iconst 0, 1) := by decide +kernel
theorem dX7_isWord_27 : decode cX7_isWord 27 = .ok (.istore_n 2, 1) := by decide +kernel
theorem dX7_isWord_28 : decode cX7_isWord 28 = .ok (.iload_n 2, 1) := by decide +kernel
theorem dX7_isWord_29 : decode cX7_isWord 29 = .ok (.aload_n 1, 1) := by decide +kernel
theorem dX7_isWord_30 : decode cX7_isWord 30 = .ok (.invokevirtual 229, 3) := by decide +kernel
theorem dX7_isWord_33 : decode cX7_isWord 33 = .ok (.if_icmp .ge 29, 3) := by decide +kernel
theorem dX7_isWord_36 : decode cX7_isWord 36 = .ok (.aload_n 0, 1) := by decide +kernel
theorem dX7_isWord_37 : decode cX7_isWord 37 = .ok (.aload_n 0, 1) := by decide +kernel
theorem dX7_isWord_38 : decode cX7_isWord 38 = .ok (.getfield 26, 3) := by decide +kernel
theorem dX7_isWord_41 : decode cX7_isWord 41 = .ok (.iload_n 2, 1) := by decide +kernel
theorem dX7_isWord_42 : decode cX7_isWord 42 = .ok (.iadd, 1) := by decide +kernel
theorem dX7_isWord_43 : decode cX7_isWord 43 = .ok (.invokevirtual 222, 3) := by decide +kernel
theorem dX7_isWord_46 : decode cX7_isWord 46 = .ok (.aload_n 1, 1) := by decide +kernel
theorem dX7_isWord_47 : decode cX7_isWord 47 = .ok (.iload_n 2, 1) := by decide +kernel
theorem dX7_isWord_48 : decode cX7_isWord 48 = .ok (.invokevirtual 233, 3) := by decide +kernel
theorem dX7_isWord_51 : decode cX7_isWord 51 = .ok (.if_icmp .eq 5, 3) := by decide +kernel
theorem dX7_isWord_54 : decode cX7_isWord 54 = .ok (.iconst 0, 1) := by decide +kernel
theorem dX7_isWord_55 : decode cX7_isWord 55 = .ok (.ireturn, 1) := by decide +kernel
theorem dX7_isWord_56 : decode cX7_isWord 56 = .ok (.iinc 2 1, 3) := by decide +kernel
theorem dX7_isWord_59 : decode cX7_isWord 59 = .ok (.goto (-31), 3) := by decide +kernel
theorem dX7_isWord_62 : decode cX7_isWord 62 = .ok (.iconst 1, 1) := by decide +kernel
theorem dX7_isWord_63 : decode cX7_isWord 63 = .ok (.ireturn, 1) := by decide +kernel
theorem dX7_refuse_0 : decode cX7_refuse 0 = .ok (.aload_n 0, 1) := by decide +kernel
theorem dX7_refuse_1 : decode cX7_refuse 1 = .ok (.iload_n 1, 1) := by decide +kernel
theorem dX7_refuse_2 : decode cX7_refuse 2 = .ok (.putfield 32, 3) := by decide +kernel
theorem dX7_refuse_5 : decode cX7_refuse 5 = .ok (.aload_n 0, 1) := by decide +kernel
theorem dX7_refuse_6 : decode cX7_refuse 6 = .ok (.aload_n 0, 1) := by decide +kernel
theorem dX7_refuse_7 : decode cX7_refuse 7 = .ok (.getfield 26, 3) := by decide +kernel
theorem dX7_refuse_10 : decode cX7_refuse 10 = .ok (.putfield 35, 3) := by decide +kernel
theorem dX7_refuse_13 : decode cX7_refuse 13 = .ok (.iconst 0, 1) := by decide +kernel
theorem dX7_refuse_14 : decode cX7_refuse 14 = .ok (.ireturn, 1) := by decide +kernel
theorem dX7_nextToken_0 : decode cX7_nextToken 0 = .ok (.aload_n 0, 1) := by decide +kernel
theorem dX7_nextToken_1 : decode cX7_nextToken 1 = .ok (.aload_n 0, 1) := by decide +kernel
theorem dX7_nextToken_2 : decode cX7_nextToken 2 = .ok (.getfield 29, 3) := by decide +kernel
theorem dX7_nextToken_5 : decode cX7_nextToken 5 = .ok (.putfield 26, 3) := by decide +kernel
theorem dX7_nextToken_8 : decode cX7_nextToken 8 = .ok (.iconst 0, 1) := by decide +kernel
theorem dX7_nextToken_9 : decode cX7_nextToken 9 = .ok (.istore_n 1, 1) := by decide +kernel
theorem dX7_nextToken_10 : decode cX7_nextToken 10 = .ok (.iload_n 1, 1) := by decide +kernel
theorem dX7_nextToken_11 : decode cX7_nextToken 11 = .ok (.sipush 700, 3) := by decide +kernel
theorem dX7_nextToken_14 : decode cX7_nextToken 14 = .ok (.if_icmp .ge 31, 3) := by decide +kernel
theorem dX7_nextToken_17 : decode cX7_nextToken 17 = .ok (.aload_n 0, 1) := by decide +kernel
theorem dX7_nextToken_18 : decode cX7_nextToken 18 = .ok (.aload_n 0, 1) := by decide +kernel
theorem dX7_nextToken_19 : decode cX7_nextToken 19 = .ok (.getfield 26, 3) := by decide +kernel
theorem dX7_nextToken_22 : decode cX7_nextToken 22 = .ok (.invokevirtual 237, 3) := by decide +kernel
theorem dX7_nextToken_25 : decode cX7_nextToken 25 = .ok (.iconst 4, 1) := by decide +kernel
theorem dX7_nextToken_26 : decode cX7_nextToken 26 = .ok (.if_icmp .ne 19, 3) := by decide +kernel
theorem dX7_nextToken_29 : decode cX7_nextToken 29 = .ok (.aload_n 0, 1) := by decide +kernel
theorem dX7_nextToken_30 : decode cX7_nextToken 30 = .ok (.dup, 1) := by decide +kernel
theorem dX7_nextToken_31 : decode cX7_nextToken 31 = .ok (.getfield 26, 3) := by decide +kernel
theorem dX7_nextToken_34 : decode cX7_nextToken 34 = .ok (.iconst 1, 1) := by decide +kernel
theorem dX7_nextToken_35 : decode cX7_nextToken 35 = .ok (.iadd, 1) := by decide +kernel
theorem dX7_nextToken_36 : decode cX7_nextToken 36 = .ok (.putfield 26, 3) := by decide +kernel
theorem dX7_nextToken_39 : decode cX7_nextToken 39 = .ok (.iinc 1 1, 3) := by decide +kernel
theorem dX7_nextToken_42 : decode cX7_nextToken 42 = .ok (.goto (-32), 3) := by decide +kernel
theorem dX7_nextToken_45 : decode cX7_nextToken 45 = .ok (.aload_n 0, 1) := by decide +kernel
theorem dX7_nextToken_46 : decode cX7_nextToken 46 = .ok (.aload_n 0, 1) := by decide +kernel
theorem dX7_nextToken_47 : decode cX7_nextToken 47 = .ok (.aload_n 0, 1) := by decide +kernel
theorem dX7_nextToken_48 : decode cX7_nextToken 48 = .ok (.getfield 26, 3) := by decide +kernel
theorem dX7_nextToken_51 : decode cX7_nextToken 51 = .ok (.invokevirtual 237, 3) := by decide +kernel
theorem dX7_nextToken_54 : decode cX7_nextToken 54 = .ok (.putfield 23, 3) := by decide +kernel
theorem dX7_nextToken_57 : decode cX7_nextToken 57 = .ok (.aload_n 0, 1) := by decide +kernel
theorem dX7_nextToken_58 : decode cX7_nextToken 58 = .ok (.aload_n 0, 1) := by decide +kernel
theorem dX7_nextToken_59 : decode cX7_nextToken 59 = .ok (.getfield 23, 3) := by decide +kernel
theorem dX7_nextToken_62 : decode cX7_nextToken 62 = .ok (.ifCond .ne 10, 3) := by decide +kernel
theorem dX7_nextToken_65 : decode cX7_nextToken 65 = .ok (.aload_n 0, 1) := by decide +kernel
theorem dX7_nextToken_66 : decode cX7_nextToken 66 = .ok (.getfield 26, 3) := by decide +kernel
theorem dX7_nextToken_69 : decode cX7_nextToken 69 = .ok (.goto 9, 3) := by decide +kernel
theorem dX7_nextToken_72 : decode cX7_nextToken 72 = .ok (.aload_n 0, 1) := by decide +kernel
theorem dX7_nextToken_73 : decode cX7_nextToken 73 = .ok (.getfield 26, 3) := by decide +kernel
theorem dX7_nextToken_76 : decode cX7_nextToken 76 = .ok (.iconst 1, 1) := by decide +kernel
theorem dX7_nextToken_77 : decode cX7_nextToken 77 = .ok (.iadd, 1) := by decide +kernel
theorem dX7_nextToken_78 : decode cX7_nextToken 78 = .ok (.putfield 29, 3) := by decide +kernel
theorem dX7_nextToken_81 : decode cX7_nextToken 81 = .ok (.aload_n 0, 1) := by decide +kernel
theorem dX7_nextToken_82 : decode cX7_nextToken 82 = .ok (.getfield 23, 3) := by decide +kernel
theorem dX7_nextToken_85 : decode cX7_nextToken 85 = .ok (.iconst 1, 1) := by decide +kernel
theorem dX7_nextToken_86 : decode cX7_nextToken 86 = .ok (.if_icmp .eq 11, 3) := by decide +kernel
theorem dX7_nextToken_89 : decode cX7_nextToken 89 = .ok (.aload_n 0, 1) := by decide +kernel
theorem dX7_nextToken_90 : decode cX7_nextToken 90 = .ok (.getfield 23, 3) := by decide +kernel
theorem dX7_nextToken_93 : decode cX7_nextToken 93 = .ok (.iconst 2, 1) := by decide +kernel
theorem dX7_nextToken_94 : decode cX7_nextToken 94 = .ok (.if_icmp .ne 7, 3) := by decide +kernel
theorem dX7_nextToken_97 : decode cX7_nextToken 97 = .ok (.iconst 1, 1) := by decide +kernel
theorem dX7_nextToken_98 : decode cX7_nextToken 98 = .ok (.goto 4, 3) := by decide +kernel
theorem dX7_nextToken_101 : decode cX7_nextToken 101 = .ok (.iconst 0, 1) := by decide +kernel
theorem dX7_nextToken_102 : decode cX7_nextToken 102 = .ok (.istore_n 1, 1) := by decide +kernel
theorem dX7_nextToken_103 : decode cX7_nextToken 103 = .ok (.iconst 0, 1) := by decide +kernel
theorem dX7_nextToken_104 : decode cX7_nextToken 104 = .ok (.istore_n 2, 1) := by decide +kernel
theorem dX7_nextToken_105 : decode cX7_nextToken 105 = .ok (.iload_n 2, 1) := by decide +kernel
theorem dX7_nextToken_106 : decode cX7_nextToken 106 = .ok (.sipush 700, 3) := by decide +kernel
theorem dX7_nextToken_109 : decode cX7_nextToken 109 = .ok (.if_icmp .ge 38, 3) := by decide +kernel
theorem dX7_nextToken_112 : decode cX7_nextToken 112 = .ok (.iload_n 1, 1) := by decide +kernel
theorem dX7_nextToken_113 : decode cX7_nextToken 113 = .ok (.ifCond .eq 34, 3) := by decide +kernel
theorem dX7_nextToken_116 : decode cX7_nextToken 116 = .ok (.aload_n 0, 1) := by decide +kernel
theorem dX7_nextToken_117 : decode cX7_nextToken 117 = .ok (.aload_n 0, 1) := by decide +kernel
theorem dX7_nextToken_118 : decode cX7_nextToken 118 = .ok (.getfield 29, 3) := by decide +kernel
theorem dX7_nextToken_121 : decode cX7_nextToken 121 = .ok (.invokevirtual 237, 3) := by decide +kernel
theorem dX7_nextToken_124 : decode cX7_nextToken 124 = .ok (.aload_n 0, 1) := by decide +kernel
theorem dX7_nextToken_125 : decode cX7_nextToken 125 = .ok (.getfield 23, 3) := by decide +kernel
theorem dX7_nextToken_128 : decode cX7_nextToken 128 = .ok (.if_icmp .ne 19, 3) := by decide +kernel
theorem dX7_nextToken_131 : decode cX7_nextToken 131 = .ok (.aload_n 0, 1) := by decide +kernel
theorem dX7_nextToken_132 : decode cX7_nextToken 132 = .ok (.dup, 1) := by decide +kernel
theorem dX7_nextToken_133 : decode cX7_nextToken 133 = .ok (.getfield 29, 3) := by decide +kernel
theorem dX7_nextToken_136 : decode cX7_nextToken 136 = .ok (.iconst 1, 1) := by decide +kernel
theorem dX7_nextToken_137 : decode cX7_nextToken 137 = .ok (.iadd, 1) := by decide +kernel
theorem dX7_nextToken_138 : decode cX7_nextToken 138 = .ok (.putfield 29, 3) := by decide +kernel
theorem dX7_nextToken_141 : decode cX7_nextToken 141 = .ok (.iinc 2 1, 3) := by decide +kernel
theorem dX7_nextToken_144 : decode cX7_nextToken 144 = .ok (.goto (-39), 3) := by decide +kernel
theorem dX7_nextToken_147 : decode cX7_nextToken 147 = .ok (.return_, 1) := by decide +kernel
theorem dX7_byteAt_0 : decode cX7_byteAt 0 = .ok (.iload_n 1, 1) := by decide +kernel
theorem dX7_byteAt_1 : decode cX7_byteAt 1 = .ok (.ifCond .lt 20, 3) := by decide +kernel
theorem dX7_byteAt_4 : decode cX7_byteAt 4 = .ok (.iload_n 1, 1) := by decide +kernel
theorem dX7_byteAt_5 : decode cX7_byteAt 5 = .ok (.aload_n 0, 1) := by decide +kernel
theorem dX7_byteAt_6 : decode cX7_byteAt 6 = .ok (.getfield 19, 3) := by decide +kernel
theorem dX7_byteAt_9 : decode cX7_byteAt 9 = .ok (.if_icmp .ge 12, 3) := by decide +kernel
theorem dX7_byteAt_12 : decode cX7_byteAt 12 = .ok (.aload_n 0, 1) := by decide +kernel
theorem dX7_byteAt_13 : decode cX7_byteAt 13 = .ok (.getfield 15, 3) := by decide +kernel
theorem dX7_byteAt_16 : decode cX7_byteAt 16 = .ok (.iload_n 1, 1) := by decide +kernel
theorem dX7_byteAt_17 : decode cX7_byteAt 17 = .ok (.iaload, 1) := by decide +kernel
theorem dX7_byteAt_18 : decode cX7_byteAt 18 = .ok (.goto 4, 3) := by decide +kernel
theorem dX7_byteAt_21 : decode cX7_byteAt 21 = .ok (.iconst (-1), 1) := by decide +kernel
theorem dX7_byteAt_22 : decode cX7_byteAt 22 = .ok (.ireturn, 1) := by decide +kernel
theorem dX7_kindAt_0 : decode cX7_kindAt 0 = .ok (.iload_n 1, 1) := by decide +kernel
theorem dX7_kindAt_1 : decode cX7_kindAt 1 = .ok (.ifCond .lt 11, 3) := by decide +kernel
theorem dX7_kindAt_4 : decode cX7_kindAt 4 = .ok (.iload_n 1, 1) := by decide +kernel
theorem dX7_kindAt_5 : decode cX7_kindAt 5 = .ok (.aload_n 0, 1) := by decide +kernel
theorem dX7_kindAt_6 : decode cX7_kindAt 6 = .ok (.getfield 19, 3) := by decide +kernel
theorem dX7_kindAt_9 : decode cX7_kindAt 9 = .ok (.if_icmp .lt 5, 3) := by decide +kernel
theorem dX7_kindAt_12 : decode cX7_kindAt 12 = .ok (.iconst 0, 1) := by decide +kernel
theorem dX7_kindAt_13 : decode cX7_kindAt 13 = .ok (.ireturn, 1) := by decide +kernel
theorem dX7_kindAt_14 : decode cX7_kindAt 14 = .ok (.aload_n 0, 1) := by decide +kernel
theorem dX7_kindAt_15 : decode cX7_kindAt 15 = .ok (.getfield 15, 3) := by decide +kernel
theorem dX7_kindAt_18 : decode cX7_kindAt 18 = .ok (.iload_n 1, 1) := by decide +kernel
theorem dX7_kindAt_19 : decode cX7_kindAt 19 = .ok (.iaload, 1) := by decide +kernel
theorem dX7_kindAt_20 : decode cX7_kindAt 20 = .ok (.istore_n 2, 1) := by decide +kernel
theorem dX7_kindAt_21 : decode cX7_kindAt 21 = .ok (.iload_n 2, 1) := by decide +kernel
theorem dX7_kindAt_22 : decode cX7_kindAt 22 = .ok (.bipush 32, 2) := by decide +kernel
theorem dX7_kindAt_24 : decode cX7_kindAt 24 = .ok (.if_icmp .eq 9, 3) := by decide +kernel
theorem dX7_kindAt_27 : decode cX7_kindAt 27 = .ok (.iload_n 2, 1) := by decide +kernel
theorem dX7_kindAt_28 : decode cX7_kindAt 28 = .ok (.bipush 10, 2) := by decide +kernel
theorem dX7_kindAt_30 : decode cX7_kindAt 30 = .ok (.if_icmp .ne 5, 3) := by decide +kernel
theorem dX7_kindAt_33 : decode cX7_kindAt 33 = .ok (.iconst 4, 1) := by decide +kernel
theorem dX7_kindAt_34 : decode cX7_kindAt 34 = .ok (.ireturn, 1) := by decide +kernel
theorem dX7_kindAt_35 : decode cX7_kindAt 35 = .ok (.iload_n 2, 1) := by decide +kernel
theorem dX7_kindAt_36 : decode cX7_kindAt 36 = .ok (.bipush 97, 2) := by decide +kernel
theorem dX7_kindAt_38 : decode cX7_kindAt 38 = .ok (.if_icmp .lt 11, 3) := by decide +kernel
theorem dX7_kindAt_41 : decode cX7_kindAt 41 = .ok (.iload_n 2, 1) := by decide +kernel
theorem dX7_kindAt_42 : decode cX7_kindAt 42 = .ok (.bipush 122, 2) := by decide +kernel
theorem dX7_kindAt_44 : decode cX7_kindAt 44 = .ok (.if_icmp .gt 5, 3) := by decide +kernel
theorem dX7_kindAt_47 : decode cX7_kindAt 47 = .ok (.iconst 1, 1) := by decide +kernel
theorem dX7_kindAt_48 : decode cX7_kindAt 48 = .ok (.ireturn, 1) := by decide +kernel
theorem dX7_kindAt_49 : decode cX7_kindAt 49 = .ok (.iload_n 2, 1) := by decide +kernel
theorem dX7_kindAt_50 : decode cX7_kindAt 50 = .ok (.bipush 48, 2) := by decide +kernel
theorem dX7_kindAt_52 : decode cX7_kindAt 52 = .ok (.if_icmp .lt 11, 3) := by decide +kernel
theorem dX7_kindAt_55 : decode cX7_kindAt 55 = .ok (.iload_n 2, 1) := by decide +kernel
theorem dX7_kindAt_56 : decode cX7_kindAt 56 = .ok (.bipush 57, 2) := by decide +kernel
theorem dX7_kindAt_58 : decode cX7_kindAt 58 = .ok (.if_icmp .gt 5, 3) := by decide +kernel
theorem dX7_kindAt_61 : decode cX7_kindAt 61 = .ok (.iconst 2, 1) := by decide +kernel
theorem dX7_kindAt_62 : decode cX7_kindAt 62 = .ok (.ireturn, 1) := by decide +kernel
theorem dX7_kindAt_63 : decode cX7_kindAt 63 = .ok (.iload_n 2, 1) := by decide +kernel
theorem dX7_kindAt_64 : decode cX7_kindAt 64 = .ok (.bipush 59, 2) := by decide +kernel
theorem dX7_kindAt_66 : decode cX7_kindAt 66 = .ok (.if_icmp .eq 51, 3) := by decide +kernel
theorem dX7_kindAt_69 : decode cX7_kindAt 69 = .ok (.iload_n 2, 1) := by decide +kernel
theorem dX7_kindAt_70 : decode cX7_kindAt 70 = .ok (.bipush 40, 2) := by decide +kernel
theorem dX7_kindAt_72 : decode cX7_kindAt 72 = .ok (.if_icmp .eq 45, 3) := by decide +kernel
theorem dX7_kindAt_75 : decode cX7_kindAt 75 = .ok (.iload_n 2, 1) := by decide +kernel
theorem dX7_kindAt_76 : decode cX7_kindAt 76 = .ok (.bipush 41, 2) := by decide +kernel
theorem dX7_kindAt_78 : decode cX7_kindAt 78 = .ok (.if_icmp .eq 39, 3) := by decide +kernel
theorem dX7_kindAt_81 : decode cX7_kindAt 81 = .ok (.iload_n 2, 1) := by decide +kernel
theorem dX7_kindAt_82 : decode cX7_kindAt 82 = .ok (.bipush 43, 2) := by decide +kernel
theorem dX7_kindAt_84 : decode cX7_kindAt 84 = .ok (.if_icmp .eq 33, 3) := by decide +kernel
theorem dX7_kindAt_87 : decode cX7_kindAt 87 = .ok (.iload_n 2, 1) := by decide +kernel
theorem dX7_kindAt_88 : decode cX7_kindAt 88 = .ok (.bipush 45, 2) := by decide +kernel
theorem dX7_kindAt_90 : decode cX7_kindAt 90 = .ok (.if_icmp .eq 27, 3) := by decide +kernel
theorem dX7_kindAt_93 : decode cX7_kindAt 93 = .ok (.iload_n 2, 1) := by decide +kernel
theorem dX7_kindAt_94 : decode cX7_kindAt 94 = .ok (.bipush 42, 2) := by decide +kernel
theorem dX7_kindAt_96 : decode cX7_kindAt 96 = .ok (.if_icmp .eq 21, 3) := by decide +kernel
theorem dX7_kindAt_99 : decode cX7_kindAt 99 = .ok (.iload_n 2, 1) := by decide +kernel
theorem dX7_kindAt_100 : decode cX7_kindAt 100 = .ok (.bipush 47, 2) := by decide +kernel
theorem dX7_kindAt_102 : decode cX7_kindAt 102 = .ok (.if_icmp .eq 15, 3) := by decide +kernel
theorem dX7_kindAt_105 : decode cX7_kindAt 105 = .ok (.iload_n 2, 1) := by decide +kernel
theorem dX7_kindAt_106 : decode cX7_kindAt 106 = .ok (.bipush 60, 2) := by decide +kernel
theorem dX7_kindAt_108 : decode cX7_kindAt 108 = .ok (.if_icmp .eq 9, 3) := by decide +kernel
theorem dX7_kindAt_111 : decode cX7_kindAt 111 = .ok (.iload_n 2, 1) := by decide +kernel
theorem dX7_kindAt_112 : decode cX7_kindAt 112 = .ok (.bipush 61, 2) := by decide +kernel
theorem dX7_kindAt_114 : decode cX7_kindAt 114 = .ok (.if_icmp .ne 7, 3) := by decide +kernel
theorem dX7_kindAt_117 : decode cX7_kindAt 117 = .ok (.iconst 1, 1) := by decide +kernel
theorem dX7_kindAt_118 : decode cX7_kindAt 118 = .ok (.goto 4, 3) := by decide +kernel
theorem dX7_kindAt_121 : decode cX7_kindAt 121 = .ok (.iconst 0, 1) := by decide +kernel
theorem dX7_kindAt_122 : decode cX7_kindAt 122 = .ok (.istore_n 3, 1) := by decide +kernel
theorem dX7_kindAt_123 : decode cX7_kindAt 123 = .ok (.iload_n 3, 1) := by decide +kernel
theorem dX7_kindAt_124 : decode cX7_kindAt 124 = .ok (.ifCond .eq 7, 3) := by decide +kernel
theorem dX7_kindAt_127 : decode cX7_kindAt 127 = .ok (.iconst 3, 1) := by decide +kernel
theorem dX7_kindAt_128 : decode cX7_kindAt 128 = .ok (.goto 4, 3) := by decide +kernel
theorem dX7_kindAt_131 : decode cX7_kindAt 131 = .ok (.iconst 5, 1) := by decide +kernel
theorem dX7_kindAt_132 : decode cX7_kindAt 132 = .ok (.ireturn, 1) := by decide +kernel
theorem dX8_init_0 : decode cX8_init 0 = .ok (.aload_n 0, 1) := by decide +kernel
theorem dX8_init_1 : decode cX8_init 1 = .ok (.invokespecial 3, 3) := by decide +kernel
theorem dX8_init_4 : decode cX8_init 4 = .ok (.aload_n 0, 1) := by decide +kernel
theorem dX8_init_5 : decode cX8_init 5 = .ok (.iconst 0, 1) := by decide +kernel
theorem dX8_init_6 : decode cX8_init 6 = .ok (.putfield 9, 3) := by decide +kernel
theorem dX8_init_9 : decode cX8_init 9 = .ok (.aload_n 0, 1) := by decide +kernel
theorem dX8_init_10 : decode cX8_init 10 = .ok (.sipush 700, 3) := by decide +kernel
theorem dX8_init_13 : decode cX8_init 13 = .ok (.newarray .int, 2) := by decide +kernel
theorem dX8_init_15 : decode cX8_init 15 = .ok (.putfield 15, 3) := by decide +kernel
theorem dX8_init_18 : decode cX8_init 18 = .ok (.aload_n 0, 1) := by decide +kernel
theorem dX8_init_19 : decode cX8_init 19 = .ok (.bipush 40, 2) := by decide +kernel
theorem dX8_init_21 : decode cX8_init 21 = .ok (.newarray .int, 2) := by decide +kernel
theorem dX8_init_23 : decode cX8_init 23 = .ok (.putfield 19, 3) := by decide +kernel
theorem dX8_init_26 : decode cX8_init 26 = .ok (.return_, 1) := by decide +kernel
theorem dX8_codeOfValue_0 : decode cX8_codeOfValue 0 = .ok (.iconst (-1), 1) := by decide +kernel
theorem dX8_codeOfValue_1 : decode cX8_codeOfValue 1 = .ok (.iload_n 0, 1) := by decide +kernel
theorem dX8_codeOfValue_2 : decode cX8_codeOfValue 2 = .ok (.isub, 1) := by decide +kernel
theorem dX8_codeOfValue_3 : decode cX8_codeOfValue 3 = .ok (.ireturn, 1) := by decide +kernel
theorem dX8_add_0 : decode cX8_add 0 = .ok (.aload_n 0, 1) := by decide +kernel
theorem dX8_add_1 : decode cX8_add 1 = .ok (.getfield 9, 3) := by decide +kernel
theorem dX8_add_4 : decode cX8_add 4 = .ok (.sipush 700, 3) := by decide +kernel
theorem dX8_add_7 : decode cX8_add 7 = .ok (.if_icmp .ge 23, 3) := by decide +kernel
theorem dX8_add_10 : decode cX8_add 10 = .ok (.aload_n 0, 1) := by decide +kernel
theorem dX8_add_11 : decode cX8_add 11 = .ok (.getfield 15, 3) := by decide +kernel
theorem dX8_add_14 : decode cX8_add 14 = .ok (.aload_n 0, 1) := by decide +kernel
theorem dX8_add_15 : decode cX8_add 15 = .ok (.getfield 9, 3) := by decide +kernel
theorem dX8_add_18 : decode cX8_add 18 = .ok (.iload_n 1, 1) := by decide +kernel
theorem dX8_add_19 : decode cX8_add 19 = .ok (.iastore, 1) := by decide +kernel
theorem dX8_add_20 : decode cX8_add 20 = .ok (.aload_n 0, 1) := by decide +kernel
theorem dX8_add_21 : decode cX8_add 21 = .ok (.dup, 1) := by decide +kernel
theorem dX8_add_22 : decode cX8_add 22 = .ok (.getfield 9, 3) := by decide +kernel
theorem dX8_add_25 : decode cX8_add 25 = .ok (.iconst 1, 1) := by decide +kernel
theorem dX8_add_26 : decode cX8_add 26 = .ok (.iadd, 1) := by decide +kernel
theorem dX8_add_27 : decode cX8_add 27 = .ok (.putfield 9, 3) := by decide +kernel
theorem dX8_add_30 : decode cX8_add 30 = .ok (.return_, 1) := by decide +kernel
theorem dX8_become_0 : decode cX8_become 0 = .ok (.aload_n 0, 1) := by decide +kernel
theorem dX8_become_1 : decode cX8_become 1 = .ok (.aload_n 1, 1) := by decide +kernel
theorem dX8_become_2 : decode cX8_become 2 = .ok (.getfield 9, 3) := by decide +kernel
theorem dX8_become_5 : decode cX8_become 5 = .ok (.putfield 9, 3) := by decide +kernel
theorem dX8_become_8 : decode cX8_become 8 = .ok (.aload_n 1, 1) := by decide +kernel
theorem dX8_become_9 : decode cX8_become 9 = .ok (.getfield 15, 3) := by decide +kernel
theorem dX8_become_12 : decode cX8_become 12 = .ok (.iconst 0, 1) := by decide +kernel
theorem dX8_become_13 : decode cX8_become 13 = .ok (.aload_n 0, 1) := by decide +kernel
theorem dX8_become_14 : decode cX8_become 14 = .ok (.getfield 15, 3) := by decide +kernel
theorem dX8_become_17 : decode cX8_become 17 = .ok (.iconst 0, 1) := by decide +kernel
theorem dX8_become_18 : decode cX8_become 18 = .ok (.sipush 700, 3) := by decide +kernel
theorem dX8_become_21 : decode cX8_become 21 = .ok (.invokestatic 22, 3) := by decide +kernel
theorem dX8_become_24 : decode cX8_become 24 = .ok (.return_, 1) := by decide +kernel
theorem dX8_worth_0 : decode cX8_worth 0 = .ok (.iconst 0, 1) := by decide +kernel
theorem dX8_worth_1 : decode cX8_worth 1 = .ok (.istore_n 2, 1) := by decide +kernel
theorem dX8_worth_2 : decode cX8_worth 2 = .ok (.iconst 0, 1) := by decide +kernel
theorem dX8_worth_3 : decode cX8_worth 3 = .ok (.istore_n 3, 1) := by decide +kernel
theorem dX8_worth_4 : decode cX8_worth 4 = .ok (.iload_n 3, 1) := by decide +kernel
theorem dX8_worth_5 : decode cX8_worth 5 = .ok (.aload_n 0, 1) := by decide +kernel
theorem dX8_worth_6 : decode cX8_worth 6 = .ok (.getfield 9, 3) := by decide +kernel
theorem dX8_worth_9 : decode cX8_worth 9 = .ok (.if_icmp .ge 140, 3) := by decide +kernel
theorem dX8_worth_12 : decode cX8_worth 12 = .ok (.aload_n 0, 1) := by decide +kernel
theorem dX8_worth_13 : decode cX8_worth 13 = .ok (.getfield 15, 3) := by decide +kernel
theorem dX8_worth_16 : decode cX8_worth 16 = .ok (.iload_n 3, 1) := by decide +kernel
theorem dX8_worth_17 : decode cX8_worth 17 = .ok (.iaload, 1) := by decide +kernel
theorem dX8_worth_18 : decode cX8_worth 18 = .ok (.istore 4, 2) := by decide +kernel
theorem dX8_worth_20 : decode cX8_worth 20 = .ok (.iload 4, 2) := by decide +kernel
theorem dX8_worth_22 : decode cX8_worth 22 = .ok (.bipush (-11), 2) := by decide +kernel
theorem dX8_worth_24 : decode cX8_worth 24 = .ok (.if_icmp .le 41, 3) := by decide +kernel
theorem dX8_worth_27 : decode cX8_worth 27 = .ok (.iload_n 2, 1) := by decide +kernel
theorem dX8_worth_28 : decode cX8_worth 28 = .ok (.bipush 40, 2) := by decide +kernel
theorem dX8_worth_30 : decode cX8_worth 30 = .ok (.if_icmp .lt 5, 3) := by decide +kernel
theorem dX8_worth_33 : decode cX8_worth 33 = .ok (.iconst 0, 1) := by decide +kernel
theorem dX8_worth_34 : decode cX8_worth 34 = .ok (.ireturn, 1) := by decide +kernel
theorem dX8_worth_35 : decode cX8_worth 35 = .ok (.aload_n 0, 1) := by decide +kernel
theorem dX8_worth_36 : decode cX8_worth 36 = .ok (.getfield 19, 3) := by decide +kernel
theorem dX8_worth_39 : decode cX8_worth 39 = .ok (.iload_n 2, 1) := by decide +kernel
theorem dX8_worth_40 : decode cX8_worth 40 = .ok (.iload 4, 2) := by decide +kernel
theorem dX8_worth_42 : decode cX8_worth 42 = .ok (.ifCond .lt 8, 3) := by decide +kernel
theorem dX8_worth_45 : decode cX8_worth 45 = .ok (.iload 4, 2) := by decide +kernel
theorem dX8_worth_47 : decode cX8_worth 47 = .ok (.goto 11, 3) := by decide +kernel
theorem dX8_worth_50 : decode cX8_worth 50 = .ok (.aload_n 1, 1) := by decide +kernel
theorem dX8_worth_51 : decode cX8_worth 51 = .ok (.iconst (-1), 1) := by decide +kernel
theorem dX8_worth_52 : decode cX8_worth 52 = .ok (.iload 4, 2) := by decide +kernel
theorem dX8_worth_54 : decode cX8_worth 54 = .ok (.isub, 1) := by decide +kernel
theorem dX8_worth_55 : decode cX8_worth 55 = .ok (.invokestatic 28, 3) := by decide +kernel
theorem dX8_worth_58 : decode cX8_worth 58 = .ok (.iastore, 1) := by decide +kernel
theorem dX8_worth_59 : decode cX8_worth 59 = .ok (.iinc 2 1, 3) := by decide +kernel
theorem dX8_worth_62 : decode cX8_worth 62 = .ok (.goto 81, 3) := by decide +kernel
theorem dX8_worth_65 : decode cX8_worth 65 = .ok (.iload 4, 2) := by decide +kernel
theorem dX8_worth_67 : decode cX8_worth 67 = .ok (.bipush (-11), 2) := by decide +kernel
theorem dX8_worth_69 : decode cX8_worth 69 = .ok (.if_icmp .ne 37, 3) := by decide +kernel
theorem dX8_worth_72 : decode cX8_worth 72 = .ok (.iload_n 2, 1) := by decide +kernel
theorem dX8_worth_73 : decode cX8_worth 73 = .ok (.iconst 1, 1) := by decide +kernel
theorem dX8_worth_74 : decode cX8_worth 74 = .ok (.if_icmp .ge 5, 3) := by decide +kernel
theorem dX8_worth_77 : decode cX8_worth 77 = .ok (.iconst 0, 1) := by decide +kernel
theorem dX8_worth_78 : decode cX8_worth 78 = .ok (.ireturn, 1) := by decide +kernel
theorem dX8_worth_79 : decode cX8_worth 79 = .ok (.aload_n 0, 1) := by decide +kernel
theorem dX8_worth_80 : decode cX8_worth 80 = .ok (.getfield 19, 3) := by decide +kernel
theorem dX8_worth_83 : decode cX8_worth 83 = .ok (.iload_n 2, 1) := by decide +kernel
theorem dX8_worth_84 : decode cX8_worth 84 = .ok (.iconst 1, 1) := by decide +kernel
theorem dX8_worth_85 : decode cX8_worth 85 = .ok (.isub, 1) := by decide +kernel
theorem dX8_worth_86 : decode cX8_worth 86 = .ok (.aload_n 0, 1) := by decide +kernel
theorem dX8_worth_87 : decode cX8_worth 87 = .ok (.getfield 19, 3) := by decide +kernel
theorem dX8_worth_90 : decode cX8_worth 90 = .ok (.iload_n 2, 1) := by decide +kernel
theorem dX8_worth_91 : decode cX8_worth 91 = .ok (.iconst 1, 1) := by decide +kernel
theorem dX8_worth_92 : decode cX8_worth 92 = .ok (.isub, 1) := by decide +kernel
theorem dX8_worth_93 : decode cX8_worth 93 = .ok (.iaload, 1) := by decide +kernel
theorem dX8_worth_94 : decode cX8_worth 94 = .ok (.ifCond .ne 7, 3) := by decide +kernel
theorem dX8_worth_97 : decode cX8_worth 97 = .ok (.iconst 1, 1) := by decide +kernel
theorem dX8_worth_98 : decode cX8_worth 98 = .ok (.goto 4, 3) := by decide +kernel
theorem dX8_worth_101 : decode cX8_worth 101 = .ok (.iconst 0, 1) := by decide +kernel
theorem dX8_worth_102 : decode cX8_worth 102 = .ok (.iastore, 1) := by decide +kernel
theorem dX8_worth_103 : decode cX8_worth 103 = .ok (.goto 40, 3) := by decide +kernel
theorem dX8_worth_106 : decode cX8_worth 106 = .ok (.iload_n 2, 1) := by decide +kernel
theorem dX8_worth_107 : decode cX8_worth 107 = .ok (.iconst 2, 1) := by decide +kernel
theorem dX8_worth_108 : decode cX8_worth 108 = .ok (.if_icmp .ge 5, 3) := by decide +kernel
theorem dX8_worth_111 : decode cX8_worth 111 = .ok (.iconst 0, 1) := by decide +kernel
theorem dX8_worth_112 : decode cX8_worth 112 = .ok (.ireturn, 1) := by decide +kernel
theorem dX8_worth_113 : decode cX8_worth 113 = .ok (.iinc 2 (-1), 3) := by decide +kernel
theorem dX8_worth_116 : decode cX8_worth 116 = .ok (.aload_n 0, 1) := by decide +kernel
theorem dX8_worth_117 : decode cX8_worth 117 = .ok (.getfield 19, 3) := by decide +kernel
theorem dX8_worth_120 : decode cX8_worth 120 = .ok (.iload_n 2, 1) := by decide +kernel
theorem dX8_worth_121 : decode cX8_worth 121 = .ok (.iconst 1, 1) := by decide +kernel
theorem dX8_worth_122 : decode cX8_worth 122 = .ok (.isub, 1) := by decide +kernel
theorem dX8_worth_123 : decode cX8_worth 123 = .ok (.iload 4, 2) := by decide +kernel
theorem dX8_worth_125 : decode cX8_worth 125 = .ok (.aload_n 0, 1) := by decide +kernel
theorem dX8_worth_126 : decode cX8_worth 126 = .ok (.getfield 19, 3) := by decide +kernel
theorem dX8_worth_129 : decode cX8_worth 129 = .ok (.iload_n 2, 1) := by decide +kernel
theorem dX8_worth_130 : decode cX8_worth 130 = .ok (.iconst 1, 1) := by decide +kernel
theorem dX8_worth_131 : decode cX8_worth 131 = .ok (.isub, 1) := by decide +kernel
theorem dX8_worth_132 : decode cX8_worth 132 = .ok (.iaload, 1) := by decide +kernel
theorem dX8_worth_133 : decode cX8_worth 133 = .ok (.aload_n 0, 1) := by decide +kernel
theorem dX8_worth_134 : decode cX8_worth 134 = .ok (.getfield 19, 3) := by decide +kernel
theorem dX8_worth_137 : decode cX8_worth 137 = .ok (.iload_n 2, 1) := by decide +kernel
theorem dX8_worth_138 : decode cX8_worth 138 = .ok (.iaload, 1) := by decide +kernel
theorem dX8_worth_139 : decode cX8_worth 139 = .ok (.invokestatic 32, 3) := by decide +kernel
theorem dX8_worth_142 : decode cX8_worth 142 = .ok (.iastore, 1) := by decide +kernel
theorem dX8_worth_143 : decode cX8_worth 143 = .ok (.iinc 3 1, 3) := by decide +kernel
theorem dX8_worth_146 : decode cX8_worth 146 = .ok (.goto (-142), 3) := by decide +kernel
theorem dX8_worth_149 : decode cX8_worth 149 = .ok (.iload_n 2, 1) := by decide +kernel
theorem dX8_worth_150 : decode cX8_worth 150 = .ok (.iconst 1, 1) := by decide +kernel
theorem dX8_worth_151 : decode cX8_worth 151 = .ok (.if_icmp .ne 12, 3) := by decide +kernel
theorem dX8_worth_154 : decode cX8_worth 154 = .ok (.aload_n 0, 1) := by decide +kernel
theorem dX8_worth_155 : decode cX8_worth 155 = .ok (.getfield 19, 3) := by decide +kernel
theorem dX8_worth_158 : decode cX8_worth 158 = .ok (.iconst 0, 1) := by decide +kernel
theorem dX8_worth_159 : decode cX8_worth 159 = .ok (.iaload, 1) := by decide +kernel
theorem dX8_worth_160 : decode cX8_worth 160 = .ok (.goto 4, 3) := by decide +kernel
theorem dX8_worth_163 : decode cX8_worth 163 = .ok (.iconst 0, 1) := by decide +kernel
theorem dX8_worth_164 : decode cX8_worth 164 = .ok (.ireturn, 1) := by decide +kernel
theorem dX8_valueOf_0 : decode cX8_valueOf 0 = .ok (.iload_n 1, 1) := by decide +kernel
theorem dX8_valueOf_1 : decode cX8_valueOf 1 = .ok (.aload_n 0, 1) := by decide +kernel
theorem dX8_valueOf_2 : decode cX8_valueOf 2 = .ok (.arraylength, 1) := by decide +kernel
theorem dX8_valueOf_3 : decode cX8_valueOf 3 = .ok (.if_icmp .ge 9, 3) := by decide +kernel
theorem dX8_valueOf_6 : decode cX8_valueOf 6 = .ok (.aload_n 0, 1) := by decide +kernel
theorem dX8_valueOf_7 : decode cX8_valueOf 7 = .ok (.iload_n 1, 1) := by decide +kernel
theorem dX8_valueOf_8 : decode cX8_valueOf 8 = .ok (.iaload, 1) := by decide +kernel
theorem dX8_valueOf_9 : decode cX8_valueOf 9 = .ok (.goto 4, 3) := by decide +kernel
theorem dX8_valueOf_12 : decode cX8_valueOf 12 = .ok (.iconst 0, 1) := by decide +kernel
theorem dX8_valueOf_13 : decode cX8_valueOf 13 = .ok (.ireturn, 1) := by decide +kernel
theorem dX8_joined_0 : decode cX8_joined 0 = .ok (.iload_n 0, 1) := by decide +kernel
theorem dX8_joined_1 : decode cX8_joined 1 = .ok (.tableswitch 105 (-18) (-12) #[101, 97, 93, 82, 71, 57, 43], 43) := by decide +kernel
theorem dX8_joined_44 : decode cX8_joined 44 = .ok (.iload_n 1, 1) := by decide +kernel
theorem dX8_joined_45 : decode cX8_joined 45 = .ok (.ifCond .ne 7, 3) := by decide +kernel
theorem dX8_joined_48 : decode cX8_joined 48 = .ok (.iload_n 2, 1) := by decide +kernel
theorem dX8_joined_49 : decode cX8_joined 49 = .ok (.ifCond .eq 7, 3) := by decide +kernel
theorem dX8_joined_52 : decode cX8_joined 52 = .ok (.iconst 1, 1) := by decide +kernel
theorem dX8_joined_53 : decode cX8_joined 53 = .ok (.goto 4, 3) := by decide +kernel
theorem dX8_joined_56 : decode cX8_joined 56 = .ok (.iconst 0, 1) := by decide +kernel
theorem dX8_joined_57 : decode cX8_joined 57 = .ok (.ireturn, 1) := by decide +kernel
theorem dX8_joined_58 : decode cX8_joined 58 = .ok (.iload_n 1, 1) := by decide +kernel
theorem dX8_joined_59 : decode cX8_joined 59 = .ok (.ifCond .eq 11, 3) := by decide +kernel
theorem dX8_joined_62 : decode cX8_joined 62 = .ok (.iload_n 2, 1) := by decide +kernel
theorem dX8_joined_63 : decode cX8_joined 63 = .ok (.ifCond .eq 7, 3) := by decide +kernel
theorem dX8_joined_66 : decode cX8_joined 66 = .ok (.iconst 1, 1) := by decide +kernel
theorem dX8_joined_67 : decode cX8_joined 67 = .ok (.goto 4, 3) := by decide +kernel
theorem dX8_joined_70 : decode cX8_joined 70 = .ok (.iconst 0, 1) := by decide +kernel
theorem dX8_joined_71 : decode cX8_joined 71 = .ok (.ireturn, 1) := by decide +kernel
theorem dX8_joined_72 : decode cX8_joined 72 = .ok (.iload_n 1, 1) := by decide +kernel
theorem dX8_joined_73 : decode cX8_joined 73 = .ok (.iload_n 2, 1) := by decide +kernel
theorem dX8_joined_74 : decode cX8_joined 74 = .ok (.if_icmp .ge 7, 3) := by decide +kernel
theorem dX8_joined_77 : decode cX8_joined 77 = .ok (.iconst 1, 1) := by decide +kernel
theorem dX8_joined_78 : decode cX8_joined 78 = .ok (.goto 4, 3) := by decide +kernel
theorem dX8_joined_81 : decode cX8_joined 81 = .ok (.iconst 0, 1) := by decide +kernel
theorem dX8_joined_82 : decode cX8_joined 82 = .ok (.ireturn, 1) := by decide +kernel
theorem dX8_joined_83 : decode cX8_joined 83 = .ok (.iload_n 1, 1) := by decide +kernel
theorem dX8_joined_84 : decode cX8_joined 84 = .ok (.iload_n 2, 1) := by decide +kernel
theorem dX8_joined_85 : decode cX8_joined 85 = .ok (.if_icmp .ne 7, 3) := by decide +kernel
theorem dX8_joined_88 : decode cX8_joined 88 = .ok (.iconst 1, 1) := by decide +kernel
theorem dX8_joined_89 : decode cX8_joined 89 = .ok (.goto 4, 3) := by decide +kernel
theorem dX8_joined_92 : decode cX8_joined 92 = .ok (.iconst 0, 1) := by decide +kernel
theorem dX8_joined_93 : decode cX8_joined 93 = .ok (.ireturn, 1) := by decide +kernel
theorem dX8_joined_94 : decode cX8_joined 94 = .ok (.iload_n 1, 1) := by decide +kernel
theorem dX8_joined_95 : decode cX8_joined 95 = .ok (.iload_n 2, 1) := by decide +kernel
theorem dX8_joined_96 : decode cX8_joined 96 = .ok (.iadd, 1) := by decide +kernel
theorem dX8_joined_97 : decode cX8_joined 97 = .ok (.ireturn, 1) := by decide +kernel
theorem dX8_joined_98 : decode cX8_joined 98 = .ok (.iload_n 1, 1) := by decide +kernel
theorem dX8_joined_99 : decode cX8_joined 99 = .ok (.iload_n 2, 1) := by decide +kernel
theorem dX8_joined_100 : decode cX8_joined 100 = .ok (.isub, 1) := by decide +kernel
theorem dX8_joined_101 : decode cX8_joined 101 = .ok (.ireturn, 1) := by decide +kernel
theorem dX8_joined_102 : decode cX8_joined 102 = .ok (.iload_n 1, 1) := by decide +kernel
theorem dX8_joined_103 : decode cX8_joined 103 = .ok (.iload_n 2, 1) := by decide +kernel
theorem dX8_joined_104 : decode cX8_joined 104 = .ok (.imul, 1) := by decide +kernel
theorem dX8_joined_105 : decode cX8_joined 105 = .ok (.ireturn, 1) := by decide +kernel
theorem dX8_joined_106 : decode cX8_joined 106 = .ok (.iload_n 2, 1) := by decide +kernel
theorem dX8_joined_107 : decode cX8_joined 107 = .ok (.ifCond .ne 7, 3) := by decide +kernel
theorem dX8_joined_110 : decode cX8_joined 110 = .ok (.iconst 0, 1) := by decide +kernel
theorem dX8_joined_111 : decode cX8_joined 111 = .ok (.goto 6, 3) := by decide +kernel
theorem dX8_joined_114 : decode cX8_joined 114 = .ok (.iload_n 1, 1) := by decide +kernel
theorem dX8_joined_115 : decode cX8_joined 115 = .ok (.iload_n 2, 1) := by decide +kernel
theorem dX8_joined_116 : decode cX8_joined 116 = .ok (.idiv, 1) := by decide +kernel
theorem dX8_joined_117 : decode cX8_joined 117 = .ok (.ireturn, 1) := by decide +kernel
theorem dX9_init_0 : decode cX9_init 0 = .ok (.aload_n 0, 1) := by decide +kernel
theorem dX9_init_1 : decode cX9_init 1 = .ok (.invokespecial 3, 3) := by decide +kernel
theorem dX9_init_4 : decode cX9_init 4 = .ok (.aload_n 0, 1) := by decide +kernel
theorem dX9_init_5 : decode cX9_init 5 = .ok (.iconst 0, 1) := by decide +kernel
theorem dX9_init_6 : decode cX9_init 6 = .ok (.putfield 9, 3) := by decide +kernel
theorem dX9_init_9 : decode cX9_init 9 = .ok (.aload_n 0, 1) := by decide +kernel
theorem dX9_init_10 : decode cX9_init 10 = .ok (.iconst 0, 1) := by decide +kernel
theorem dX9_init_11 : decode cX9_init 11 = .ok (.putfield 15, 3) := by decide +kernel
theorem dX9_init_14 : decode cX9_init 14 = .ok (.aload_n 0, 1) := by decide +kernel
theorem dX9_init_15 : decode cX9_init 15 = .ok (.iconst 0, 1) := by decide +kernel
theorem dX9_init_16 : decode cX9_init 16 = .ok (.putfield 18, 3) := by decide +kernel
theorem dX9_init_19 : decode cX9_init 19 = .ok (.aload_n 0, 1) := by decide +kernel
theorem dX9_init_20 : decode cX9_init 20 = .ok (.bipush 8, 2) := by decide +kernel
theorem dX9_init_22 : decode cX9_init 22 = .ok (.newarray .int, 2) := by decide +kernel
theorem dX9_init_24 : decode cX9_init 24 = .ok (.putfield 21, 3) := by decide +kernel
theorem dX9_init_27 : decode cX9_init 27 = .ok (.aload_n 0, 1) := by decide +kernel
theorem dX9_init_28 : decode cX9_init 28 = .ok (.bipush 8, 2) := by decide +kernel
theorem dX9_init_30 : decode cX9_init 30 = .ok (.newarray .int, 2) := by decide +kernel
theorem dX9_init_32 : decode cX9_init 32 = .ok (.putfield 25, 3) := by decide +kernel
theorem dX9_init_35 : decode cX9_init 35 = .ok (.aload_n 0, 1) := by decide +kernel
theorem dX9_init_36 : decode cX9_init 36 = .ok (.bipush 80, 2) := by decide +kernel
theorem dX9_init_38 : decode cX9_init 38 = .ok (.newarray .int, 2) := by decide +kernel
theorem dX9_init_40 : decode cX9_init 40 = .ok (.putfield 28, 3) := by decide +kernel
theorem dX9_init_43 : decode cX9_init 43 = .ok (.aload_n 0, 1) := by decide +kernel
theorem dX9_init_44 : decode cX9_init 44 = .ok (.bipush 48, 2) := by decide +kernel
theorem dX9_init_46 : decode cX9_init 46 = .ok (.newarray .int, 2) := by decide +kernel
theorem dX9_init_48 : decode cX9_init 48 = .ok (.putfield 31, 3) := by decide +kernel
theorem dX9_init_51 : decode cX9_init 51 = .ok (.aload_n 0, 1) := by decide +kernel
theorem dX9_init_52 : decode cX9_init 52 = .ok (.sipush 160, 3) := by decide +kernel
theorem dX9_init_55 : decode cX9_init 55 = .ok (.newarray .int, 2) := by decide +kernel
theorem dX9_init_57 : decode cX9_init 57 = .ok (.putfield 34, 3) := by decide +kernel
theorem dX9_init_60 : decode cX9_init 60 = .ok (.aload_n 0, 1) := by decide +kernel
theorem dX9_init_61 : decode cX9_init 61 = .ok (.bipush 8, 2) := by decide +kernel
theorem dX9_init_63 : decode cX9_init 63 = .ok (.newarray .int, 2) := by decide +kernel
theorem dX9_init_65 : decode cX9_init 65 = .ok (.putfield 37, 3) := by decide +kernel
theorem dX9_init_68 : decode cX9_init 68 = .ok (.aload_n 0, 1) := by decide +kernel
theorem dX9_init_69 : decode cX9_init 69 = .ok (.bipush 8, 2) := by decide +kernel
theorem dX9_init_71 : decode cX9_init 71 = .ok (.newarray .int, 2) := by decide +kernel
theorem dX9_init_73 : decode cX9_init 73 = .ok (.putfield 40, 3) := by decide +kernel
theorem dX9_init_76 : decode cX9_init 76 = .ok (.aload_n 0, 1) := by decide +kernel
theorem dX9_init_77 : decode cX9_init 77 = .ok (.bipush 8, 2) := by decide +kernel
theorem dX9_init_79 : decode cX9_init 79 = .ok (.newarray .int, 2) := by decide +kernel
theorem dX9_init_81 : decode cX9_init 81 = .ok (.putfield 43, 3) := by decide +kernel
theorem dX9_init_84 : decode cX9_init 84 = .ok (.aload_n 0, 1) := by decide +kernel
theorem dX9_init_85 : decode cX9_init 85 = .ok (.bipush 8, 2) := by decide +kernel
theorem dX9_init_87 : decode cX9_init 87 = .ok (.newarray .int, 2) := by decide +kernel
theorem dX9_init_89 : decode cX9_init 89 = .ok (.putfield 46, 3) := by decide +kernel
theorem dX9_init_92 : decode cX9_init 92 = .ok (.aload_n 0, 1) := by decide +kernel
theorem dX9_init_93 : decode cX9_init 93 = .ok (.bipush 8, 2) := by decide +kernel
theorem dX9_init_95 : decode cX9_init 95 = .ok (.newarray .int, 2) := by decide +kernel
theorem dX9_init_97 : decode cX9_init 97 = .ok (.putfield 49, 3) := by decide +kernel
theorem dX9_init_100 : decode cX9_init 100 = .ok (.aload_n 0, 1) := by decide +kernel
theorem dX9_init_101 : decode cX9_init 101 = .ok (.iconst 3, 1) := by decide +kernel
theorem dX9_init_102 : decode cX9_init 102 = .ok (.newarray .int, 2) := by decide +kernel
theorem dX9_init_104 : decode cX9_init 104 = .ok (.putfield 52, 3) := by decide +kernel
theorem dX9_init_107 : decode cX9_init 107 = .ok (.return_, 1) := by decide +kernel
theorem dX9_begin_0 : decode cX9_begin 0 = .ok (.aload_n 0, 1) := by decide +kernel
theorem dX9_begin_1 : decode cX9_begin 1 = .ok (.iconst 0, 1) := by decide +kernel
theorem dX9_begin_2 : decode cX9_begin 2 = .ok (.putfield 9, 3) := by decide +kernel
theorem dX9_begin_5 : decode cX9_begin 5 = .ok (.aload_n 0, 1) := by decide +kernel
theorem dX9_begin_6 : decode cX9_begin 6 = .ok (.iconst 0, 1) := by decide +kernel
theorem dX9_begin_7 : decode cX9_begin 7 = .ok (.putfield 15, 3) := by decide +kernel
theorem dX9_begin_10 : decode cX9_begin 10 = .ok (.aload_n 0, 1) := by decide +kernel
theorem dX9_begin_11 : decode cX9_begin 11 = .ok (.iconst 0, 1) := by decide +kernel
theorem dX9_begin_12 : decode cX9_begin 12 = .ok (.putfield 18, 3) := by decide +kernel
theorem dX9_begin_15 : decode cX9_begin 15 = .ok (.aload_n 0, 1) := by decide +kernel
theorem dX9_begin_16 : decode cX9_begin 16 = .ok (.getfield 21, 3) := by decide +kernel
theorem dX9_begin_19 : decode cX9_begin 19 = .ok (.iconst 0, 1) := by decide +kernel
theorem dX9_begin_20 : decode cX9_begin 20 = .ok (.invokestatic 55, 3) := by decide +kernel
theorem dX9_begin_23 : decode cX9_begin 23 = .ok (.aload_n 0, 1) := by decide +kernel
theorem dX9_begin_24 : decode cX9_begin 24 = .ok (.getfield 25, 3) := by decide +kernel
theorem dX9_begin_27 : decode cX9_begin 27 = .ok (.iconst 0, 1) := by decide +kernel
theorem dX9_begin_28 : decode cX9_begin 28 = .ok (.invokestatic 55, 3) := by decide +kernel
theorem dX9_begin_31 : decode cX9_begin 31 = .ok (.aload_n 0, 1) := by decide +kernel
theorem dX9_begin_32 : decode cX9_begin 32 = .ok (.getfield 31, 3) := by decide +kernel
theorem dX9_begin_35 : decode cX9_begin 35 = .ok (.iconst 0, 1) := by decide +kernel
theorem dX9_begin_36 : decode cX9_begin 36 = .ok (.invokestatic 55, 3) := by decide +kernel
theorem dX9_begin_39 : decode cX9_begin 39 = .ok (.aload_n 1, 1) := by decide +kernel
theorem dX9_begin_40 : decode cX9_begin 40 = .ok (.getfield 61, 3) := by decide +kernel
theorem dX9_begin_43 : decode cX9_begin 43 = .ok (.iconst 0, 1) := by decide +kernel
theorem dX9_begin_44 : decode cX9_begin 44 = .ok (.aload_n 0, 1) := by decide +kernel
theorem dX9_begin_45 : decode cX9_begin 45 = .ok (.getfield 28, 3) := by decide +kernel
theorem dX9_begin_48 : decode cX9_begin 48 = .ok (.iconst 0, 1) := by decide +kernel
theorem dX9_begin_49 : decode cX9_begin 49 = .ok (.bipush 80, 2) := by decide +kernel
theorem dX9_begin_51 : decode cX9_begin 51 = .ok (.invokestatic 64, 3) := by decide +kernel
theorem dX9_begin_54 : decode cX9_begin 54 = .ok (.return_, 1) := by decide +kernel
theorem dX9_become_0 : decode cX9_become 0 = .ok (.aload_n 0, 1) := by decide +kernel
theorem dX9_become_1 : decode cX9_become 1 = .ok (.aload_n 1, 1) := by decide +kernel
theorem dX9_become_2 : decode cX9_become 2 = .ok (.getfield 9, 3) := by decide +kernel
theorem dX9_become_5 : decode cX9_become 5 = .ok (.putfield 9, 3) := by decide +kernel
theorem dX9_become_8 : decode cX9_become 8 = .ok (.aload_n 0, 1) := by decide +kernel
theorem dX9_become_9 : decode cX9_become 9 = .ok (.aload_n 1, 1) := by decide +kernel
theorem dX9_become_10 : decode cX9_become 10 = .ok (.getfield 15, 3) := by decide +kernel
theorem dX9_become_13 : decode cX9_become 13 = .ok (.putfield 15, 3) := by decide +kernel
theorem dX9_become_16 : decode cX9_become 16 = .ok (.aload_n 0, 1) := by decide +kernel
theorem dX9_become_17 : decode cX9_become 17 = .ok (.aload_n 1, 1) := by decide +kernel
theorem dX9_become_18 : decode cX9_become 18 = .ok (.getfield 18, 3) := by decide +kernel
theorem dX9_become_21 : decode cX9_become 21 = .ok (.putfield 18, 3) := by decide +kernel
theorem dX9_become_24 : decode cX9_become 24 = .ok (.aload_n 1, 1) := by decide +kernel
theorem dX9_become_25 : decode cX9_become 25 = .ok (.getfield 21, 3) := by decide +kernel
theorem dX9_become_28 : decode cX9_become 28 = .ok (.iconst 0, 1) := by decide +kernel
theorem dX9_become_29 : decode cX9_become 29 = .ok (.aload_n 0, 1) := by decide +kernel
theorem dX9_become_30 : decode cX9_become 30 = .ok (.getfield 21, 3) := by decide +kernel
theorem dX9_become_33 : decode cX9_become 33 = .ok (.iconst 0, 1) := by decide +kernel
theorem dX9_become_34 : decode cX9_become 34 = .ok (.bipush 8, 2) := by decide +kernel
theorem dX9_become_36 : decode cX9_become 36 = .ok (.invokestatic 64, 3) := by decide +kernel
theorem dX9_become_39 : decode cX9_become 39 = .ok (.aload_n 1, 1) := by decide +kernel
theorem dX9_become_40 : decode cX9_become 40 = .ok (.getfield 25, 3) := by decide +kernel
theorem dX9_become_43 : decode cX9_become 43 = .ok (.iconst 0, 1) := by decide +kernel
theorem dX9_become_44 : decode cX9_become 44 = .ok (.aload_n 0, 1) := by decide +kernel
theorem dX9_become_45 : decode cX9_become 45 = .ok (.getfield 25, 3) := by decide +kernel
theorem dX9_become_48 : decode cX9_become 48 = .ok (.iconst 0, 1) := by decide +kernel
theorem dX9_become_49 : decode cX9_become 49 = .ok (.bipush 8, 2) := by decide +kernel
theorem dX9_become_51 : decode cX9_become 51 = .ok (.invokestatic 64, 3) := by decide +kernel
theorem dX9_become_54 : decode cX9_become 54 = .ok (.aload_n 1, 1) := by decide +kernel
theorem dX9_become_55 : decode cX9_become 55 = .ok (.getfield 28, 3) := by decide +kernel
theorem dX9_become_58 : decode cX9_become 58 = .ok (.iconst 0, 1) := by decide +kernel
theorem dX9_become_59 : decode cX9_become 59 = .ok (.aload_n 0, 1) := by decide +kernel
theorem dX9_become_60 : decode cX9_become 60 = .ok (.getfield 28, 3) := by decide +kernel
theorem dX9_become_63 : decode cX9_become 63 = .ok (.iconst 0, 1) := by decide +kernel
theorem dX9_become_64 : decode cX9_become 64 = .ok (.bipush 80, 2) := by decide +kernel
theorem dX9_become_66 : decode cX9_become 66 = .ok (.invokestatic 64, 3) := by decide +kernel
theorem dX9_become_69 : decode cX9_become 69 = .ok (.aload_n 1, 1) := by decide +kernel
theorem dX9_become_70 : decode cX9_become 70 = .ok (.getfield 31, 3) := by decide +kernel
theorem dX9_become_73 : decode cX9_become 73 = .ok (.iconst 0, 1) := by decide +kernel
theorem dX9_become_74 : decode cX9_become 74 = .ok (.aload_n 0, 1) := by decide +kernel
theorem dX9_become_75 : decode cX9_become 75 = .ok (.getfield 31, 3) := by decide +kernel
theorem dX9_become_78 : decode cX9_become 78 = .ok (.iconst 0, 1) := by decide +kernel
theorem dX9_become_79 : decode cX9_become 79 = .ok (.bipush 48, 2) := by decide +kernel
theorem dX9_become_81 : decode cX9_become 81 = .ok (.invokestatic 64, 3) := by decide +kernel
theorem dX9_become_84 : decode cX9_become 84 = .ok (.aload_n 1, 1) := by decide +kernel
theorem dX9_become_85 : decode cX9_become 85 = .ok (.getfield 34, 3) := by decide +kernel
theorem dX9_become_88 : decode cX9_become 88 = .ok (.iconst 0, 1) := by decide +kernel
theorem dX9_become_89 : decode cX9_become 89 = .ok (.aload_n 0, 1) := by decide +kernel
theorem dX9_become_90 : decode cX9_become 90 = .ok (.getfield 34, 3) := by decide +kernel
theorem dX9_become_93 : decode cX9_become 93 = .ok (.iconst 0, 1) := by decide +kernel
theorem dX9_become_94 : decode cX9_become 94 = .ok (.sipush 160, 3) := by decide +kernel
theorem dX9_become_97 : decode cX9_become 97 = .ok (.invokestatic 64, 3) := by decide +kernel
theorem dX9_become_100 : decode cX9_become 100 = .ok (.aload_n 1, 1) := by decide +kernel
theorem dX9_become_101 : decode cX9_become 101 = .ok (.getfield 37, 3) := by decide +kernel
theorem dX9_become_104 : decode cX9_become 104 = .ok (.iconst 0, 1) := by decide +kernel
theorem dX9_become_105 : decode cX9_become 105 = .ok (.aload_n 0, 1) := by decide +kernel
theorem dX9_become_106 : decode cX9_become 106 = .ok (.getfield 37, 3) := by decide +kernel
theorem dX9_become_109 : decode cX9_become 109 = .ok (.iconst 0, 1) := by decide +kernel
theorem dX9_become_110 : decode cX9_become 110 = .ok (.bipush 8, 2) := by decide +kernel
theorem dX9_become_112 : decode cX9_become 112 = .ok (.invokestatic 64, 3) := by decide +kernel
theorem dX9_become_115 : decode cX9_become 115 = .ok (.aload_n 1, 1) := by decide +kernel
theorem dX9_become_116 : decode cX9_become 116 = .ok (.getfield 40, 3) := by decide +kernel
theorem dX9_become_119 : decode cX9_become 119 = .ok (.iconst 0, 1) := by decide +kernel
theorem dX9_become_120 : decode cX9_become 120 = .ok (.aload_n 0, 1) := by decide +kernel
theorem dX9_become_121 : decode cX9_become 121 = .ok (.getfield 40, 3) := by decide +kernel
theorem dX9_become_124 : decode cX9_become 124 = .ok (.iconst 0, 1) := by decide +kernel
theorem dX9_become_125 : decode cX9_become 125 = .ok (.bipush 8, 2) := by decide +kernel
theorem dX9_become_127 : decode cX9_become 127 = .ok (.invokestatic 64, 3) := by decide +kernel
theorem dX9_become_130 : decode cX9_become 130 = .ok (.aload_n 1, 1) := by decide +kernel
theorem dX9_become_131 : decode cX9_become 131 = .ok (.getfield 43, 3) := by decide +kernel
theorem dX9_become_134 : decode cX9_become 134 = .ok (.iconst 0, 1) := by decide +kernel
theorem dX9_become_135 : decode cX9_become 135 = .ok (.aload_n 0, 1) := by decide +kernel
theorem dX9_become_136 : decode cX9_become 136 = .ok (.getfield 43, 3) := by decide +kernel
theorem dX9_become_139 : decode cX9_become 139 = .ok (.iconst 0, 1) := by decide +kernel
theorem dX9_become_140 : decode cX9_become 140 = .ok (.bipush 8, 2) := by decide +kernel
theorem dX9_become_142 : decode cX9_become 142 = .ok (.invokestatic 64, 3) := by decide +kernel
theorem dX9_become_145 : decode cX9_become 145 = .ok (.aload_n 1, 1) := by decide +kernel
theorem dX9_become_146 : decode cX9_become 146 = .ok (.getfield 46, 3) := by decide +kernel
theorem dX9_become_149 : decode cX9_become 149 = .ok (.iconst 0, 1) := by decide +kernel
theorem dX9_become_150 : decode cX9_become 150 = .ok (.aload_n 0, 1) := by decide +kernel
theorem dX9_become_151 : decode cX9_become 151 = .ok (.getfield 46, 3) := by decide +kernel
theorem dX9_become_154 : decode cX9_become 154 = .ok (.iconst 0, 1) := by decide +kernel
theorem dX9_become_155 : decode cX9_become 155 = .ok (.bipush 8, 2) := by decide +kernel
theorem dX9_become_157 : decode cX9_become 157 = .ok (.invokestatic 64, 3) := by decide +kernel
theorem dX9_become_160 : decode cX9_become 160 = .ok (.aload_n 1, 1) := by decide +kernel
theorem dX9_become_161 : decode cX9_become 161 = .ok (.getfield 49, 3) := by decide +kernel
theorem dX9_become_164 : decode cX9_become 164 = .ok (.iconst 0, 1) := by decide +kernel
theorem dX9_become_165 : decode cX9_become 165 = .ok (.aload_n 0, 1) := by decide +kernel
theorem dX9_become_166 : decode cX9_become 166 = .ok (.getfield 49, 3) := by decide +kernel
theorem dX9_become_169 : decode cX9_become 169 = .ok (.iconst 0, 1) := by decide +kernel
theorem dX9_become_170 : decode cX9_become 170 = .ok (.bipush 8, 2) := by decide +kernel
theorem dX9_become_172 : decode cX9_become 172 = .ok (.invokestatic 64, 3) := by decide +kernel
theorem dX9_become_175 : decode cX9_become 175 = .ok (.aload_n 1, 1) := by decide +kernel
theorem dX9_become_176 : decode cX9_become 176 = .ok (.getfield 52, 3) := by decide +kernel
theorem dX9_become_179 : decode cX9_become 179 = .ok (.iconst 0, 1) := by decide +kernel
theorem dX9_become_180 : decode cX9_become 180 = .ok (.aload_n 0, 1) := by decide +kernel
theorem dX9_become_181 : decode cX9_become 181 = .ok (.getfield 52, 3) := by decide +kernel
theorem dX9_become_184 : decode cX9_become 184 = .ok (.iconst 0, 1) := by decide +kernel
theorem dX9_become_185 : decode cX9_become 185 = .ok (.iconst 3, 1) := by decide +kernel
theorem dX9_become_186 : decode cX9_become 186 = .ok (.invokestatic 64, 3) := by decide +kernel
theorem dX9_become_189 : decode cX9_become 189 = .ok (.return_, 1) := by decide +kernel
theorem dX9_since_0 : decode cX9_since 0 = .ok (.aload_n 0, 1) := by decide +kernel
theorem dX9_since_1 : decode cX9_since 1 = .ok (.getfield 9, 3) := by decide +kernel
theorem dX9_since_4 : decode cX9_since 4 = .ok (.aload_n 0, 1) := by decide +kernel
theorem dX9_since_5 : decode cX9_since 5 = .ok (.getfield 21, 3) := by decide +kernel
theorem dX9_since_8 : decode cX9_since 8 = .ok (.iload_n 1, 1) := by decide +kernel
theorem dX9_since_9 : decode cX9_since 9 = .ok (.iaload, 1) := by decide +kernel
theorem dX9_since_10 : decode cX9_since 10 = .ok (.isub, 1) := by decide +kernel
theorem dX9_since_11 : decode cX9_since 11 = .ok (.ireturn, 1) := by decide +kernel
theorem dX9_renew_0 : decode cX9_renew 0 = .ok (.aload_n 0, 1) := by decide +kernel
theorem dX9_renew_1 : decode cX9_renew 1 = .ok (.getfield 21, 3) := by decide +kernel
theorem dX9_renew_4 : decode cX9_renew 4 = .ok (.iload_n 1, 1) := by decide +kernel
theorem dX9_renew_5 : decode cX9_renew 5 = .ok (.aload_n 0, 1) := by decide +kernel
theorem dX9_renew_6 : decode cX9_renew 6 = .ok (.getfield 9, 3) := by decide +kernel
theorem dX9_renew_9 : decode cX9_renew 9 = .ok (.iastore, 1) := by decide +kernel
theorem dX9_renew_10 : decode cX9_renew 10 = .ok (.aload_n 0, 1) := by decide +kernel
theorem dX9_renew_11 : decode cX9_renew 11 = .ok (.getfield 25, 3) := by decide +kernel
theorem dX9_renew_14 : decode cX9_renew 14 = .ok (.iload_n 1, 1) := by decide +kernel
theorem dX9_renew_15 : decode cX9_renew 15 = .ok (.iconst 0, 1) := by decide +kernel
theorem dX9_renew_16 : decode cX9_renew 16 = .ok (.iastore, 1) := by decide +kernel
theorem dX9_renew_17 : decode cX9_renew 17 = .ok (.return_, 1) := by decide +kernel
theorem dX9_note_0 : decode cX9_note 0 = .ok (.aload_n 0, 1) := by decide +kernel
theorem dX9_note_1 : decode cX9_note 1 = .ok (.getfield 15, 3) := by decide +kernel
theorem dX9_note_4 : decode cX9_note 4 = .ok (.bipush 40, 2) := by decide +kernel
theorem dX9_note_6 : decode cX9_note 6 = .ok (.if_icmp .lt 25, 3) := by decide +kernel
theorem dX9_note_9 : decode cX9_note 9 = .ok (.aload_n 0, 1) := by decide +kernel
theorem dX9_note_10 : decode cX9_note 10 = .ok (.getfield 34, 3) := by decide +kernel
theorem dX9_note_13 : decode cX9_note 13 = .ok (.iconst 4, 1) := by decide +kernel
theorem dX9_note_14 : decode cX9_note 14 = .ok (.aload_n 0, 1) := by decide +kernel
theorem dX9_note_15 : decode cX9_note 15 = .ok (.getfield 34, 3) := by decide +kernel
theorem dX9_note_18 : decode cX9_note 18 = .ok (.iconst 0, 1) := by decide +kernel
theorem dX9_note_19 : decode cX9_note 19 = .ok (.sipush 156, 3) := by decide +kernel
theorem dX9_note_22 : decode cX9_note 22 = .ok (.invokestatic 64, 3) := by decide +kernel
theorem dX9_note_25 : decode cX9_note 25 = .ok (.aload_n 0, 1) := by decide +kernel
theorem dX9_note_26 : decode cX9_note 26 = .ok (.bipush 39, 2) := by decide +kernel
theorem dX9_note_28 : decode cX9_note 28 = .ok (.putfield 15, 3) := by decide +kernel
theorem dX9_note_31 : decode cX9_note 31 = .ok (.aload_n 0, 1) := by decide +kernel
theorem dX9_note_32 : decode cX9_note 32 = .ok (.getfield 15, 3) := by decide +kernel
theorem dX9_note_35 : decode cX9_note 35 = .ok (.iconst 4, 1) := by decide +kernel
theorem dX9_note_36 : decode cX9_note 36 = .ok (.imul, 1) := by decide +kernel
theorem dX9_note_37 : decode cX9_note 37 = .ok (.istore 5, 2) := by decide +kernel
theorem dX9_note_39 : decode cX9_note 39 = .ok (.aload_n 0, 1) := by decide +kernel
theorem dX9_note_40 : decode cX9_note 40 = .ok (.getfield 34, 3) := by decide +kernel
theorem dX9_note_43 : decode cX9_note 43 = .ok (.iload 5, 2) := by decide +kernel
theorem dX9_note_45 : decode cX9_note 45 = .ok (.iload_n 1, 1) := by decide +kernel
theorem dX9_note_46 : decode cX9_note 46 = .ok (.iastore, 1) := by decide +kernel
theorem dX9_note_47 : decode cX9_note 47 = .ok (.aload_n 0, 1) := by decide +kernel
theorem dX9_note_48 : decode cX9_note 48 = .ok (.getfield 34, 3) := by decide +kernel
theorem dX9_note_51 : decode cX9_note 51 = .ok (.iload 5, 2) := by decide +kernel
theorem dX9_note_53 : decode cX9_note 53 = .ok (.iconst 1, 1) := by decide +kernel
theorem dX9_note_54 : decode cX9_note 54 = .ok (.iadd, 1) := by decide +kernel
theorem dX9_note_55 : decode cX9_note 55 = .ok (.iload_n 2, 1) := by decide +kernel
theorem dX9_note_56 : decode cX9_note 56 = .ok (.iastore, 1) := by decide +kernel
theorem dX9_note_57 : decode cX9_note 57 = .ok (.aload_n 0, 1) := by decide +kernel
theorem dX9_note_58 : decode cX9_note 58 = .ok (.getfield 34, 3) := by decide +kernel
theorem dX9_note_61 : decode cX9_note 61 = .ok (.iload 5, 2) := by decide +kernel
theorem dX9_note_63 : decode cX9_note 63 = .ok (.iconst 2, 1) := by decide +kernel
theorem dX9_note_64 : decode cX9_note 64 = .ok (.iadd, 1) := by decide +kernel
theorem dX9_note_65 : decode cX9_note 65 = .ok (.iload_n 3, 1) := by decide +kernel
theorem dX9_note_66 : decode cX9_note 66 = .ok (.iastore, 1) := by decide +kernel
theorem dX9_note_67 : decode cX9_note 67 = .ok (.aload_n 0, 1) := by decide +kernel
theorem dX9_note_68 : decode cX9_note 68 = .ok (.getfield 34, 3) := by decide +kernel
theorem dX9_note_71 : decode cX9_note 71 = .ok (.iload 5, 2) := by decide +kernel
theorem dX9_note_73 : decode cX9_note 73 = .ok (.iconst 3, 1) := by decide +kernel
theorem dX9_note_74 : decode cX9_note 74 = .ok (.iadd, 1) := by decide +kernel
theorem dX9_note_75 : decode cX9_note 75 = .ok (.iload 4, 2) := by decide +kernel
theorem dX9_note_77 : decode cX9_note 77 = .ok (.iastore, 1) := by decide +kernel
theorem dX9_note_78 : decode cX9_note 78 = .ok (.aload_n 0, 1) := by decide +kernel
theorem dX9_note_79 : decode cX9_note 79 = .ok (.dup, 1) := by decide +kernel
theorem dX9_note_80 : decode cX9_note 80 = .ok (.getfield 15, 3) := by decide +kernel
theorem dX9_note_83 : decode cX9_note 83 = .ok (.iconst 1, 1) := by decide +kernel
theorem dX9_note_84 : decode cX9_note 84 = .ok (.iadd, 1) := by decide +kernel
theorem dX9_note_85 : decode cX9_note 85 = .ok (.putfield 15, 3) := by decide +kernel
theorem dX9_note_88 : decode cX9_note 88 = .ok (.return_, 1) := by decide +kernel
theorem dX9_takeBack_0 : decode cX9_takeBack 0 = .ok (.aload_n 0, 1) := by decide +kernel
theorem dX9_takeBack_1 : decode cX9_takeBack 1 = .ok (.getfield 15, 3) := by decide +kernel
theorem dX9_takeBack_4 : decode cX9_takeBack 4 = .ok (.iconst 1, 1) := by decide +kernel
theorem dX9_takeBack_5 : decode cX9_takeBack 5 = .ok (.if_icmp .ge 4, 3) := by decide +kernel
theorem dX9_takeBack_8 : decode cX9_takeBack 8 = .ok (.return_, 1) := by decide +kernel
theorem dX9_takeBack_9 : decode cX9_takeBack 9 = .ok (.aload_n 0, 1) := by decide +kernel
theorem dX9_takeBack_10 : decode cX9_takeBack 10 = .ok (.dup, 1) := by decide +kernel
theorem dX9_takeBack_11 : decode cX9_takeBack 11 = .ok (.getfield 15, 3) := by decide +kernel
theorem dX9_takeBack_14 : decode cX9_takeBack 14 = .ok (.iconst 1, 1) := by decide +kernel
theorem dX9_takeBack_15 : decode cX9_takeBack 15 = .ok (.isub, 1) := by decide +kernel
theorem dX9_takeBack_16 : decode cX9_takeBack 16 = .ok (.putfield 15, 3) := by decide +kernel
theorem dX9_takeBack_19 : decode cX9_takeBack 19 = .ok (.aload_n 0, 1) := by decide +kernel
theorem dX9_takeBack_20 : decode cX9_takeBack 20 = .ok (.getfield 15, 3) := by decide +kernel
theorem dX9_takeBack_23 : decode cX9_takeBack 23 = .ok (.iconst 4, 1) := by decide +kernel
theorem dX9_takeBack_24 : decode cX9_takeBack 24 = .ok (.imul, 1) := by decide +kernel
theorem dX9_takeBack_25 : decode cX9_takeBack 25 = .ok (.istore_n 1, 1) := by decide +kernel
theorem dX9_takeBack_26 : decode cX9_takeBack 26 = .ok (.aload_n 0, 1) := by decide +kernel
theorem dX9_takeBack_27 : decode cX9_takeBack 27 = .ok (.getfield 34, 3) := by decide +kernel
theorem dX9_takeBack_30 : decode cX9_takeBack 30 = .ok (.iload_n 1, 1) := by decide +kernel
theorem dX9_takeBack_31 : decode cX9_takeBack 31 = .ok (.iconst 1, 1) := by decide +kernel
theorem dX9_takeBack_32 : decode cX9_takeBack 32 = .ok (.iadd, 1) := by decide +kernel
theorem dX9_takeBack_33 : decode cX9_takeBack 33 = .ok (.iaload, 1) := by decide +kernel
theorem dX9_takeBack_34 : decode cX9_takeBack 34 = .ok (.istore_n 2, 1) := by decide +kernel
theorem dX9_takeBack_35 : decode cX9_takeBack 35 = .ok (.aload_n 0, 1) := by decide +kernel
theorem dX9_takeBack_36 : decode cX9_takeBack 36 = .ok (.getfield 34, 3) := by decide +kernel
theorem dX9_takeBack_39 : decode cX9_takeBack 39 = .ok (.iload_n 1, 1) := by decide +kernel
theorem dX9_takeBack_40 : decode cX9_takeBack 40 = .ok (.iconst 2, 1) := by decide +kernel
theorem dX9_takeBack_41 : decode cX9_takeBack 41 = .ok (.iadd, 1) := by decide +kernel
theorem dX9_takeBack_42 : decode cX9_takeBack 42 = .ok (.iaload, 1) := by decide +kernel
theorem dX9_takeBack_43 : decode cX9_takeBack 43 = .ok (.istore_n 3, 1) := by decide +kernel
theorem dX9_takeBack_44 : decode cX9_takeBack 44 = .ok (.aload_n 0, 1) := by decide +kernel
theorem dX9_takeBack_45 : decode cX9_takeBack 45 = .ok (.getfield 34, 3) := by decide +kernel
theorem dX9_takeBack_48 : decode cX9_takeBack 48 = .ok (.iload_n 1, 1) := by decide +kernel
theorem dX9_takeBack_49 : decode cX9_takeBack 49 = .ok (.iconst 3, 1) := by decide +kernel
theorem dX9_takeBack_50 : decode cX9_takeBack 50 = .ok (.iadd, 1) := by decide +kernel
theorem dX9_takeBack_51 : decode cX9_takeBack 51 = .ok (.iaload, 1) := by decide +kernel
theorem dX9_takeBack_52 : decode cX9_takeBack 52 = .ok (.istore 4, 2) := by decide +kernel
theorem dX9_takeBack_54 : decode cX9_takeBack 54 = .ok (.aload_n 0, 1) := by decide +kernel
theorem dX9_takeBack_55 : decode cX9_takeBack 55 = .ok (.getfield 34, 3) := by decide +kernel
theorem dX9_takeBack_58 : decode cX9_takeBack 58 = .ok (.iload_n 1, 1) := by decide +kernel
theorem dX9_takeBack_59 : decode cX9_takeBack 59 = .ok (.iaload, 1) := by decide +kernel
theorem dX9_takeBack_60 : decode cX9_takeBack 60 = .ok (.tableswitch 88 0 3 #[32, 45, 63, 73], 32) := by decide +kernel
theorem dX9_takeBack_92 : decode cX9_takeBack 92 = .ok (.aload_n 0, 1) := by decide +kernel
theorem dX9_takeBack_93 : decode cX9_takeBack 93 = .ok (.dup, 1) := by decide +kernel
theorem dX9_takeBack_94 : decode cX9_takeBack 94 = .ok (.getfield 9, 3) := by decide +kernel
theorem dX9_takeBack_97 : decode cX9_takeBack 97 = .ok (.iload_n 2, 1) := by decide +kernel
theorem dX9_takeBack_98 : decode cX9_takeBack 98 = .ok (.isub, 1) := by decide +kernel
theorem dX9_takeBack_99 : decode cX9_takeBack 99 = .ok (.putfield 9, 3) := by decide +kernel
theorem dX9_takeBack_102 : decode cX9_takeBack 102 = .ok (.goto 56, 3) := by decide +kernel
theorem dX9_takeBack_105 : decode cX9_takeBack 105 = .ok (.aload_n 0, 1) := by decide +kernel
theorem dX9_takeBack_106 : decode cX9_takeBack 106 = .ok (.getfield 25, 3) := by decide +kernel
theorem dX9_takeBack_109 : decode cX9_takeBack 109 = .ok (.iload_n 2, 1) := by decide +kernel
theorem dX9_takeBack_110 : decode cX9_takeBack 110 = .ok (.iload_n 3, 1) := by decide +kernel
theorem dX9_takeBack_111 : decode cX9_takeBack 111 = .ok (.iastore, 1) := by decide +kernel
theorem dX9_takeBack_112 : decode cX9_takeBack 112 = .ok (.aload_n 0, 1) := by decide +kernel
theorem dX9_takeBack_113 : decode cX9_takeBack 113 = .ok (.getfield 21, 3) := by decide +kernel
theorem dX9_takeBack_116 : decode cX9_takeBack 116 = .ok (.iload_n 2, 1) := by decide +kernel
theorem dX9_takeBack_117 : decode cX9_takeBack 117 = .ok (.iload 4, 2) := by decide +kernel
theorem dX9_takeBack_119 : decode cX9_takeBack 119 = .ok (.iastore, 1) := by decide +kernel
theorem dX9_takeBack_120 : decode cX9_takeBack 120 = .ok (.goto 38, 3) := by decide +kernel
theorem dX9_takeBack_123 : decode cX9_takeBack 123 = .ok (.aload_n 0, 1) := by decide +kernel
theorem dX9_takeBack_124 : decode cX9_takeBack 124 = .ok (.getfield 25, 3) := by decide +kernel
theorem dX9_takeBack_127 : decode cX9_takeBack 127 = .ok (.iload_n 2, 1) := by decide +kernel
theorem dX9_takeBack_128 : decode cX9_takeBack 128 = .ok (.iconst 0, 1) := by decide +kernel
theorem dX9_takeBack_129 : decode cX9_takeBack 129 = .ok (.iastore, 1) := by decide +kernel
theorem dX9_takeBack_130 : decode cX9_takeBack 130 = .ok (.goto 28, 3) := by decide +kernel
theorem dX9_takeBack_133 : decode cX9_takeBack 133 = .ok (.aload_n 0, 1) := by decide +kernel
theorem dX9_takeBack_134 : decode cX9_takeBack 134 = .ok (.getfield 28, 3) := by decide +kernel
theorem dX9_takeBack_137 : decode cX9_takeBack 137 = .ok (.iload_n 2, 1) := by decide +kernel
theorem dX9_takeBack_138 : decode cX9_takeBack 138 = .ok (.iload_n 3, 1) := by decide +kernel
theorem dX9_takeBack_139 : decode cX9_takeBack 139 = .ok (.invokestatic 70, 3) := by decide +kernel
theorem dX9_takeBack_142 : decode cX9_takeBack 142 = .ok (.iload 4, 2) := by decide +kernel
theorem dX9_takeBack_144 : decode cX9_takeBack 144 = .ok (.iastore, 1) := by decide +kernel
theorem dX9_takeBack_145 : decode cX9_takeBack 145 = .ok (.goto 13, 3) := by decide +kernel
theorem dX9_takeBack_148 : decode cX9_takeBack 148 = .ok (.aload_n 0, 1) := by decide +kernel
theorem dX9_takeBack_149 : decode cX9_takeBack 149 = .ok (.getfield 31, 3) := by decide +kernel
theorem dX9_takeBack_152 : decode cX9_takeBack 152 = .ok (.iload_n 2, 1) := by decide +kernel
theorem dX9_takeBack_153 : decode cX9_takeBack 153 = .ok (.dup2, 1) := by decide +kernel
theorem dX9_takeBack_154 : decode cX9_takeBack 154 = .ok (.iaload, 1) := by decide +kernel
theorem dX9_takeBack_155 : decode cX9_takeBack 155 = .ok (.iload_n 3, 1) := by decide +kernel
theorem dX9_takeBack_156 : decode cX9_takeBack 156 = .ok (.isub, 1) := by decide +kernel
theorem dX9_takeBack_157 : decode cX9_takeBack 157 = .ok (.iastore, 1) := by decide +kernel
theorem dX9_takeBack_158 : decode cX9_takeBack 158 = .ok (.return_, 1) := by decide +kernel
theorem dX9_witness_0 : decode cX9_witness 0 = .ok (.aload_n 0, 1) := by decide +kernel
theorem dX9_witness_1 : decode cX9_witness 1 = .ok (.getfield 18, 3) := by decide +kernel
theorem dX9_witness_4 : decode cX9_witness 4 = .ok (.bipush 8, 2) := by decide +kernel
theorem dX9_witness_6 : decode cX9_witness 6 = .ok (.if_icmp .lt 4, 3) := by decide +kernel
theorem dX9_witness_9 : decode cX9_witness 9 = .ok (.return_, 1) := by decide +kernel
theorem dX9_witness_10 : decode cX9_witness 10 = .ok (.aload_n 0, 1) := by decide +kernel
theorem dX9_witness_11 : decode cX9_witness 11 = .ok (.getfield 37, 3) := by decide +kernel
theorem dX9_witness_14 : decode cX9_witness 14 = .ok (.aload_n 0, 1) := by decide +kernel
theorem dX9_witness_15 : decode cX9_witness 15 = .ok (.getfield 18, 3) := by decide +kernel
theorem dX9_witness_18 : decode cX9_witness 18 = .ok (.iload_n 1, 1) := by decide +kernel
theorem dX9_witness_19 : decode cX9_witness 19 = .ok (.iastore, 1) := by decide +kernel
theorem dX9_witness_20 : decode cX9_witness 20 = .ok (.aload_n 0, 1) := by decide +kernel
theorem dX9_witness_21 : decode cX9_witness 21 = .ok (.getfield 40, 3) := by decide +kernel
theorem dX9_witness_24 : decode cX9_witness 24 = .ok (.aload_n 0, 1) := by decide +kernel
theorem dX9_witness_25 : decode cX9_witness 25 = .ok (.getfield 18, 3) := by decide +kernel
theorem dX9_witness_28 : decode cX9_witness 28 = .ok (.iload_n 2, 1) := by decide +kernel
theorem dX9_witness_29 : decode cX9_witness 29 = .ok (.iastore, 1) := by decide +kernel
theorem dX9_witness_30 : decode cX9_witness 30 = .ok (.aload_n 0, 1) := by decide +kernel
theorem dX9_witness_31 : decode cX9_witness 31 = .ok (.getfield 43, 3) := by decide +kernel
theorem dX9_witness_34 : decode cX9_witness 34 = .ok (.aload_n 0, 1) := by decide +kernel
theorem dX9_witness_35 : decode cX9_witness 35 = .ok (.getfield 18, 3) := by decide +kernel
theorem dX9_witness_38 : decode cX9_witness 38 = .ok (.iload_n 3, 1) := by decide +kernel
theorem dX9_witness_39 : decode cX9_witness 39 = .ok (.iastore, 1) := by decide +kernel
theorem dX9_witness_40 : decode cX9_witness 40 = .ok (.aload_n 0, 1) := by decide +kernel
theorem dX9_witness_41 : decode cX9_witness 41 = .ok (.getfield 46, 3) := by decide +kernel
theorem dX9_witness_44 : decode cX9_witness 44 = .ok (.aload_n 0, 1) := by decide +kernel
theorem dX9_witness_45 : decode cX9_witness 45 = .ok (.getfield 18, 3) := by decide +kernel
theorem dX9_witness_48 : decode cX9_witness 48 = .ok (.iload 4, 2) := by decide +kernel
theorem dX9_witness_50 : decode cX9_witness 50 = .ok (.iastore, 1) := by decide +kernel
theorem dX9_witness_51 : decode cX9_witness 51 = .ok (.aload_n 0, 1) := by decide +kernel
theorem dX9_witness_52 : decode cX9_witness 52 = .ok (.getfield 49, 3) := by decide +kernel
theorem dX9_witness_55 : decode cX9_witness 55 = .ok (.aload_n 0, 1) := by decide +kernel
theorem dX9_witness_56 : decode cX9_witness 56 = .ok (.getfield 18, 3) := by decide +kernel
theorem dX9_witness_59 : decode cX9_witness 59 = .ok (.iload 5, 2) := by decide +kernel
theorem dX9_witness_61 : decode cX9_witness 61 = .ok (.iastore, 1) := by decide +kernel
theorem dX9_witness_62 : decode cX9_witness 62 = .ok (.aload_n 0, 1) := by decide +kernel
theorem dX9_witness_63 : decode cX9_witness 63 = .ok (.dup, 1) := by decide +kernel
theorem dX9_witness_64 : decode cX9_witness 64 = .ok (.getfield 18, 3) := by decide +kernel
theorem dX9_witness_67 : decode cX9_witness 67 = .ok (.iconst 1, 1) := by decide +kernel
theorem dX9_witness_68 : decode cX9_witness 68 = .ok (.iadd, 1) := by decide +kernel
theorem dX9_witness_69 : decode cX9_witness 69 = .ok (.putfield 18, 3) := by decide +kernel
theorem dX9_witness_72 : decode cX9_witness 72 = .ok (.return_, 1) := by decide +kernel
theorem dX10_init_0 : decode cX10_init 0 = .ok (.aload_n 0, 1) := by decide +kernel
theorem dX10_init_1 : decode cX10_init 1 = .ok (.invokespecial 1, 3) := by decide +kernel
theorem dX10_init_4 : decode cX10_init 4 = .ok (.aload_n 0, 1) := by decide +kernel
theorem dX10_init_5 : decode cX10_init 5 = .ok (.sipush 700, 3) := by decide +kernel
theorem dX10_init_8 : decode cX10_init 8 = .ok (.newarray .int, 2) := by decide +kernel
theorem dX10_init_10 : decode cX10_init 10 = .ok (.putfield 9, 3) := by decide +kernel
theorem dX10_init_13 : decode cX10_init 13 = .ok (.aload_n 0, 1) := by decide +kernel
theorem dX10_init_14 : decode cX10_init 14 = .ok (.iconst 0, 1) := by decide +kernel
theorem dX10_init_15 : decode cX10_init 15 = .ok (.putfield 13, 3) := by decide +kernel
theorem dX10_init_18 : decode cX10_init 18 = .ok (.aload_n 0, 1) := by decide +kernel
theorem dX10_init_19 : decode cX10_init 19 = .ok (.iconst (-1), 1) := by decide +kernel
theorem dX10_init_20 : decode cX10_init 20 = .ok (.putfield 17, 3) := by decide +kernel
theorem dX10_init_23 : decode cX10_init 23 = .ok (.aload_n 0, 1) := by decide +kernel
theorem dX10_init_24 : decode cX10_init 24 = .ok (.iconst 0, 1) := by decide +kernel
theorem dX10_init_25 : decode cX10_init 25 = .ok (.putfield 20, 3) := by decide +kernel
theorem dX10_init_28 : decode cX10_init 28 = .ok (.aload_n 0, 1) := by decide +kernel
theorem dX10_init_29 : decode cX10_init 29 = .ok (.new 24, 3) := by decide +kernel
theorem dX10_init_32 : decode cX10_init 32 = .ok (.dup, 1) := by decide +kernel
theorem dX10_init_33 : decode cX10_init 33 = .ok (.invokespecial 26, 3) := by decide +kernel
theorem dX10_init_36 : decode cX10_init 36 = .ok (.putfield 27, 3) := by decide +kernel
theorem dX10_init_39 : decode cX10_init 39 = .ok (.aload_n 0, 1) := by decide +kernel
theorem dX10_init_40 : decode cX10_init 40 = .ok (.new 24, 3) := by decide +kernel
theorem dX10_init_43 : decode cX10_init 43 = .ok (.dup, 1) := by decide +kernel
theorem dX10_init_44 : decode cX10_init 44 = .ok (.invokespecial 26, 3) := by decide +kernel
theorem dX10_init_47 : decode cX10_init 47 = .ok (.putfield 31, 3) := by decide +kernel
theorem dX10_init_50 : decode cX10_init 50 = .ok (.aload_n 0, 1) := by decide +kernel
theorem dX10_init_51 : decode cX10_init 51 = .ok (.new 34, 3) := by decide +kernel
theorem dX10_init_54 : decode cX10_init 54 = .ok (.dup, 1) := by decide +kernel
theorem dX10_init_55 : decode cX10_init 55 = .ok (.aload_n 0, 1) := by decide +kernel
theorem dX10_init_56 : decode cX10_init 56 = .ok (.getfield 31, 3) := by decide +kernel
theorem dX10_init_59 : decode cX10_init 59 = .ok (.invokespecial 36, 3) := by decide +kernel
theorem dX10_init_62 : decode cX10_init 62 = .ok (.putfield 39, 3) := by decide +kernel
theorem dX10_init_65 : decode cX10_init 65 = .ok (.aload_n 0, 1) := by decide +kernel
theorem dX10_init_66 : decode cX10_init 66 = .ok (.new 43, 3) := by decide +kernel
theorem dX10_init_69 : decode cX10_init 69 = .ok (.dup, 1) := by decide +kernel
theorem dX10_init_70 : decode cX10_init 70 = .ok (.invokespecial 45, 3) := by decide +kernel
theorem dX10_init_73 : decode cX10_init 73 = .ok (.putfield 46, 3) := by decide +kernel
theorem dX10_init_76 : decode cX10_init 76 = .ok (.aload_n 0, 1) := by decide +kernel
theorem dX10_init_77 : decode cX10_init 77 = .ok (.new 43, 3) := by decide +kernel
theorem dX10_init_80 : decode cX10_init 80 = .ok (.dup, 1) := by decide +kernel
theorem dX10_init_81 : decode cX10_init 81 = .ok (.invokespecial 45, 3) := by decide +kernel
theorem dX10_init_84 : decode cX10_init 84 = .ok (.putfield 50, 3) := by decide +kernel
theorem dX10_init_87 : decode cX10_init 87 = .ok (.aload_n 0, 1) := by decide +kernel
theorem dX10_init_88 : decode cX10_init 88 = .ok (.new 43, 3) := by decide +kernel
theorem dX10_init_91 : decode cX10_init 91 = .ok (.dup, 1) := by decide +kernel
theorem dX10_init_92 : decode cX10_init 92 = .ok (.invokespecial 45, 3) := by decide +kernel
theorem dX10_init_95 : decode cX10_init 95 = .ok (.putfield 53, 3) := by decide +kernel
theorem dX10_init_98 : decode cX10_init 98 = .ok (.aload_n 0, 1) := by decide +kernel
theorem dX10_init_99 : decode cX10_init 99 = .ok (.new 56, 3) := by decide +kernel
theorem dX10_init_102 : decode cX10_init 102 = .ok (.dup, 1) := by decide +kernel
theorem dX10_init_103 : decode cX10_init 103 = .ok (.aload_n 0, 1) := by decide +kernel
theorem dX10_init_104 : decode cX10_init 104 = .ok (.getfield 27, 3) := by decide +kernel
theorem dX10_init_107 : decode cX10_init 107 = .ok (.invokespecial 58, 3) := by decide +kernel
theorem dX10_init_110 : decode cX10_init 110 = .ok (.putfield 59, 3) := by decide +kernel
theorem dX10_init_113 : decode cX10_init 113 = .ok (.aload_n 0, 1) := by decide +kernel
theorem dX10_init_114 : decode cX10_init 114 = .ok (.new 63, 3) := by decide +kernel
theorem dX10_init_117 : decode cX10_init 117 = .ok (.dup, 1) := by decide +kernel
theorem dX10_init_118 : decode cX10_init 118 = .ok (.aload_n 0, 1) := by decide +kernel
theorem dX10_init_119 : decode cX10_init 119 = .ok (.getfield 27, 3) := by decide +kernel
theorem dX10_init_122 : decode cX10_init 122 = .ok (.aload_n 0, 1) := by decide +kernel
theorem dX10_init_123 : decode cX10_init 123 = .ok (.getfield 59, 3) := by decide +kernel
theorem dX10_init_126 : decode cX10_init 126 = .ok (.invokespecial 65, 3) := by decide +kernel
theorem dX10_init_129 : decode cX10_init 129 = .ok (.putfield 68, 3) := by decide +kernel
theorem dX10_init_132 : decode cX10_init 132 = .ok (.aload_n 0, 1) := by decide +kernel
theorem dX10_init_133 : decode cX10_init 133 = .ok (.new 72, 3) := by decide +kernel
theorem dX10_init_136 : decode cX10_init 136 = .ok (.dup, 1) := by decide +kernel
theorem dX10_init_137 : decode cX10_init 137 = .ok (.aload_n 0, 1) := by decide +kernel
theorem dX10_init_138 : decode cX10_init 138 = .ok (.getfield 27, 3) := by decide +kernel
theorem dX10_init_141 : decode cX10_init 141 = .ok (.aload_n 0, 1) := by decide +kernel
theorem dX10_init_142 : decode cX10_init 142 = .ok (.getfield 46, 3) := by decide +kernel
theorem dX10_init_145 : decode cX10_init 145 = .ok (.invokespecial 74, 3) := by decide +kernel
theorem dX10_init_148 : decode cX10_init 148 = .ok (.putfield 77, 3) := by decide +kernel
theorem dX10_init_151 : decode cX10_init 151 = .ok (.aload_n 0, 1) := by decide +kernel
theorem dX10_init_152 : decode cX10_init 152 = .ok (.new 81, 3) := by decide +kernel
theorem dX10_init_155 : decode cX10_init 155 = .ok (.dup, 1) := by decide +kernel
theorem dX10_init_156 : decode cX10_init 156 = .ok (.aload_n 0, 1) := by decide +kernel
theorem dX10_init_157 : decode cX10_init 157 = .ok (.getfield 27, 3) := by decide +kernel
theorem dX10_init_160 : decode cX10_init 160 = .ok (.aload_n 0, 1) := by decide +kernel
theorem dX10_init_161 : decode cX10_init 161 = .ok (.getfield 77, 3) := by decide +kernel
theorem dX10_init_164 : decode cX10_init 164 = .ok (.invokespecial 83, 3) := by decide +kernel
theorem dX10_init_167 : decode cX10_init 167 = .ok (.putfield 86, 3) := by decide +kernel
theorem dX10_init_170 : decode cX10_init 170 = .ok (.aload_n 0, 1) := by decide +kernel
theorem dX10_init_171 : decode cX10_init 171 = .ok (.new 90, 3) := by decide +kernel
theorem dX10_init_174 : decode cX10_init 174 = .ok (.dup, 1) := by decide +kernel
theorem dX10_init_175 : decode cX10_init 175 = .ok (.aload_n 0, 1) := by decide +kernel
theorem dX10_init_176 : decode cX10_init 176 = .ok (.getfield 27, 3) := by decide +kernel
theorem dX10_init_179 : decode cX10_init 179 = .ok (.aload_n 0, 1) := by decide +kernel
theorem dX10_init_180 : decode cX10_init 180 = .ok (.getfield 53, 3) := by decide +kernel
theorem dX10_init_183 : decode cX10_init 183 = .ok (.aload_n 0, 1) := by decide +kernel
theorem dX10_init_184 : decode cX10_init 184 = .ok (.getfield 59, 3) := by decide +kernel
theorem dX10_init_187 : decode cX10_init 187 = .ok (.invokespecial 92, 3) := by decide +kernel
theorem dX10_init_190 : decode cX10_init 190 = .ok (.putfield 95, 3) := by decide +kernel
theorem dX10_init_193 : decode cX10_init 193 = .ok (.return_, 1) := by decide +kernel
theorem dX10_feed_0 : decode cX10_feed 0 = .ok (.aload_n 0, 1) := by decide +kernel
theorem dX10_feed_1 : decode cX10_feed 1 = .ok (.getfield 13, 3) := by decide +kernel
theorem dX10_feed_4 : decode cX10_feed 4 = .ok (.bipush 20, 2) := by decide +kernel
theorem dX10_feed_6 : decode cX10_feed 6 = .ok (.iadd, 1) := by decide +kernel
theorem dX10_feed_7 : decode cX10_feed 7 = .ok (.sipush 700, 3) := by decide +kernel
theorem dX10_feed_10 : decode cX10_feed 10 = .ok (.if_icmp .le 5, 3) := by decide +kernel
theorem dX10_feed_13 : decode cX10_feed 13 = .ok (.iconst (-1), 1) := by decide +kernel
theorem dX10_feed_14 : decode cX10_feed 14 = .ok (.ireturn, 1) := by decide +kernel
theorem dX10_feed_15 : decode cX10_feed 15 = .ok (.aload_n 0, 1) := by decide +kernel
theorem dX10_feed_16 : decode cX10_feed 16 = .ok (.iload_n 1, 1) := by decide +kernel
theorem dX10_feed_17 : decode cX10_feed 17 = .ok (.invokevirtual 99, 3) := by decide +kernel
theorem dX10_feed_20 : decode cX10_feed 20 = .ok (.aload_n 0, 1) := by decide +kernel
theorem dX10_feed_21 : decode cX10_feed 21 = .ok (.iload_n 2, 1) := by decide +kernel
theorem dX10_feed_22 : decode cX10_feed 22 = .ok (.invokevirtual 99, 3) := by decide +kernel
theorem dX10_feed_25 : decode cX10_feed 25 = .ok (.aload_n 0, 1) := by decide +kernel
theorem dX10_feed_26 : decode cX10_feed 26 = .ok (.iload_n 3, 1) := by decide +kernel
theorem dX10_feed_27 : decode cX10_feed 27 = .ok (.invokevirtual 99, 3) := by decide +kernel
theorem dX10_feed_30 : decode cX10_feed 30 = .ok (.aload_n 0, 1) := by decide +kernel
theorem dX10_feed_31 : decode cX10_feed 31 = .ok (.iload 4, 2) := by decide +kernel
theorem dX10_feed_33 : decode cX10_feed 33 = .ok (.invokevirtual 99, 3) := by decide +kernel
theorem dX10_feed_36 : decode cX10_feed 36 = .ok (.aload_n 0, 1) := by decide +kernel
theorem dX10_feed_37 : decode cX10_feed 37 = .ok (.iload 5, 2) := by decide +kernel
theorem dX10_feed_39 : decode cX10_feed 39 = .ok (.invokevirtual 99, 3) := by decide +kernel
theorem dX10_feed_42 : decode cX10_feed 42 = .ok (.aload_n 0, 1) := by decide +kernel
theorem dX10_feed_43 : decode cX10_feed 43 = .ok (.getfield 13, 3) := by decide +kernel
theorem dX10_feed_46 : decode cX10_feed 46 = .ok (.ireturn, 1) := by decide +kernel
theorem dX10_ball_0 : decode cX10_ball 0 = .ok (.iload_n 1, 1) := by decide +kernel
theorem dX10_ball_1 : decode cX10_ball 1 = .ok (.ifCond .lt 11, 3) := by decide +kernel
theorem dX10_ball_4 : decode cX10_ball 4 = .ok (.iload_n 1, 1) := by decide +kernel
theorem dX10_ball_5 : decode cX10_ball 5 = .ok (.aload_n 0, 1) := by decide +kernel
theorem dX10_ball_6 : decode cX10_ball 6 = .ok (.getfield 13, 3) := by decide +kernel
theorem dX10_ball_9 : decode cX10_ball 9 = .ok (.if_icmp .le 13, 3) := by decide +kernel
theorem dX10_ball_12 : decode cX10_ball 12 = .ok (.new 103, 3) := by decide +kernel
theorem dX10_ball_15 : decode cX10_ball 15 = .ok (.dup, 1) := by decide +kernel
theorem dX10_ball_16 : decode cX10_ball 16 = .ok (.ldc 105, 2) := by decide +kernel
theorem dX10_ball_18 : decode cX10_ball 18 = .ok (.invokespecial 107, 3) := by decide +kernel
theorem dX10_ball_21 : decode cX10_ball 21 = .ok (.athrow, 1) := by decide +kernel
theorem dX10_ball_22 : decode cX10_ball 22 = .ok (.aload_n 0, 1) := by decide +kernel
theorem dX10_ball_23 : decode cX10_ball 23 = .ok (.iconst 0, 1) := by decide +kernel
theorem dX10_ball_24 : decode cX10_ball 24 = .ok (.putfield 13, 3) := by decide +kernel
theorem dX10_ball_27 : decode cX10_ball 27 = .ok (.aload_n 0, 1) := by decide +kernel
theorem dX10_ball_28 : decode cX10_ball 28 = .ok (.getfield 39, 3) := by decide +kernel
theorem dX10_ball_31 : decode cX10_ball 31 = .ok (.aload_n 0, 1) := by decide +kernel
theorem dX10_ball_32 : decode cX10_ball 32 = .ok (.getfield 9, 3) := by decide +kernel
theorem dX10_ball_35 : decode cX10_ball 35 = .ok (.iload_n 1, 1) := by decide +kernel
theorem dX10_ball_36 : decode cX10_ball 36 = .ok (.invokevirtual 110, 3) := by decide +kernel
theorem dX10_ball_39 : decode cX10_ball 39 = .ok (.ifCond .ne 35, 3) := by decide +kernel
theorem dX10_ball_42 : decode cX10_ball 42 = .ok (.aload_n 0, 1) := by decide +kernel
theorem dX10_ball_43 : decode cX10_ball 43 = .ok (.aload_n 0, 1) := by decide +kernel
theorem dX10_ball_44 : decode cX10_ball 44 = .ok (.getfield 39, 3) := by decide +kernel
theorem dX10_ball_47 : decode cX10_ball 47 = .ok (.getfield 114, 3) := by decide +kernel
theorem dX10_ball_50 : decode cX10_ball 50 = .ok (.putfield 17, 3) := by decide +kernel
theorem dX10_ball_53 : decode cX10_ball 53 = .ok (.aload_n 0, 1) := by decide +kernel
theorem dX10_ball_54 : decode cX10_ball 54 = .ok (.getfield 46, 3) := by decide +kernel
theorem dX10_ball_57 : decode cX10_ball 57 = .ok (.getfield 115, 3) := by decide +kernel
theorem dX10_ball_60 : decode cX10_ball 60 = .ok (.iconst 0, 1) := by decide +kernel
theorem dX10_ball_61 : decode cX10_ball 61 = .ok (.dup2, 1) := by decide +kernel
theorem dX10_ball_62 : decode cX10_ball 62 = .ok (.iaload, 1) := by decide +kernel
theorem dX10_ball_63 : decode cX10_ball 63 = .ok (.iconst 1, 1) := by decide +kernel
theorem dX10_ball_64 : decode cX10_ball 64 = .ok (.iadd, 1) := by decide +kernel
theorem dX10_ball_65 : decode cX10_ball 65 = .ok (.iastore, 1) := by decide +kernel
theorem dX10_ball_66 : decode cX10_ball 66 = .ok (.aload_n 0, 1) := by decide +kernel
theorem dX10_ball_67 : decode cX10_ball 67 = .ok (.getfield 39, 3) := by decide +kernel
theorem dX10_ball_70 : decode cX10_ball 70 = .ok (.getfield 118, 3) := by decide +kernel
theorem dX10_ball_73 : decode cX10_ball 73 = .ok (.ireturn, 1) := by decide +kernel
theorem dX10_ball_74 : decode cX10_ball 74 = .ok (.aload_n 0, 1) := by decide +kernel
theorem dX10_ball_75 : decode cX10_ball 75 = .ok (.iconst (-1), 1) := by decide +kernel
theorem dX10_ball_76 : decode cX10_ball 76 = .ok (.putfield 17, 3) := by decide +kernel
theorem dX10_ball_79 : decode cX10_ball 79 = .ok (.aload_n 0, 1) := by decide +kernel
theorem dX10_ball_80 : decode cX10_ball 80 = .ok (.getfield 27, 3) := by decide +kernel
theorem dX10_ball_83 : decode cX10_ball 83 = .ok (.aload_n 0, 1) := by decide +kernel
theorem dX10_ball_84 : decode cX10_ball 84 = .ok (.getfield 31, 3) := by decide +kernel
theorem dX10_ball_87 : decode cX10_ball 87 = .ok (.invokevirtual 121, 3) := by decide +kernel
theorem dX10_ball_90 : decode cX10_ball 90 = .ok (.aload_n 0, 1) := by decide +kernel
theorem dX10_ball_91 : decode cX10_ball 91 = .ok (.getfield 46, 3) := by decide +kernel
theorem dX10_ball_94 : decode cX10_ball 94 = .ok (.aload_n 0, 1) := by decide +kernel
theorem dX10_ball_95 : decode cX10_ball 95 = .ok (.getfield 27, 3) := by decide +kernel
theorem dX10_ball_98 : decode cX10_ball 98 = .ok (.invokevirtual 124, 3) := by decide +kernel
theorem dX10_ball_101 : decode cX10_ball 101 = .ok (.aload_n 0, 1) := by decide +kernel
theorem dX10_ball_102 : decode cX10_ball 102 = .ok (.iconst 0, 1) := by decide +kernel
theorem dX10_ball_103 : decode cX10_ball 103 = .ok (.putfield 20, 3) := by decide +kernel
theorem dX10_ball_106 : decode cX10_ball 106 = .ok (.iconst 0, 1) := by decide +kernel
theorem dX10_ball_107 : decode cX10_ball 107 = .ok (.ireturn, 1) := by decide +kernel
theorem dX10_fault_0 : decode cX10_fault 0 = .ok (.aload_n 0, 1) := by decide +kernel
theorem dX10_fault_1 : decode cX10_fault 1 = .ok (.getfield 17, 3) := by decide +kernel
theorem dX10_fault_4 : decode cX10_fault 4 = .ok (.ireturn, 1) := by decide +kernel
theorem dX10_count_0 : decode cX10_count 0 = .ok (.iload_n 1, 1) := by decide +kernel
theorem dX10_count_1 : decode cX10_count 1 = .ok (.tableswitch 169 0 11 #[63, 71, 79, 87, 95, 108, 135, 143, 151, 156, 156, 156], 63) := by decide +kernel
theorem dX10_count_64 : decode cX10_count 64 = .ok (.aload_n 0, 1) := by decide +kernel
theorem dX10_count_65 : decode cX10_count 65 = .ok (.getfield 27, 3) := by decide +kernel
theorem dX10_count_68 : decode cX10_count 68 = .ok (.getfield 127, 3) := by decide +kernel
theorem dX10_count_71 : decode cX10_count 71 = .ok (.ireturn, 1) := by decide +kernel
theorem dX10_count_72 : decode cX10_count 72 = .ok (.aload_n 0, 1) := by decide +kernel
theorem dX10_count_73 : decode cX10_count 73 = .ok (.getfield 27, 3) := by decide +kernel
theorem dX10_count_76 : decode cX10_count 76 = .ok (.getfield 130, 3) := by decide +kernel
theorem dX10_count_79 : decode cX10_count 79 = .ok (.ireturn, 1) := by decide +kernel
theorem dX10_count_80 : decode cX10_count 80 = .ok (.aload_n 0, 1) := by decide +kernel
theorem dX10_count_81 : decode cX10_count 81 = .ok (.getfield 27, 3) := by decide +kernel
theorem dX10_count_84 : decode cX10_count 84 = .ok (.getfield 133, 3) := by decide +kernel
theorem dX10_count_87 : decode cX10_count 87 = .ok (.ireturn, 1) := by decide +kernel
theorem dX10_count_88 : decode cX10_count 88 = .ok (.aload_n 0, 1) := by decide +kernel
theorem dX10_count_89 : decode cX10_count 89 = .ok (.getfield 46, 3) := by decide +kernel
theorem dX10_count_92 : decode cX10_count 92 = .ok (.getfield 136, 3) := by decide +kernel
theorem dX10_count_95 : decode cX10_count 95 = .ok (.ireturn, 1) := by decide +kernel
theorem dX10_count_96 : decode cX10_count 96 = .ok (.aload_n 0, 1) := by decide +kernel
theorem dX10_count_97 : decode cX10_count 97 = .ok (.getfield 59, 3) := by decide +kernel
theorem dX10_count_100 : decode cX10_count 100 = .ok (.aload_n 0, 1) := by decide +kernel
theorem dX10_count_101 : decode cX10_count 101 = .ok (.getfield 46, 3) := by decide +kernel
theorem dX10_count_104 : decode cX10_count 104 = .ok (.iconst 0, 1) := by decide +kernel
theorem dX10_count_105 : decode cX10_count 105 = .ok (.invokevirtual 139, 3) := by decide +kernel
theorem dX10_count_108 : decode cX10_count 108 = .ok (.ireturn, 1) := by decide +kernel
theorem dX10_count_109 : decode cX10_count 109 = .ok (.aload_n 0, 1) := by decide +kernel
theorem dX10_count_110 : decode cX10_count 110 = .ok (.getfield 77, 3) := by decide +kernel
theorem dX10_count_113 : decode cX10_count 113 = .ok (.aload_n 0, 1) := by decide +kernel
theorem dX10_count_114 : decode cX10_count 114 = .ok (.getfield 59, 3) := by decide +kernel
theorem dX10_count_117 : decode cX10_count 117 = .ok (.aload_n 0, 1) := by decide +kernel
theorem dX10_count_118 : decode cX10_count 118 = .ok (.getfield 46, 3) := by decide +kernel
theorem dX10_count_121 : decode cX10_count 121 = .ok (.iconst 0, 1) := by decide +kernel
theorem dX10_count_122 : decode cX10_count 122 = .ok (.invokevirtual 139, 3) := by decide +kernel
theorem dX10_count_125 : decode cX10_count 125 = .ok (.invokevirtual 143, 3) := by decide +kernel
theorem dX10_count_128 : decode cX10_count 128 = .ok (.aload_n 0, 1) := by decide +kernel
theorem dX10_count_129 : decode cX10_count 129 = .ok (.getfield 77, 3) := by decide +kernel
theorem dX10_count_132 : decode cX10_count 132 = .ok (.invokevirtual 146, 3) := by decide +kernel
theorem dX10_count_135 : decode cX10_count 135 = .ok (.ireturn, 1) := by decide +kernel
theorem dX10_count_136 : decode cX10_count 136 = .ok (.aload_n 0, 1) := by decide +kernel
theorem dX10_count_137 : decode cX10_count 137 = .ok (.getfield 46, 3) := by decide +kernel
theorem dX10_count_140 : decode cX10_count 140 = .ok (.getfield 150, 3) := by decide +kernel
theorem dX10_count_143 : decode cX10_count 143 = .ok (.ireturn, 1) := by decide +kernel
theorem dX10_count_144 : decode cX10_count 144 = .ok (.aload_n 0, 1) := by decide +kernel
theorem dX10_count_145 : decode cX10_count 145 = .ok (.getfield 46, 3) := by decide +kernel
theorem dX10_count_148 : decode cX10_count 148 = .ok (.getfield 153, 3) := by decide +kernel
theorem dX10_count_151 : decode cX10_count 151 = .ok (.ireturn, 1) := by decide +kernel
theorem dX10_count_152 : decode cX10_count 152 = .ok (.aload_n 0, 1) := by decide +kernel
theorem dX10_count_153 : decode cX10_count 153 = .ok (.getfield 13, 3) := by decide +kernel
theorem dX10_count_156 : decode cX10_count 156 = .ok (.ireturn, 1) := by decide +kernel
theorem dX10_count_157 : decode cX10_count 157 = .ok (.aload_n 0, 1) := by decide +kernel
theorem dX10_count_158 : decode cX10_count 158 = .ok (.getfield 46, 3) := by decide +kernel
theorem dX10_count_161 : decode cX10_count 161 = .ok (.getfield 115, 3) := by decide +kernel
theorem dX10_count_164 : decode cX10_count 164 = .ok (.iload_n 1, 1) := by decide +kernel
theorem dX10_count_165 : decode cX10_count 165 = .ok (.bipush 9, 2) := by decide +kernel
theorem dX10_count_167 : decode cX10_count 167 = .ok (.isub, 1) := by decide +kernel
theorem dX10_count_168 : decode cX10_count 168 = .ok (.iaload, 1) := by decide +kernel
theorem dX10_count_169 : decode cX10_count 169 = .ok (.ireturn, 1) := by decide +kernel
theorem dX10_count_170 : decode cX10_count 170 = .ok (.new 156, 3) := by decide +kernel
theorem dX10_count_173 : decode cX10_count 173 = .ok (.dup, 1) := by decide +kernel
theorem dX10_count_174 : decode cX10_count 174 = .ok (.ldc 158, 2) := by decide +kernel
theorem dX10_count_176 : decode cX10_count 176 = .ok (.invokespecial 160, 3) := by decide +kernel
theorem dX10_count_179 : decode cX10_count 179 = .ok (.athrow, 1) := by decide +kernel
theorem dX10_knees_0 : decode cX10_knees 0 = .ok (.aload_n 0, 1) := by decide +kernel
theorem dX10_knees_1 : decode cX10_knees 1 = .ok (.iload_n 1, 1) := by decide +kernel
theorem dX10_knees_2 : decode cX10_knees 2 = .ok (.invokevirtual 161, 3) := by decide +kernel
theorem dX10_knees_5 : decode cX10_knees 5 = .ok (.aload_n 0, 1) := by decide +kernel
theorem dX10_knees_6 : decode cX10_knees 6 = .ok (.getfield 27, 3) := by decide +kernel
theorem dX10_knees_9 : decode cX10_knees 9 = .ok (.getfield 164, 3) := by decide +kernel
theorem dX10_knees_12 : decode cX10_knees 12 = .ok (.iload_n 1, 1) := by decide +kernel
theorem dX10_knees_13 : decode cX10_knees 13 = .ok (.iaload, 1) := by decide +kernel
theorem dX10_knees_14 : decode cX10_knees 14 = .ok (.ireturn, 1) := by decide +kernel
theorem dX10_dance_0 : decode cX10_dance 0 = .ok (.aload_n 0, 1) := by decide +kernel
theorem dX10_dance_1 : decode cX10_dance 1 = .ok (.iload_n 1, 1) := by decide +kernel
theorem dX10_dance_2 : decode cX10_dance 2 = .ok (.invokevirtual 167, 3) := by decide +kernel
theorem dX10_dance_5 : decode cX10_dance 5 = .ok (.iload_n 2, 1) := by decide +kernel
theorem dX10_dance_6 : decode cX10_dance 6 = .ok (.tableswitch 140 0 7 #[46, 56, 66, 76, 86, 95, 105, 119], 46) := by decide +kernel
theorem dX10_dance_52 : decode cX10_dance 52 = .ok (.aload_n 0, 1) := by decide +kernel
theorem dX10_dance_53 : decode cX10_dance 53 = .ok (.getfield 27, 3) := by decide +kernel
theorem dX10_dance_56 : decode cX10_dance 56 = .ok (.iload_n 1, 1) := by decide +kernel
theorem dX10_dance_57 : decode cX10_dance 57 = .ok (.iconst 0, 1) := by decide +kernel
theorem dX10_dance_58 : decode cX10_dance 58 = .ok (.invokevirtual 170, 3) := by decide +kernel
theorem dX10_dance_61 : decode cX10_dance 61 = .ok (.ireturn, 1) := by decide +kernel
theorem dX10_dance_62 : decode cX10_dance 62 = .ok (.aload_n 0, 1) := by decide +kernel
theorem dX10_dance_63 : decode cX10_dance 63 = .ok (.getfield 27, 3) := by decide +kernel
theorem dX10_dance_66 : decode cX10_dance 66 = .ok (.iload_n 1, 1) := by decide +kernel
theorem dX10_dance_67 : decode cX10_dance 67 = .ok (.iconst 1, 1) := by decide +kernel
theorem dX10_dance_68 : decode cX10_dance 68 = .ok (.invokevirtual 170, 3) := by decide +kernel
theorem dX10_dance_71 : decode cX10_dance 71 = .ok (.ireturn, 1) := by decide +kernel
theorem dX10_dance_72 : decode cX10_dance 72 = .ok (.aload_n 0, 1) := by decide +kernel
theorem dX10_dance_73 : decode cX10_dance 73 = .ok (.getfield 27, 3) := by decide +kernel
theorem dX10_dance_76 : decode cX10_dance 76 = .ok (.getfield 174, 3) := by decide +kernel
theorem dX10_dance_79 : decode cX10_dance 79 = .ok (.iload_n 1, 1) := by decide +kernel
theorem dX10_dance_80 : decode cX10_dance 80 = .ok (.iaload, 1) := by decide +kernel
theorem dX10_dance_81 : decode cX10_dance 81 = .ok (.ireturn, 1) := by decide +kernel
theorem dX10_dance_82 : decode cX10_dance 82 = .ok (.aload_n 0, 1) := by decide +kernel
theorem dX10_dance_83 : decode cX10_dance 83 = .ok (.getfield 27, 3) := by decide +kernel
theorem dX10_dance_86 : decode cX10_dance 86 = .ok (.getfield 177, 3) := by decide +kernel
theorem dX10_dance_89 : decode cX10_dance 89 = .ok (.iload_n 1, 1) := by decide +kernel
theorem dX10_dance_90 : decode cX10_dance 90 = .ok (.iaload, 1) := by decide +kernel
theorem dX10_dance_91 : decode cX10_dance 91 = .ok (.ireturn, 1) := by decide +kernel
theorem dX10_dance_92 : decode cX10_dance 92 = .ok (.aload_n 0, 1) := by decide +kernel
theorem dX10_dance_93 : decode cX10_dance 93 = .ok (.getfield 46, 3) := by decide +kernel
theorem dX10_dance_96 : decode cX10_dance 96 = .ok (.iload_n 1, 1) := by decide +kernel
theorem dX10_dance_97 : decode cX10_dance 97 = .ok (.invokevirtual 180, 3) := by decide +kernel
theorem dX10_dance_100 : decode cX10_dance 100 = .ok (.ireturn, 1) := by decide +kernel
theorem dX10_dance_101 : decode cX10_dance 101 = .ok (.aload_n 0, 1) := by decide +kernel
theorem dX10_dance_102 : decode cX10_dance 102 = .ok (.getfield 46, 3) := by decide +kernel
theorem dX10_dance_105 : decode cX10_dance 105 = .ok (.getfield 184, 3) := by decide +kernel
theorem dX10_dance_108 : decode cX10_dance 108 = .ok (.iload_n 1, 1) := by decide +kernel
theorem dX10_dance_109 : decode cX10_dance 109 = .ok (.iaload, 1) := by decide +kernel
theorem dX10_dance_110 : decode cX10_dance 110 = .ok (.ireturn, 1) := by decide +kernel
theorem dX10_dance_111 : decode cX10_dance 111 = .ok (.aload_n 0, 1) := by decide +kernel
theorem dX10_dance_112 : decode cX10_dance 112 = .ok (.iload_n 1, 1) := by decide +kernel
theorem dX10_dance_113 : decode cX10_dance 113 = .ok (.invokevirtual 187, 3) := by decide +kernel
theorem dX10_dance_116 : decode cX10_dance 116 = .ok (.ifCond .eq 7, 3) := by decide +kernel
theorem dX10_dance_119 : decode cX10_dance 119 = .ok (.iconst 1, 1) := by decide +kernel
theorem dX10_dance_120 : decode cX10_dance 120 = .ok (.goto 4, 3) := by decide +kernel
theorem dX10_dance_123 : decode cX10_dance 123 = .ok (.iconst 0, 1) := by decide +kernel
theorem dX10_dance_124 : decode cX10_dance 124 = .ok (.ireturn, 1) := by decide +kernel
theorem dX10_dance_125 : decode cX10_dance 125 = .ok (.aload_n 0, 1) := by decide +kernel
theorem dX10_dance_126 : decode cX10_dance 126 = .ok (.getfield 59, 3) := by decide +kernel
theorem dX10_dance_129 : decode cX10_dance 129 = .ok (.aload_n 0, 1) := by decide +kernel
theorem dX10_dance_130 : decode cX10_dance 130 = .ok (.getfield 46, 3) := by decide +kernel
theorem dX10_dance_133 : decode cX10_dance 133 = .ok (.iload_n 1, 1) := by decide +kernel
theorem dX10_dance_134 : decode cX10_dance 134 = .ok (.iconst 0, 1) := by decide +kernel
theorem dX10_dance_135 : decode cX10_dance 135 = .ok (.invokevirtual 191, 3) := by decide +kernel
theorem dX10_dance_138 : decode cX10_dance 138 = .ok (.aload_n 0, 1) := by decide +kernel
theorem dX10_dance_139 : decode cX10_dance 139 = .ok (.getfield 59, 3) := by decide +kernel
theorem dX10_dance_142 : decode cX10_dance 142 = .ok (.invokevirtual 195, 3) := by decide +kernel
theorem dX10_dance_145 : decode cX10_dance 145 = .ok (.ireturn, 1) := by decide +kernel
theorem dX10_dance_146 : decode cX10_dance 146 = .ok (.new 156, 3) := by decide +kernel
theorem dX10_dance_149 : decode cX10_dance 149 = .ok (.dup, 1) := by decide +kernel
theorem dX10_dance_150 : decode cX10_dance 150 = .ok (.ldc 198, 2) := by decide +kernel
theorem dX10_dance_152 : decode cX10_dance 152 = .ok (.invokespecial 160, 3) := by decide +kernel
theorem dX10_dance_155 : decode cX10_dance 155 = .ok (.athrow, 1) := by decide +kernel
theorem dX10_step_0 : decode cX10_step 0 = .ok (.aload_n 0, 1) := by decide +kernel
theorem dX10_step_1 : decode cX10_step 1 = .ok (.iload_n 1, 1) := by decide +kernel
theorem dX10_step_2 : decode cX10_step 2 = .ok (.iload_n 2, 1) := by decide +kernel
theorem dX10_step_3 : decode cX10_step 3 = .ok (.invokevirtual 200, 3) := by decide +kernel
theorem dX10_step_6 : decode cX10_step 6 = .ok (.iload_n 1, 1) := by decide +kernel
theorem dX10_step_7 : decode cX10_step 7 = .ok (.iload_n 2, 1) := by decide +kernel
theorem dX10_step_8 : decode cX10_step 8 = .ok (.invokestatic 204, 3) := by decide +kernel
theorem dX10_step_11 : decode cX10_step 11 = .ok (.istore 4, 2) := by decide +kernel
theorem dX10_step_13 : decode cX10_step 13 = .ok (.iload_n 3, 1) := by decide +kernel
theorem dX10_step_14 : decode cX10_step 14 = .ok (.tableswitch 74 0 3 #[30, 41, 52, 63], 30) := by decide +kernel
theorem dX10_step_44 : decode cX10_step 44 = .ok (.aload_n 0, 1) := by decide +kernel
theorem dX10_step_45 : decode cX10_step 45 = .ok (.getfield 27, 3) := by decide +kernel
theorem dX10_step_48 : decode cX10_step 48 = .ok (.getfield 207, 3) := by decide +kernel
theorem dX10_step_51 : decode cX10_step 51 = .ok (.iload 4, 2) := by decide +kernel
theorem dX10_step_53 : decode cX10_step 53 = .ok (.iaload, 1) := by decide +kernel
theorem dX10_step_54 : decode cX10_step 54 = .ok (.ireturn, 1) := by decide +kernel
theorem dX10_step_55 : decode cX10_step 55 = .ok (.aload_n 0, 1) := by decide +kernel
theorem dX10_step_56 : decode cX10_step 56 = .ok (.getfield 27, 3) := by decide +kernel
theorem dX10_step_59 : decode cX10_step 59 = .ok (.getfield 210, 3) := by decide +kernel
theorem dX10_step_62 : decode cX10_step 62 = .ok (.iload 4, 2) := by decide +kernel
theorem dX10_step_64 : decode cX10_step 64 = .ok (.iaload, 1) := by decide +kernel
theorem dX10_step_65 : decode cX10_step 65 = .ok (.ireturn, 1) := by decide +kernel
theorem dX10_step_66 : decode cX10_step 66 = .ok (.aload_n 0, 1) := by decide +kernel
theorem dX10_step_67 : decode cX10_step 67 = .ok (.getfield 46, 3) := by decide +kernel
theorem dX10_step_70 : decode cX10_step 70 = .ok (.getfield 213, 3) := by decide +kernel
theorem dX10_step_73 : decode cX10_step 73 = .ok (.iload 4, 2) := by decide +kernel
theorem dX10_step_75 : decode cX10_step 75 = .ok (.iaload, 1) := by decide +kernel
theorem dX10_step_76 : decode cX10_step 76 = .ok (.ireturn, 1) := by decide +kernel
theorem dX10_step_77 : decode cX10_step 77 = .ok (.aload_n 0, 1) := by decide +kernel
theorem dX10_step_78 : decode cX10_step 78 = .ok (.getfield 27, 3) := by decide +kernel
theorem dX10_step_81 : decode cX10_step 81 = .ok (.getfield 216, 3) := by decide +kernel
theorem dX10_step_84 : decode cX10_step 84 = .ok (.iload 4, 2) := by decide +kernel
theorem dX10_step_86 : decode cX10_step 86 = .ok (.iaload, 1) := by decide +kernel
theorem dX10_step_87 : decode cX10_step 87 = .ok (.ireturn, 1) := by decide +kernel
theorem dX10_step_88 : decode cX10_step 88 = .ok (.new 156, 3) := by decide +kernel
theorem dX10_step_91 : decode cX10_step 91 = .ok (.dup, 1) := by decide +kernel
theorem dX10_step_92 : decode cX10_step 92 = .ok (.ldc 219, 2) := by decide +kernel
theorem dX10_step_94 : decode cX10_step 94 = .ok (.invokespecial 160, 3) := by decide +kernel
theorem dX10_step_97 : decode cX10_step 97 = .ok (.athrow, 1) := by decide +kernel
theorem dX10_where_0 : decode cX10_where 0 = .ok (.aload_n 0, 1) := by decide +kernel
theorem dX10_where_1 : decode cX10_where 1 = .ok (.iload_n 1, 1) := by decide +kernel
theorem dX10_where_2 : decode cX10_where 2 = .ok (.invokevirtual 167, 3) := by decide +kernel
theorem dX10_where_5 : decode cX10_where 5 = .ok (.iload_n 2, 1) := by decide +kernel
theorem dX10_where_6 : decode cX10_where 6 = .ok (.iconst (-1), 1) := by decide +kernel
theorem dX10_where_7 : decode cX10_where 7 = .ok (.if_icmp .eq 9, 3) := by decide +kernel
theorem dX10_where_10 : decode cX10_where 10 = .ok (.aload_n 0, 1) := by decide +kernel
theorem dX10_where_11 : decode cX10_where 11 = .ok (.iload_n 1, 1) := by decide +kernel
theorem dX10_where_12 : decode cX10_where 12 = .ok (.iload_n 2, 1) := by decide +kernel
theorem dX10_where_13 : decode cX10_where 13 = .ok (.invokevirtual 200, 3) := by decide +kernel
theorem dX10_where_16 : decode cX10_where 16 = .ok (.aload_n 0, 1) := by decide +kernel
theorem dX10_where_17 : decode cX10_where 17 = .ok (.iload_n 3, 1) := by decide +kernel
theorem dX10_where_18 : decode cX10_where 18 = .ok (.iconst 2, 1) := by decide +kernel
theorem dX10_where_19 : decode cX10_where 19 = .ok (.invokevirtual 221, 3) := by decide +kernel
theorem dX10_where_22 : decode cX10_where 22 = .ok (.aload_n 0, 1) := by decide +kernel
theorem dX10_where_23 : decode cX10_where 23 = .ok (.iload 4, 2) := by decide +kernel
theorem dX10_where_25 : decode cX10_where 25 = .ok (.iconst 3, 1) := by decide +kernel
theorem dX10_where_26 : decode cX10_where 26 = .ok (.invokevirtual 221, 3) := by decide +kernel
theorem dX10_where_29 : decode cX10_where 29 = .ok (.aload_n 0, 1) := by decide +kernel
theorem dX10_where_30 : decode cX10_where 30 = .ok (.getfield 59, 3) := by decide +kernel
theorem dX10_where_33 : decode cX10_where 33 = .ok (.aload_n 0, 1) := by decide +kernel
theorem dX10_where_34 : decode cX10_where 34 = .ok (.getfield 46, 3) := by decide +kernel
theorem dX10_where_37 : decode cX10_where 37 = .ok (.iload_n 1, 1) := by decide +kernel
theorem dX10_where_38 : decode cX10_where 38 = .ok (.iconst 0, 1) := by decide +kernel
theorem dX10_where_39 : decode cX10_where 39 = .ok (.invokevirtual 191, 3) := by decide +kernel
theorem dX10_where_42 : decode cX10_where 42 = .ok (.aload_n 0, 1) := by decide +kernel
theorem dX10_where_43 : decode cX10_where 43 = .ok (.getfield 59, 3) := by decide +kernel
theorem dX10_where_46 : decode cX10_where 46 = .ok (.getfield 224, 3) := by decide +kernel
theorem dX10_where_49 : decode cX10_where 49 = .ok (.aload_n 0, 1) := by decide +kernel
theorem dX10_where_50 : decode cX10_where 50 = .ok (.getfield 27, 3) := by decide +kernel
theorem dX10_where_53 : decode cX10_where 53 = .ok (.getfield 133, 3) := by decide +kernel
theorem dX10_where_56 : decode cX10_where 56 = .ok (.invokevirtual 228, 3) := by decide +kernel
theorem dX10_where_59 : decode cX10_where 59 = .ok (.aload_n 0, 1) := by decide +kernel
theorem dX10_where_60 : decode cX10_where 60 = .ok (.getfield 59, 3) := by decide +kernel
theorem dX10_where_63 : decode cX10_where 63 = .ok (.iconst 0, 1) := by decide +kernel
theorem dX10_where_64 : decode cX10_where 64 = .ok (.iload_n 2, 1) := by decide +kernel
theorem dX10_where_65 : decode cX10_where 65 = .ok (.iconst 1, 1) := by decide +kernel
theorem dX10_where_66 : decode cX10_where 66 = .ok (.iadd, 1) := by decide +kernel
theorem dX10_where_67 : decode cX10_where 67 = .ok (.invokevirtual 232, 3) := by decide +kernel
theorem dX10_where_70 : decode cX10_where 70 = .ok (.iconst (-1), 1) := by decide +kernel
theorem dX10_where_71 : decode cX10_where 71 = .ok (.if_icmp .eq 13, 3) := by decide +kernel
theorem dX10_where_74 : decode cX10_where 74 = .ok (.new 156, 3) := by decide +kernel
theorem dX10_where_77 : decode cX10_where 77 = .ok (.dup, 1) := by decide +kernel
theorem dX10_where_78 : decode cX10_where 78 = .ok (.ldc 235, 2) := by decide +kernel
theorem dX10_where_80 : decode cX10_where 80 = .ok (.invokespecial 160, 3) := by decide +kernel
theorem dX10_where_83 : decode cX10_where 83 = .ok (.athrow, 1) := by decide +kernel
theorem dX10_where_84 : decode cX10_where 84 = .ok (.iload 4, 2) := by decide +kernel
theorem dX10_where_86 : decode cX10_where 86 = .ok (.ifCond .ne 16, 3) := by decide +kernel
theorem dX10_where_89 : decode cX10_where 89 = .ok (.aload_n 0, 1) := by decide +kernel
theorem dX10_where_90 : decode cX10_where 90 = .ok (.getfield 59, 3) := by decide +kernel
theorem dX10_where_93 : decode cX10_where 93 = .ok (.getfield 224, 3) := by decide +kernel
theorem dX10_where_96 : decode cX10_where 96 = .ok (.getfield 237, 3) := by decide +kernel
theorem dX10_where_99 : decode cX10_where 99 = .ok (.iload_n 3, 1) := by decide +kernel
theorem dX10_where_100 : decode cX10_where 100 = .ok (.iaload, 1) := by decide +kernel
theorem dX10_where_101 : decode cX10_where 101 = .ok (.ireturn, 1) := by decide +kernel
theorem dX10_where_102 : decode cX10_where 102 = .ok (.iload 4, 2) := by decide +kernel
theorem dX10_where_104 : decode cX10_where 104 = .ok (.iconst 1, 1) := by decide +kernel
theorem dX10_where_105 : decode cX10_where 105 = .ok (.if_icmp .ne 18, 3) := by decide +kernel
theorem dX10_where_108 : decode cX10_where 108 = .ok (.aload_n 0, 1) := by decide +kernel
theorem dX10_where_109 : decode cX10_where 109 = .ok (.getfield 59, 3) := by decide +kernel
theorem dX10_where_112 : decode cX10_where 112 = .ok (.getfield 224, 3) := by decide +kernel
theorem dX10_where_115 : decode cX10_where 115 = .ok (.getfield 240, 3) := by decide +kernel
theorem dX10_where_118 : decode cX10_where 118 = .ok (.iload_n 3, 1) := by decide +kernel
theorem dX10_where_119 : decode cX10_where 119 = .ok (.iaload, 1) := by decide +kernel
theorem dX10_where_120 : decode cX10_where 120 = .ok (.goto 15, 3) := by decide +kernel
theorem dX10_where_123 : decode cX10_where 123 = .ok (.aload_n 0, 1) := by decide +kernel
theorem dX10_where_124 : decode cX10_where 124 = .ok (.getfield 59, 3) := by decide +kernel
theorem dX10_where_127 : decode cX10_where 127 = .ok (.getfield 224, 3) := by decide +kernel
theorem dX10_where_130 : decode cX10_where 130 = .ok (.getfield 243, 3) := by decide +kernel
theorem dX10_where_133 : decode cX10_where 133 = .ok (.iload_n 3, 1) := by decide +kernel
theorem dX10_where_134 : decode cX10_where 134 = .ok (.iaload, 1) := by decide +kernel
theorem dX10_where_135 : decode cX10_where 135 = .ok (.ireturn, 1) := by decide +kernel
theorem dX10_bound_0 : decode cX10_bound 0 = .ok (.aload_n 0, 1) := by decide +kernel
theorem dX10_bound_1 : decode cX10_bound 1 = .ok (.iload_n 1, 1) := by decide +kernel
theorem dX10_bound_2 : decode cX10_bound 2 = .ok (.invokevirtual 161, 3) := by decide +kernel
theorem dX10_bound_5 : decode cX10_bound 5 = .ok (.aload_n 0, 1) := by decide +kernel
theorem dX10_bound_6 : decode cX10_bound 6 = .ok (.iload_n 2, 1) := by decide +kernel
theorem dX10_bound_7 : decode cX10_bound 7 = .ok (.bipush 8, 2) := by decide +kernel
theorem dX10_bound_9 : decode cX10_bound 9 = .ok (.invokevirtual 221, 3) := by decide +kernel
theorem dX10_bound_12 : decode cX10_bound 12 = .ok (.aload_n 0, 1) := by decide +kernel
theorem dX10_bound_13 : decode cX10_bound 13 = .ok (.getfield 77, 3) := by decide +kernel
theorem dX10_bound_16 : decode cX10_bound 16 = .ok (.aload_n 0, 1) := by decide +kernel
theorem dX10_bound_17 : decode cX10_bound 17 = .ok (.getfield 59, 3) := by decide +kernel
theorem dX10_bound_20 : decode cX10_bound 20 = .ok (.aload_n 0, 1) := by decide +kernel
theorem dX10_bound_21 : decode cX10_bound 21 = .ok (.getfield 46, 3) := by decide +kernel
theorem dX10_bound_24 : decode cX10_bound 24 = .ok (.iconst 0, 1) := by decide +kernel
theorem dX10_bound_25 : decode cX10_bound 25 = .ok (.invokevirtual 139, 3) := by decide +kernel
theorem dX10_bound_28 : decode cX10_bound 28 = .ok (.invokevirtual 143, 3) := by decide +kernel
theorem dX10_bound_31 : decode cX10_bound 31 = .ok (.aload_n 0, 1) := by decide +kernel
theorem dX10_bound_32 : decode cX10_bound 32 = .ok (.getfield 77, 3) := by decide +kernel
theorem dX10_bound_35 : decode cX10_bound 35 = .ok (.iload_n 1, 1) := by decide +kernel
theorem dX10_bound_36 : decode cX10_bound 36 = .ok (.iload_n 2, 1) := by decide +kernel
theorem dX10_bound_37 : decode cX10_bound 37 = .ok (.invokevirtual 246, 3) := by decide +kernel
theorem dX10_bound_40 : decode cX10_bound 40 = .ok (.ireturn, 1) := by decide +kernel
theorem dX10_clauses_0 : decode cX10_clauses 0 = .ok (.aload_n 0, 1) := by decide +kernel
theorem dX10_clauses_1 : decode cX10_clauses 1 = .ok (.iload_n 1, 1) := by decide +kernel
theorem dX10_clauses_2 : decode cX10_clauses 2 = .ok (.invokevirtual 161, 3) := by decide +kernel
theorem dX10_clauses_5 : decode cX10_clauses 5 = .ok (.aload_n 0, 1) := by decide +kernel
theorem dX10_clauses_6 : decode cX10_clauses 6 = .ok (.iload_n 2, 1) := by decide +kernel
theorem dX10_clauses_7 : decode cX10_clauses 7 = .ok (.iconst 3, 1) := by decide +kernel
theorem dX10_clauses_8 : decode cX10_clauses 8 = .ok (.invokevirtual 221, 3) := by decide +kernel
theorem dX10_clauses_11 : decode cX10_clauses 11 = .ok (.aload_n 0, 1) := by decide +kernel
theorem dX10_clauses_12 : decode cX10_clauses 12 = .ok (.getfield 77, 3) := by decide +kernel
theorem dX10_clauses_15 : decode cX10_clauses 15 = .ok (.iload_n 1, 1) := by decide +kernel
theorem dX10_clauses_16 : decode cX10_clauses 16 = .ok (.iload_n 2, 1) := by decide +kernel
theorem dX10_clauses_17 : decode cX10_clauses 17 = .ok (.aload_n 0, 1) := by decide +kernel
theorem dX10_clauses_18 : decode cX10_clauses 18 = .ok (.getfield 59, 3) := by decide +kernel
theorem dX10_clauses_21 : decode cX10_clauses 21 = .ok (.aload_n 0, 1) := by decide +kernel
theorem dX10_clauses_22 : decode cX10_clauses 22 = .ok (.getfield 46, 3) := by decide +kernel
theorem dX10_clauses_25 : decode cX10_clauses 25 = .ok (.iconst 0, 1) := by decide +kernel
theorem dX10_clauses_26 : decode cX10_clauses 26 = .ok (.invokevirtual 139, 3) := by decide +kernel
theorem dX10_clauses_29 : decode cX10_clauses 29 = .ok (.invokevirtual 249, 3) := by decide +kernel
theorem dX10_clauses_32 : decode cX10_clauses 32 = .ok (.ireturn, 1) := by decide +kernel
theorem dX10_done_0 : decode cX10_done 0 = .ok (.aload_n 0, 1) := by decide +kernel
theorem dX10_done_1 : decode cX10_done 1 = .ok (.iload_n 1, 1) := by decide +kernel
theorem dX10_done_2 : decode cX10_done 2 = .ok (.invokevirtual 161, 3) := by decide +kernel
theorem dX10_done_5 : decode cX10_done 5 = .ok (.aload_n 0, 1) := by decide +kernel
theorem dX10_done_6 : decode cX10_done 6 = .ok (.iload_n 2, 1) := by decide +kernel
theorem dX10_done_7 : decode cX10_done 7 = .ok (.bipush 8, 2) := by decide +kernel
theorem dX10_done_9 : decode cX10_done 9 = .ok (.invokevirtual 221, 3) := by decide +kernel
theorem dX10_done_12 : decode cX10_done 12 = .ok (.aload_n 0, 1) := by decide +kernel
theorem dX10_done_13 : decode cX10_done 13 = .ok (.iload_n 3, 1) := by decide +kernel
theorem dX10_done_14 : decode cX10_done 14 = .ok (.iconst 2, 1) := by decide +kernel
theorem dX10_done_15 : decode cX10_done 15 = .ok (.invokevirtual 221, 3) := by decide +kernel
theorem dX10_done_18 : decode cX10_done 18 = .ok (.iload_n 3, 1) := by decide +kernel
theorem dX10_done_19 : decode cX10_done 19 = .ok (.ifCond .ne 18, 3) := by decide +kernel
theorem dX10_done_22 : decode cX10_done 22 = .ok (.aload_n 0, 1) := by decide +kernel
theorem dX10_done_23 : decode cX10_done 23 = .ok (.getfield 46, 3) := by decide +kernel
theorem dX10_done_26 : decode cX10_done 26 = .ok (.getfield 253, 3) := by decide +kernel
theorem dX10_done_29 : decode cX10_done 29 = .ok (.iload_n 1, 1) := by decide +kernel
theorem dX10_done_30 : decode cX10_done 30 = .ok (.bipush 8, 2) := by decide +kernel
theorem dX10_done_32 : decode cX10_done 32 = .ok (.imul, 1) := by decide +kernel
theorem dX10_done_33 : decode cX10_done 33 = .ok (.iload_n 2, 1) := by decide +kernel
theorem dX10_done_34 : decode cX10_done 34 = .ok (.iadd, 1) := by decide +kernel
theorem dX10_done_35 : decode cX10_done 35 = .ok (.iaload, 1) := by decide +kernel
theorem dX10_done_36 : decode cX10_done 36 = .ok (.ireturn, 1) := by decide +kernel
theorem dX10_done_37 : decode cX10_done 37 = .ok (.aload_n 0, 1) := by decide +kernel
theorem dX10_done_38 : decode cX10_done 38 = .ok (.getfield 77, 3) := by decide +kernel
theorem dX10_done_41 : decode cX10_done 41 = .ok (.aload_n 0, 1) := by decide +kernel
theorem dX10_done_42 : decode cX10_done 42 = .ok (.getfield 59, 3) := by decide +kernel
theorem dX10_done_45 : decode cX10_done 45 = .ok (.aload_n 0, 1) := by decide +kernel
theorem dX10_done_46 : decode cX10_done 46 = .ok (.getfield 46, 3) := by decide +kernel
theorem dX10_done_49 : decode cX10_done 49 = .ok (.iconst 0, 1) := by decide +kernel
theorem dX10_done_50 : decode cX10_done 50 = .ok (.invokevirtual 139, 3) := by decide +kernel
theorem dX10_done_53 : decode cX10_done 53 = .ok (.invokevirtual 143, 3) := by decide +kernel
theorem dX10_done_56 : decode cX10_done 56 = .ok (.aload_n 0, 1) := by decide +kernel
theorem dX10_done_57 : decode cX10_done 57 = .ok (.getfield 77, 3) := by decide +kernel
theorem dX10_done_60 : decode cX10_done 60 = .ok (.iload_n 1, 1) := by decide +kernel
theorem dX10_done_61 : decode cX10_done 61 = .ok (.iload_n 2, 1) := by decide +kernel
theorem dX10_done_62 : decode cX10_done 62 = .ok (.iconst 0, 1) := by decide +kernel
theorem dX10_done_63 : decode cX10_done 63 = .ok (.invokevirtual 256, 3) := by decide +kernel
theorem dX10_done_66 : decode cX10_done 66 = .ok (.ifCond .eq 7, 3) := by decide +kernel
theorem dX10_done_69 : decode cX10_done 69 = .ok (.iconst 1, 1) := by decide +kernel
theorem dX10_done_70 : decode cX10_done 70 = .ok (.goto 4, 3) := by decide +kernel
theorem dX10_done_73 : decode cX10_done 73 = .ok (.iconst 0, 1) := by decide +kernel
theorem dX10_done_74 : decode cX10_done 74 = .ok (.ireturn, 1) := by decide +kernel
theorem dX10_years_0 : decode cX10_years 0 = .ok (.iload_n 1, 1) := by decide +kernel
theorem dX10_years_1 : decode cX10_years 1 = .ok (.iconst 1, 1) := by decide +kernel
theorem dX10_years_2 : decode cX10_years 2 = .ok (.if_icmp .lt 24, 3) := by decide +kernel
theorem dX10_years_5 : decode cX10_years 5 = .ok (.iload_n 1, 1) := by decide +kernel
theorem dX10_years_6 : decode cX10_years 6 = .ok (.bipush 50, 2) := by decide +kernel
theorem dX10_years_8 : decode cX10_years 8 = .ok (.if_icmp .gt 18, 3) := by decide +kernel
theorem dX10_years_11 : decode cX10_years 11 = .ok (.aload_n 0, 1) := by decide +kernel
theorem dX10_years_12 : decode cX10_years 12 = .ok (.getfield 46, 3) := by decide +kernel
theorem dX10_years_15 : decode cX10_years 15 = .ok (.getfield 136, 3) := by decide +kernel
theorem dX10_years_18 : decode cX10_years 18 = .ok (.iload_n 1, 1) := by decide +kernel
theorem dX10_years_19 : decode cX10_years 19 = .ok (.iadd, 1) := by decide +kernel
theorem dX10_years_20 : decode cX10_years 20 = .ok (.sipush 999, 3) := by decide +kernel
theorem dX10_years_23 : decode cX10_years 23 = .ok (.if_icmp .le 9, 3) := by decide +kernel
theorem dX10_years_26 : decode cX10_years 26 = .ok (.aload_n 0, 1) := by decide +kernel
theorem dX10_years_27 : decode cX10_years 27 = .ok (.iconst 1, 1) := by decide +kernel
theorem dX10_years_28 : decode cX10_years 28 = .ok (.invokevirtual 260, 3) := by decide +kernel
theorem dX10_years_31 : decode cX10_years 31 = .ok (.ireturn, 1) := by decide +kernel
theorem dX10_years_32 : decode cX10_years 32 = .ok (.aload_n 0, 1) := by decide +kernel
theorem dX10_years_33 : decode cX10_years 33 = .ok (.getfield 46, 3) := by decide +kernel
theorem dX10_years_36 : decode cX10_years 36 = .ok (.dup, 1) := by decide +kernel
theorem dX10_years_37 : decode cX10_years 37 = .ok (.getfield 136, 3) := by decide +kernel
theorem dX10_years_40 : decode cX10_years 40 = .ok (.iload_n 1, 1) := by decide +kernel
theorem dX10_years_41 : decode cX10_years 41 = .ok (.iadd, 1) := by decide +kernel
theorem dX10_years_42 : decode cX10_years 42 = .ok (.putfield 136, 3) := by decide +kernel
theorem dX10_years_45 : decode cX10_years 45 = .ok (.aload_n 0, 1) := by decide +kernel
theorem dX10_years_46 : decode cX10_years 46 = .ok (.getfield 46, 3) := by decide +kernel
theorem dX10_years_49 : decode cX10_years 49 = .ok (.iconst 0, 1) := by decide +kernel
theorem dX10_years_50 : decode cX10_years 50 = .ok (.iload_n 1, 1) := by decide +kernel
theorem dX10_years_51 : decode cX10_years 51 = .ok (.iconst 0, 1) := by decide +kernel
theorem dX10_years_52 : decode cX10_years 52 = .ok (.iconst 0, 1) := by decide +kernel
theorem dX10_years_53 : decode cX10_years 53 = .ok (.invokevirtual 263, 3) := by decide +kernel
theorem dX10_years_56 : decode cX10_years 56 = .ok (.aload_n 0, 1) := by decide +kernel
theorem dX10_years_57 : decode cX10_years 57 = .ok (.getfield 46, 3) := by decide +kernel
theorem dX10_years_60 : decode cX10_years 60 = .ok (.getfield 136, 3) := by decide +kernel
theorem dX10_years_63 : decode cX10_years 63 = .ok (.ireturn, 1) := by decide +kernel
theorem dX10_again_0 : decode cX10_again 0 = .ok (.aload_n 0, 1) := by decide +kernel
theorem dX10_again_1 : decode cX10_again 1 = .ok (.iload_n 1, 1) := by decide +kernel
theorem dX10_again_2 : decode cX10_again 2 = .ok (.invokevirtual 167, 3) := by decide +kernel
theorem dX10_again_5 : decode cX10_again 5 = .ok (.aload_n 0, 1) := by decide +kernel
theorem dX10_again_6 : decode cX10_again 6 = .ok (.getfield 46, 3) := by decide +kernel
theorem dX10_again_9 : decode cX10_again 9 = .ok (.iload_n 1, 1) := by decide +kernel
theorem dX10_again_10 : decode cX10_again 10 = .ok (.invokevirtual 180, 3) := by decide +kernel
theorem dX10_again_13 : decode cX10_again 13 = .ok (.istore_n 2, 1) := by decide +kernel
theorem dX10_again_14 : decode cX10_again 14 = .ok (.aload_n 0, 1) := by decide +kernel
theorem dX10_again_15 : decode cX10_again 15 = .ok (.getfield 46, 3) := by decide +kernel
theorem dX10_again_18 : decode cX10_again 18 = .ok (.iconst 1, 1) := by decide +kernel
theorem dX10_again_19 : decode cX10_again 19 = .ok (.iload_n 1, 1) := by decide +kernel
theorem dX10_again_20 : decode cX10_again 20 = .ok (.aload_n 0, 1) := by decide +kernel
theorem dX10_again_21 : decode cX10_again 21 = .ok (.getfield 46, 3) := by decide +kernel
theorem dX10_again_24 : decode cX10_again 24 = .ok (.getfield 184, 3) := by decide +kernel
theorem dX10_again_27 : decode cX10_again 27 = .ok (.iload_n 1, 1) := by decide +kernel
theorem dX10_again_28 : decode cX10_again 28 = .ok (.iaload, 1) := by decide +kernel
theorem dX10_again_29 : decode cX10_again 29 = .ok (.aload_n 0, 1) := by decide +kernel
theorem dX10_again_30 : decode cX10_again 30 = .ok (.getfield 46, 3) := by decide +kernel
theorem dX10_again_33 : decode cX10_again 33 = .ok (.getfield 267, 3) := by decide +kernel
theorem dX10_again_36 : decode cX10_again 36 = .ok (.iload_n 1, 1) := by decide +kernel
theorem dX10_again_37 : decode cX10_again 37 = .ok (.iaload, 1) := by decide +kernel
theorem dX10_again_38 : decode cX10_again 38 = .ok (.invokevirtual 263, 3) := by decide +kernel
theorem dX10_again_41 : decode cX10_again 41 = .ok (.aload_n 0, 1) := by decide +kernel
theorem dX10_again_42 : decode cX10_again 42 = .ok (.getfield 46, 3) := by decide +kernel
theorem dX10_again_45 : decode cX10_again 45 = .ok (.iload_n 1, 1) := by decide +kernel
theorem dX10_again_46 : decode cX10_again 46 = .ok (.invokevirtual 270, 3) := by decide +kernel
theorem dX10_again_49 : decode cX10_again 49 = .ok (.iload_n 2, 1) := by decide +kernel
theorem dX10_again_50 : decode cX10_again 50 = .ok (.ireturn, 1) := by decide +kernel
theorem dX10_breaks_0 : decode cX10_breaks 0 = .ok (.aload_n 0, 1) := by decide +kernel
theorem dX10_breaks_1 : decode cX10_breaks 1 = .ok (.iload_n 1, 1) := by decide +kernel
theorem dX10_breaks_2 : decode cX10_breaks 2 = .ok (.invokevirtual 167, 3) := by decide +kernel
theorem dX10_breaks_5 : decode cX10_breaks 5 = .ok (.aload_n 0, 1) := by decide +kernel
theorem dX10_breaks_6 : decode cX10_breaks 6 = .ok (.getfield 46, 3) := by decide +kernel
theorem dX10_breaks_9 : decode cX10_breaks 9 = .ok (.getfield 184, 3) := by decide +kernel
theorem dX10_breaks_12 : decode cX10_breaks 12 = .ok (.iload_n 1, 1) := by decide +kernel
theorem dX10_breaks_13 : decode cX10_breaks 13 = .ok (.iaload, 1) := by decide +kernel
theorem dX10_breaks_14 : decode cX10_breaks 14 = .ok (.ifCond .eq 11, 3) := by decide +kernel
theorem dX10_breaks_17 : decode cX10_breaks 17 = .ok (.aload_n 0, 1) := by decide +kernel
theorem dX10_breaks_18 : decode cX10_breaks 18 = .ok (.iconst 1, 1) := by decide +kernel
theorem dX10_breaks_19 : decode cX10_breaks 19 = .ok (.invokevirtual 260, 3) := by decide +kernel
theorem dX10_breaks_22 : decode cX10_breaks 22 = .ok (.pop, 1) := by decide +kernel
theorem dX10_breaks_23 : decode cX10_breaks 23 = .ok (.iconst 0, 1) := by decide +kernel
theorem dX10_breaks_24 : decode cX10_breaks 24 = .ok (.ireturn, 1) := by decide +kernel
theorem dX10_breaks_25 : decode cX10_breaks 25 = .ok (.aload_n 0, 1) := by decide +kernel
theorem dX10_breaks_26 : decode cX10_breaks 26 = .ok (.getfield 46, 3) := by decide +kernel
theorem dX10_breaks_29 : decode cX10_breaks 29 = .ok (.getfield 184, 3) := by decide +kernel
theorem dX10_breaks_32 : decode cX10_breaks 32 = .ok (.iload_n 1, 1) := by decide +kernel
theorem dX10_breaks_33 : decode cX10_breaks 33 = .ok (.iconst 1, 1) := by decide +kernel
theorem dX10_breaks_34 : decode cX10_breaks 34 = .ok (.iastore, 1) := by decide +kernel
theorem dX10_breaks_35 : decode cX10_breaks 35 = .ok (.aload_n 0, 1) := by decide +kernel
theorem dX10_breaks_36 : decode cX10_breaks 36 = .ok (.getfield 46, 3) := by decide +kernel
theorem dX10_breaks_39 : decode cX10_breaks 39 = .ok (.iconst 2, 1) := by decide +kernel
theorem dX10_breaks_40 : decode cX10_breaks 40 = .ok (.iload_n 1, 1) := by decide +kernel
theorem dX10_breaks_41 : decode cX10_breaks 41 = .ok (.iconst 0, 1) := by decide +kernel
theorem dX10_breaks_42 : decode cX10_breaks 42 = .ok (.iconst 0, 1) := by decide +kernel
theorem dX10_breaks_43 : decode cX10_breaks 43 = .ok (.invokevirtual 263, 3) := by decide +kernel
theorem dX10_breaks_46 : decode cX10_breaks 46 = .ok (.iconst 1, 1) := by decide +kernel
theorem dX10_breaks_47 : decode cX10_breaks 47 = .ok (.ireturn, 1) := by decide +kernel
theorem dX10_stumble_0 : decode cX10_stumble 0 = .ok (.aload_n 0, 1) := by decide +kernel
theorem dX10_stumble_1 : decode cX10_stumble 1 = .ok (.iload_n 1, 1) := by decide +kernel
theorem dX10_stumble_2 : decode cX10_stumble 2 = .ok (.iload_n 2, 1) := by decide +kernel
theorem dX10_stumble_3 : decode cX10_stumble 3 = .ok (.invokevirtual 200, 3) := by decide +kernel
theorem dX10_stumble_6 : decode cX10_stumble 6 = .ok (.iload_n 3, 1) := by decide +kernel
theorem dX10_stumble_7 : decode cX10_stumble 7 = .ok (.ifCond .lt 21, 3) := by decide +kernel
theorem dX10_stumble_10 : decode cX10_stumble 10 = .ok (.iload_n 3, 1) := by decide +kernel
theorem dX10_stumble_11 : decode cX10_stumble 11 = .ok (.bipush 9, 2) := by decide +kernel
theorem dX10_stumble_13 : decode cX10_stumble 13 = .ok (.if_icmp .gt 15, 3) := by decide +kernel
theorem dX10_stumble_16 : decode cX10_stumble 16 = .ok (.aload_n 0, 1) := by decide +kernel
theorem dX10_stumble_17 : decode cX10_stumble 17 = .ok (.getfield 27, 3) := by decide +kernel
theorem dX10_stumble_20 : decode cX10_stumble 20 = .ok (.iload_n 1, 1) := by decide +kernel
theorem dX10_stumble_21 : decode cX10_stumble 21 = .ok (.iload_n 2, 1) := by decide +kernel
theorem dX10_stumble_22 : decode cX10_stumble 22 = .ok (.invokevirtual 273, 3) := by decide +kernel
theorem dX10_stumble_25 : decode cX10_stumble 25 = .ok (.ifCond .ne 9, 3) := by decide +kernel
theorem dX10_stumble_28 : decode cX10_stumble 28 = .ok (.aload_n 0, 1) := by decide +kernel
theorem dX10_stumble_29 : decode cX10_stumble 29 = .ok (.iconst 1, 1) := by decide +kernel
theorem dX10_stumble_30 : decode cX10_stumble 30 = .ok (.invokevirtual 260, 3) := by decide +kernel
theorem dX10_stumble_33 : decode cX10_stumble 33 = .ok (.ireturn, 1) := by decide +kernel
theorem dX10_stumble_34 : decode cX10_stumble 34 = .ok (.iload_n 1, 1) := by decide +kernel
theorem dX10_stumble_35 : decode cX10_stumble 35 = .ok (.iload_n 2, 1) := by decide +kernel
theorem dX10_stumble_36 : decode cX10_stumble 36 = .ok (.invokestatic 204, 3) := by decide +kernel
theorem dX10_stumble_39 : decode cX10_stumble 39 = .ok (.istore 4, 2) := by decide +kernel
theorem dX10_stumble_41 : decode cX10_stumble 41 = .ok (.aload_n 0, 1) := by decide +kernel
theorem dX10_stumble_42 : decode cX10_stumble 42 = .ok (.getfield 46, 3) := by decide +kernel
theorem dX10_stumble_45 : decode cX10_stumble 45 = .ok (.getfield 213, 3) := by decide +kernel
theorem dX10_stumble_48 : decode cX10_stumble 48 = .ok (.iload 4, 2) := by decide +kernel
theorem dX10_stumble_50 : decode cX10_stumble 50 = .ok (.iaload, 1) := by decide +kernel
theorem dX10_stumble_51 : decode cX10_stumble 51 = .ok (.istore 5, 2) := by decide +kernel
theorem dX10_stumble_53 : decode cX10_stumble 53 = .ok (.aload_n 0, 1) := by decide +kernel
theorem dX10_stumble_54 : decode cX10_stumble 54 = .ok (.getfield 46, 3) := by decide +kernel
theorem dX10_stumble_57 : decode cX10_stumble 57 = .ok (.getfield 213, 3) := by decide +kernel
theorem dX10_stumble_60 : decode cX10_stumble 60 = .ok (.iload 4, 2) := by decide +kernel
theorem dX10_stumble_62 : decode cX10_stumble 62 = .ok (.iload_n 3, 1) := by decide +kernel
theorem dX10_stumble_63 : decode cX10_stumble 63 = .ok (.iastore, 1) := by decide +kernel
theorem dX10_stumble_64 : decode cX10_stumble 64 = .ok (.aload_n 0, 1) := by decide +kernel
theorem dX10_stumble_65 : decode cX10_stumble 65 = .ok (.getfield 46, 3) := by decide +kernel
theorem dX10_stumble_68 : decode cX10_stumble 68 = .ok (.iconst 3, 1) := by decide +kernel
theorem dX10_stumble_69 : decode cX10_stumble 69 = .ok (.iload_n 1, 1) := by decide +kernel
theorem dX10_stumble_70 : decode cX10_stumble 70 = .ok (.iload_n 2, 1) := by decide +kernel
theorem dX10_stumble_71 : decode cX10_stumble 71 = .ok (.iload 5, 2) := by decide +kernel
theorem dX10_stumble_73 : decode cX10_stumble 73 = .ok (.invokevirtual 263, 3) := by decide +kernel
theorem dX10_stumble_76 : decode cX10_stumble 76 = .ok (.iload 5, 2) := by decide +kernel
theorem dX10_stumble_78 : decode cX10_stumble 78 = .ok (.ireturn, 1) := by decide +kernel
theorem dX10_act_0 : decode cX10_act 0 = .ok (.aload_n 0, 1) := by decide +kernel
theorem dX10_act_1 : decode cX10_act 1 = .ok (.iload_n 1, 1) := by decide +kernel
theorem dX10_act_2 : decode cX10_act 2 = .ok (.invokevirtual 161, 3) := by decide +kernel
theorem dX10_act_5 : decode cX10_act 5 = .ok (.aload_n 0, 1) := by decide +kernel
theorem dX10_act_6 : decode cX10_act 6 = .ok (.iload_n 2, 1) := by decide +kernel
theorem dX10_act_7 : decode cX10_act 7 = .ok (.bipush 8, 2) := by decide +kernel
theorem dX10_act_9 : decode cX10_act 9 = .ok (.invokevirtual 221, 3) := by decide +kernel
theorem dX10_act_12 : decode cX10_act 12 = .ok (.iload_n 1, 1) := by decide +kernel
theorem dX10_act_13 : decode cX10_act 13 = .ok (.bipush 8, 2) := by decide +kernel
theorem dX10_act_15 : decode cX10_act 15 = .ok (.imul, 1) := by decide +kernel
theorem dX10_act_16 : decode cX10_act 16 = .ok (.iload_n 2, 1) := by decide +kernel
theorem dX10_act_17 : decode cX10_act 17 = .ok (.iadd, 1) := by decide +kernel
theorem dX10_act_18 : decode cX10_act 18 = .ok (.istore 4, 2) := by decide +kernel
theorem dX10_act_20 : decode cX10_act 20 = .ok (.iload_n 3, 1) := by decide +kernel
theorem dX10_act_21 : decode cX10_act 21 = .ok (.iconst 1, 1) := by decide +kernel
theorem dX10_act_22 : decode cX10_act 22 = .ok (.if_icmp .lt 27, 3) := by decide +kernel
theorem dX10_act_25 : decode cX10_act 25 = .ok (.iload_n 3, 1) := by decide +kernel
theorem dX10_act_26 : decode cX10_act 26 = .ok (.bipush 99, 2) := by decide +kernel
theorem dX10_act_28 : decode cX10_act 28 = .ok (.if_icmp .gt 21, 3) := by decide +kernel
theorem dX10_act_31 : decode cX10_act 31 = .ok (.aload_n 0, 1) := by decide +kernel
theorem dX10_act_32 : decode cX10_act 32 = .ok (.getfield 46, 3) := by decide +kernel
theorem dX10_act_35 : decode cX10_act 35 = .ok (.getfield 253, 3) := by decide +kernel
theorem dX10_act_38 : decode cX10_act 38 = .ok (.iload 4, 2) := by decide +kernel
theorem dX10_act_40 : decode cX10_act 40 = .ok (.iaload, 1) := by decide +kernel
theorem dX10_act_41 : decode cX10_act 41 = .ok (.iload_n 3, 1) := by decide +kernel
theorem dX10_act_42 : decode cX10_act 42 = .ok (.iadd, 1) := by decide +kernel
theorem dX10_act_43 : decode cX10_act 43 = .ok (.sipush 9999, 3) := by decide +kernel
theorem dX10_act_46 : decode cX10_act 46 = .ok (.if_icmp .le 9, 3) := by decide +kernel
theorem dX10_act_49 : decode cX10_act 49 = .ok (.aload_n 0, 1) := by decide +kernel
theorem dX10_act_50 : decode cX10_act 50 = .ok (.iconst 1, 1) := by decide +kernel
theorem dX10_act_51 : decode cX10_act 51 = .ok (.invokevirtual 260, 3) := by decide +kernel
theorem dX10_act_54 : decode cX10_act 54 = .ok (.ireturn, 1) := by decide +kernel
theorem dX10_act_55 : decode cX10_act 55 = .ok (.aload_n 0, 1) := by decide +kernel
theorem dX10_act_56 : decode cX10_act 56 = .ok (.getfield 46, 3) := by decide +kernel
theorem dX10_act_59 : decode cX10_act 59 = .ok (.getfield 253, 3) := by decide +kernel
theorem dX10_act_62 : decode cX10_act 62 = .ok (.iload 4, 2) := by decide +kernel
theorem dX10_act_64 : decode cX10_act 64 = .ok (.dup2, 1) := by decide +kernel
theorem dX10_act_65 : decode cX10_act 65 = .ok (.iaload, 1) := by decide +kernel
theorem dX10_act_66 : decode cX10_act 66 = .ok (.iload_n 3, 1) := by decide +kernel
theorem dX10_act_67 : decode cX10_act 67 = .ok (.iadd, 1) := by decide +kernel
theorem dX10_act_68 : decode cX10_act 68 = .ok (.iastore, 1) := by decide +kernel
theorem dX10_act_69 : decode cX10_act 69 = .ok (.aload_n 0, 1) := by decide +kernel
theorem dX10_act_70 : decode cX10_act 70 = .ok (.getfield 46, 3) := by decide +kernel
theorem dX10_act_73 : decode cX10_act 73 = .ok (.iconst 4, 1) := by decide +kernel
theorem dX10_act_74 : decode cX10_act 74 = .ok (.iload 4, 2) := by decide +kernel
theorem dX10_act_76 : decode cX10_act 76 = .ok (.iload_n 3, 1) := by decide +kernel
theorem dX10_act_77 : decode cX10_act 77 = .ok (.iconst 0, 1) := by decide +kernel
theorem dX10_act_78 : decode cX10_act 78 = .ok (.invokevirtual 263, 3) := by decide +kernel
theorem dX10_act_81 : decode cX10_act 81 = .ok (.aload_n 0, 1) := by decide +kernel
theorem dX10_act_82 : decode cX10_act 82 = .ok (.getfield 46, 3) := by decide +kernel
theorem dX10_act_85 : decode cX10_act 85 = .ok (.getfield 253, 3) := by decide +kernel
theorem dX10_act_88 : decode cX10_act 88 = .ok (.iload 4, 2) := by decide +kernel
theorem dX10_act_90 : decode cX10_act 90 = .ok (.iaload, 1) := by decide +kernel
theorem dX10_act_91 : decode cX10_act 91 = .ok (.ireturn, 1) := by decide +kernel
theorem dX10_undo_0 : decode cX10_undo 0 = .ok (.aload_n 0, 1) := by decide +kernel
theorem dX10_undo_1 : decode cX10_undo 1 = .ok (.getfield 46, 3) := by decide +kernel
theorem dX10_undo_4 : decode cX10_undo 4 = .ok (.getfield 150, 3) := by decide +kernel
theorem dX10_undo_7 : decode cX10_undo 7 = .ok (.ifCond .ne 5, 3) := by decide +kernel
theorem dX10_undo_10 : decode cX10_undo 10 = .ok (.iconst (-1), 1) := by decide +kernel
theorem dX10_undo_11 : decode cX10_undo 11 = .ok (.ireturn, 1) := by decide +kernel
theorem dX10_undo_12 : decode cX10_undo 12 = .ok (.aload_n 0, 1) := by decide +kernel
theorem dX10_undo_13 : decode cX10_undo 13 = .ok (.getfield 46, 3) := by decide +kernel
theorem dX10_undo_16 : decode cX10_undo 16 = .ok (.invokevirtual 277, 3) := by decide +kernel
theorem dX10_undo_19 : decode cX10_undo 19 = .ok (.aload_n 0, 1) := by decide +kernel
theorem dX10_undo_20 : decode cX10_undo 20 = .ok (.getfield 46, 3) := by decide +kernel
theorem dX10_undo_23 : decode cX10_undo 23 = .ok (.getfield 150, 3) := by decide +kernel
theorem dX10_undo_26 : decode cX10_undo 26 = .ok (.ireturn, 1) := by decide +kernel
theorem dX10_mend_0 : decode cX10_mend 0 = .ok (.aload_n 0, 1) := by decide +kernel
theorem dX10_mend_1 : decode cX10_mend 1 = .ok (.iload_n 1, 1) := by decide +kernel
theorem dX10_mend_2 : decode cX10_mend 2 = .ok (.invokevirtual 167, 3) := by decide +kernel
theorem dX10_mend_5 : decode cX10_mend 5 = .ok (.aload_n 0, 1) := by decide +kernel
theorem dX10_mend_6 : decode cX10_mend 6 = .ok (.iload_n 2, 1) := by decide +kernel
theorem dX10_mend_7 : decode cX10_mend 7 = .ok (.iconst 2, 1) := by decide +kernel
theorem dX10_mend_8 : decode cX10_mend 8 = .ok (.invokevirtual 221, 3) := by decide +kernel
theorem dX10_mend_11 : decode cX10_mend 11 = .ok (.aload_n 0, 1) := by decide +kernel
theorem dX10_mend_12 : decode cX10_mend 12 = .ok (.getfield 59, 3) := by decide +kernel
theorem dX10_mend_15 : decode cX10_mend 15 = .ok (.aload_n 0, 1) := by decide +kernel
theorem dX10_mend_16 : decode cX10_mend 16 = .ok (.getfield 46, 3) := by decide +kernel
theorem dX10_mend_19 : decode cX10_mend 19 = .ok (.iload_n 1, 1) := by decide +kernel
theorem dX10_mend_20 : decode cX10_mend 20 = .ok (.iconst 0, 1) := by decide +kernel
theorem dX10_mend_21 : decode cX10_mend 21 = .ok (.invokevirtual 191, 3) := by decide +kernel
theorem dX10_mend_24 : decode cX10_mend 24 = .ok (.aload_n 0, 1) := by decide +kernel
theorem dX10_mend_25 : decode cX10_mend 25 = .ok (.getfield 59, 3) := by decide +kernel
theorem dX10_mend_28 : decode cX10_mend 28 = .ok (.invokevirtual 280, 3) := by decide +kernel
theorem dX10_mend_31 : decode cX10_mend 31 = .ok (.ifCond .eq 13, 3) := by decide +kernel
theorem dX10_mend_34 : decode cX10_mend 34 = .ok (.iload_n 2, 1) := by decide +kernel
theorem dX10_mend_35 : decode cX10_mend 35 = .ok (.ifCond .ne 7, 3) := by decide +kernel
theorem dX10_mend_38 : decode cX10_mend 38 = .ok (.iconst 0, 1) := by decide +kernel
theorem dX10_mend_39 : decode cX10_mend 39 = .ok (.goto 4, 3) := by decide +kernel
theorem dX10_mend_42 : decode cX10_mend 42 = .ok (.iconst (-1), 1) := by decide +kernel
theorem dX10_mend_43 : decode cX10_mend 43 = .ok (.ireturn, 1) := by decide +kernel
theorem dX10_mend_44 : decode cX10_mend 44 = .ok (.aload_n 0, 1) := by decide +kernel
theorem dX10_mend_45 : decode cX10_mend 45 = .ok (.getfield 68, 3) := by decide +kernel
theorem dX10_mend_48 : decode cX10_mend 48 = .ok (.invokevirtual 284, 3) := by decide +kernel
theorem dX10_mend_51 : decode cX10_mend 51 = .ok (.istore_n 3, 1) := by decide +kernel
theorem dX10_mend_52 : decode cX10_mend 52 = .ok (.iload_n 3, 1) := by decide +kernel
theorem dX10_mend_53 : decode cX10_mend 53 = .ok (.iconst (-1), 1) := by decide +kernel
theorem dX10_mend_54 : decode cX10_mend 54 = .ok (.if_icmp .eq 13, 3) := by decide +kernel
theorem dX10_mend_57 : decode cX10_mend 57 = .ok (.iload_n 2, 1) := by decide +kernel
theorem dX10_mend_58 : decode cX10_mend 58 = .ok (.ifCond .ne 7, 3) := by decide +kernel
theorem dX10_mend_61 : decode cX10_mend 61 = .ok (.iconst 1, 1) := by decide +kernel
theorem dX10_mend_62 : decode cX10_mend 62 = .ok (.goto 4, 3) := by decide +kernel
theorem dX10_mend_65 : decode cX10_mend 65 = .ok (.iload_n 3, 1) := by decide +kernel
theorem dX10_mend_66 : decode cX10_mend 66 = .ok (.ireturn, 1) := by decide +kernel
theorem dX10_mend_67 : decode cX10_mend 67 = .ok (.aload_n 0, 1) := by decide +kernel
theorem dX10_mend_68 : decode cX10_mend 68 = .ok (.getfield 68, 3) := by decide +kernel
theorem dX10_mend_71 : decode cX10_mend 71 = .ok (.invokevirtual 287, 3) := by decide +kernel
theorem dX10_mend_74 : decode cX10_mend 74 = .ok (.istore 4, 2) := by decide +kernel
theorem dX10_mend_76 : decode cX10_mend 76 = .ok (.iload_n 2, 1) := by decide +kernel
theorem dX10_mend_77 : decode cX10_mend 77 = .ok (.ifCond .ne 13, 3) := by decide +kernel
theorem dX10_mend_80 : decode cX10_mend 80 = .ok (.iload 4, 2) := by decide +kernel
theorem dX10_mend_82 : decode cX10_mend 82 = .ok (.iconst (-1), 1) := by decide +kernel
theorem dX10_mend_83 : decode cX10_mend 83 = .ok (.if_icmp .eq 7, 3) := by decide +kernel
theorem dX10_mend_86 : decode cX10_mend 86 = .ok (.iconst 2, 1) := by decide +kernel
theorem dX10_mend_87 : decode cX10_mend 87 = .ok (.goto 5, 3) := by decide +kernel
theorem dX10_mend_90 : decode cX10_mend 90 = .ok (.iload 4, 2) := by decide +kernel
theorem dX10_mend_92 : decode cX10_mend 92 = .ok (.ireturn, 1) := by decide +kernel
theorem dX10_costly_0 : decode cX10_costly 0 = .ok (.aload_n 0, 1) := by decide +kernel
theorem dX10_costly_1 : decode cX10_costly 1 = .ok (.iload_n 1, 1) := by decide +kernel
theorem dX10_costly_2 : decode cX10_costly 2 = .ok (.invokevirtual 167, 3) := by decide +kernel
theorem dX10_costly_5 : decode cX10_costly 5 = .ok (.aload_n 0, 1) := by decide +kernel
theorem dX10_costly_6 : decode cX10_costly 6 = .ok (.iload_n 1, 1) := by decide +kernel
theorem dX10_costly_7 : decode cX10_costly 7 = .ok (.invokevirtual 187, 3) := by decide +kernel
theorem dX10_costly_10 : decode cX10_costly 10 = .ok (.ifCond .ne 5, 3) := by decide +kernel
theorem dX10_costly_13 : decode cX10_costly 13 = .ok (.iconst (-1), 1) := by decide +kernel
theorem dX10_costly_14 : decode cX10_costly 14 = .ok (.ireturn, 1) := by decide +kernel
theorem dX10_costly_15 : decode cX10_costly 15 = .ok (.aload_n 0, 1) := by decide +kernel
theorem dX10_costly_16 : decode cX10_costly 16 = .ok (.getfield 68, 3) := by decide +kernel
theorem dX10_costly_19 : decode cX10_costly 19 = .ok (.invokevirtual 290, 3) := by decide +kernel
theorem dX10_costly_22 : decode cX10_costly 22 = .ok (.ireturn, 1) := by decide +kernel
theorem dX10_later_0 : decode cX10_later 0 = .ok (.iload_n 1, 1) := by decide +kernel
theorem dX10_later_1 : decode cX10_later 1 = .ok (.ifCond .lt 9, 3) := by decide +kernel
theorem dX10_later_4 : decode cX10_later 4 = .ok (.iload_n 1, 1) := by decide +kernel
theorem dX10_later_5 : decode cX10_later 5 = .ok (.bipush 99, 2) := by decide +kernel
theorem dX10_later_7 : decode cX10_later 7 = .ok (.if_icmp .le 14, 3) := by decide +kernel
theorem dX10_later_10 : decode cX10_later 10 = .ok (.new 103, 3) := by decide +kernel
theorem dX10_later_13 : decode cX10_later 13 = .ok (.dup, 1) := by decide +kernel
theorem dX10_later_14 : decode cX10_later 14 = .ok (.ldc_w 293, 3) := by decide +kernel
theorem dX10_later_17 : decode cX10_later 17 = .ok (.invokespecial 107, 3) := by decide +kernel
theorem dX10_later_20 : decode cX10_later 20 = .ok (.athrow, 1) := by decide +kernel
theorem dX10_later_21 : decode cX10_later 21 = .ok (.aload_n 0, 1) := by decide +kernel
theorem dX10_later_22 : decode cX10_later 22 = .ok (.getfield 59, 3) := by decide +kernel
theorem dX10_later_25 : decode cX10_later 25 = .ok (.aload_n 0, 1) := by decide +kernel
theorem dX10_later_26 : decode cX10_later 26 = .ok (.getfield 46, 3) := by decide +kernel
theorem dX10_later_29 : decode cX10_later 29 = .ok (.iload_n 1, 1) := by decide +kernel
theorem dX10_later_30 : decode cX10_later 30 = .ok (.invokevirtual 139, 3) := by decide +kernel
theorem dX10_later_33 : decode cX10_later 33 = .ok (.invokestatic 295, 3) := by decide +kernel
theorem dX10_later_36 : decode cX10_later 36 = .ok (.ireturn, 1) := by decide +kernel
theorem dX10_inTime_0 : decode cX10_inTime 0 = .ok (.aload_n 0, 1) := by decide +kernel
theorem dX10_inTime_1 : decode cX10_inTime 1 = .ok (.iload_n 1, 1) := by decide +kernel
theorem dX10_inTime_2 : decode cX10_inTime 2 = .ok (.invokevirtual 167, 3) := by decide +kernel
theorem dX10_inTime_5 : decode cX10_inTime 5 = .ok (.iload_n 2, 1) := by decide +kernel
theorem dX10_inTime_6 : decode cX10_inTime 6 = .ok (.iconst 1, 1) := by decide +kernel
theorem dX10_inTime_7 : decode cX10_inTime 7 = .ok (.if_icmp .lt 8, 3) := by decide +kernel
theorem dX10_inTime_10 : decode cX10_inTime 10 = .ok (.iload_n 2, 1) := by decide +kernel
theorem dX10_inTime_11 : decode cX10_inTime 11 = .ok (.iconst 4, 1) := by decide +kernel
theorem dX10_inTime_12 : decode cX10_inTime 12 = .ok (.if_icmp .le 14, 3) := by decide +kernel
theorem dX10_inTime_15 : decode cX10_inTime 15 = .ok (.new 103, 3) := by decide +kernel
theorem dX10_inTime_18 : decode cX10_inTime 18 = .ok (.dup, 1) := by decide +kernel
theorem dX10_inTime_19 : decode cX10_inTime 19 = .ok (.ldc_w 300, 3) := by decide +kernel
theorem dX10_inTime_22 : decode cX10_inTime 22 = .ok (.invokespecial 107, 3) := by decide +kernel
theorem dX10_inTime_25 : decode cX10_inTime 25 = .ok (.athrow, 1) := by decide +kernel
theorem dX10_inTime_26 : decode cX10_inTime 26 = .ok (.aload_n 0, 1) := by decide +kernel
theorem dX10_inTime_27 : decode cX10_inTime 27 = .ok (.iload_n 1, 1) := by decide +kernel
theorem dX10_inTime_28 : decode cX10_inTime 28 = .ok (.invokevirtual 187, 3) := by decide +kernel
theorem dX10_inTime_31 : decode cX10_inTime 31 = .ok (.ifCond .eq 15, 3) := by decide +kernel
theorem dX10_inTime_34 : decode cX10_inTime 34 = .ok (.aload_n 0, 1) := by decide +kernel
theorem dX10_inTime_35 : decode cX10_inTime 35 = .ok (.getfield 77, 3) := by decide +kernel
theorem dX10_inTime_38 : decode cX10_inTime 38 = .ok (.iload_n 1, 1) := by decide +kernel
theorem dX10_inTime_39 : decode cX10_inTime 39 = .ok (.iload_n 2, 1) := by decide +kernel
theorem dX10_inTime_40 : decode cX10_inTime 40 = .ok (.invokevirtual 302, 3) := by decide +kernel
theorem dX10_inTime_43 : decode cX10_inTime 43 = .ok (.goto 4, 3) := by decide +kernel
theorem dX10_inTime_46 : decode cX10_inTime 46 = .ok (.iconst 0, 1) := by decide +kernel
theorem dX10_inTime_47 : decode cX10_inTime 47 = .ok (.ireturn, 1) := by decide +kernel
theorem dX10_apart_0 : decode cX10_apart 0 = .ok (.aload_n 0, 1) := by decide +kernel
theorem dX10_apart_1 : decode cX10_apart 1 = .ok (.iload_n 1, 1) := by decide +kernel
theorem dX10_apart_2 : decode cX10_apart 2 = .ok (.invokevirtual 167, 3) := by decide +kernel
theorem dX10_apart_5 : decode cX10_apart 5 = .ok (.aload_n 0, 1) := by decide +kernel
theorem dX10_apart_6 : decode cX10_apart 6 = .ok (.getfield 59, 3) := by decide +kernel
theorem dX10_apart_9 : decode cX10_apart 9 = .ok (.aload_n 0, 1) := by decide +kernel
theorem dX10_apart_10 : decode cX10_apart 10 = .ok (.getfield 46, 3) := by decide +kernel
theorem dX10_apart_13 : decode cX10_apart 13 = .ok (.iload_n 1, 1) := by decide +kernel
theorem dX10_apart_14 : decode cX10_apart 14 = .ok (.iconst 0, 1) := by decide +kernel
theorem dX10_apart_15 : decode cX10_apart 15 = .ok (.invokevirtual 191, 3) := by decide +kernel
theorem dX10_apart_18 : decode cX10_apart 18 = .ok (.aload_n 0, 1) := by decide +kernel
theorem dX10_apart_19 : decode cX10_apart 19 = .ok (.getfield 59, 3) := by decide +kernel
theorem dX10_apart_22 : decode cX10_apart 22 = .ok (.invokevirtual 195, 3) := by decide +kernel
theorem dX10_apart_25 : decode cX10_apart 25 = .ok (.pop, 1) := by decide +kernel
theorem dX10_apart_26 : decode cX10_apart 26 = .ok (.aload_n 0, 1) := by decide +kernel
theorem dX10_apart_27 : decode cX10_apart 27 = .ok (.getfield 59, 3) := by decide +kernel
theorem dX10_apart_30 : decode cX10_apart 30 = .ok (.getfield 224, 3) := by decide +kernel
theorem dX10_apart_33 : decode cX10_apart 33 = .ok (.invokevirtual 305, 3) := by decide +kernel
theorem dX10_apart_36 : decode cX10_apart 36 = .ok (.ireturn, 1) := by decide +kernel
theorem dX10_against_0 : decode cX10_against 0 = .ok (.aload_n 0, 1) := by decide +kernel
theorem dX10_against_1 : decode cX10_against 1 = .ok (.iload_n 1, 1) := by decide +kernel
theorem dX10_against_2 : decode cX10_against 2 = .ok (.iconst 2, 1) := by decide +kernel
theorem dX10_against_3 : decode cX10_against 3 = .ok (.invokevirtual 221, 3) := by decide +kernel
theorem dX10_against_6 : decode cX10_against 6 = .ok (.aload_n 0, 1) := by decide +kernel
theorem dX10_against_7 : decode cX10_against 7 = .ok (.getfield 77, 3) := by decide +kernel
theorem dX10_against_10 : decode cX10_against 10 = .ok (.aload_n 0, 1) := by decide +kernel
theorem dX10_against_11 : decode cX10_against 11 = .ok (.getfield 59, 3) := by decide +kernel
theorem dX10_against_14 : decode cX10_against 14 = .ok (.aload_n 0, 1) := by decide +kernel
theorem dX10_against_15 : decode cX10_against 15 = .ok (.getfield 46, 3) := by decide +kernel
theorem dX10_against_18 : decode cX10_against 18 = .ok (.iconst 0, 1) := by decide +kernel
theorem dX10_against_19 : decode cX10_against 19 = .ok (.invokevirtual 139, 3) := by decide +kernel
theorem dX10_against_22 : decode cX10_against 22 = .ok (.invokevirtual 143, 3) := by decide +kernel
theorem dX10_against_25 : decode cX10_against 25 = .ok (.aload_n 0, 1) := by decide +kernel
theorem dX10_against_26 : decode cX10_against 26 = .ok (.getfield 86, 3) := by decide +kernel
theorem dX10_against_29 : decode cX10_against 29 = .ok (.invokevirtual 308, 3) := by decide +kernel
theorem dX10_against_32 : decode cX10_against 32 = .ok (.iload_n 1, 1) := by decide +kernel
theorem dX10_against_33 : decode cX10_against 33 = .ok (.ifCond .ne 13, 3) := by decide +kernel
theorem dX10_against_36 : decode cX10_against 36 = .ok (.aload_n 0, 1) := by decide +kernel
theorem dX10_against_37 : decode cX10_against 37 = .ok (.getfield 86, 3) := by decide +kernel
theorem dX10_against_40 : decode cX10_against 40 = .ok (.invokevirtual 311, 3) := by decide +kernel
theorem dX10_against_43 : decode cX10_against 43 = .ok (.goto 10, 3) := by decide +kernel
theorem dX10_against_46 : decode cX10_against 46 = .ok (.aload_n 0, 1) := by decide +kernel
theorem dX10_against_47 : decode cX10_against 47 = .ok (.getfield 86, 3) := by decide +kernel
theorem dX10_against_50 : decode cX10_against 50 = .ok (.invokevirtual 314, 3) := by decide +kernel
theorem dX10_against_53 : decode cX10_against 53 = .ok (.ireturn, 1) := by decide +kernel
theorem dX10_help_0 : decode cX10_help 0 = .ok (.aload_n 0, 1) := by decide +kernel
theorem dX10_help_1 : decode cX10_help 1 = .ok (.iload_n 1, 1) := by decide +kernel
theorem dX10_help_2 : decode cX10_help 2 = .ok (.invokevirtual 161, 3) := by decide +kernel
theorem dX10_help_5 : decode cX10_help 5 = .ok (.aload_n 0, 1) := by decide +kernel
theorem dX10_help_6 : decode cX10_help 6 = .ok (.getfield 86, 3) := by decide +kernel
theorem dX10_help_9 : decode cX10_help 9 = .ok (.iload_n 1, 1) := by decide +kernel
theorem dX10_help_10 : decode cX10_help 10 = .ok (.aload_n 0, 1) := by decide +kernel
theorem dX10_help_11 : decode cX10_help 11 = .ok (.getfield 59, 3) := by decide +kernel
theorem dX10_help_14 : decode cX10_help 14 = .ok (.aload_n 0, 1) := by decide +kernel
theorem dX10_help_15 : decode cX10_help 15 = .ok (.getfield 46, 3) := by decide +kernel
theorem dX10_help_18 : decode cX10_help 18 = .ok (.iconst 0, 1) := by decide +kernel
theorem dX10_help_19 : decode cX10_help 19 = .ok (.invokevirtual 139, 3) := by decide +kernel
theorem dX10_help_22 : decode cX10_help 22 = .ok (.invokevirtual 317, 3) := by decide +kernel
theorem dX10_help_25 : decode cX10_help 25 = .ok (.ireturn, 1) := by decide +kernel
theorem dX10_evenings_0 : decode cX10_evenings 0 = .ok (.aload_n 0, 1) := by decide +kernel
theorem dX10_evenings_1 : decode cX10_evenings 1 = .ok (.iload_n 1, 1) := by decide +kernel
theorem dX10_evenings_2 : decode cX10_evenings 2 = .ok (.iconst 3, 1) := by decide +kernel
theorem dX10_evenings_3 : decode cX10_evenings 3 = .ok (.invokevirtual 221, 3) := by decide +kernel
theorem dX10_evenings_6 : decode cX10_evenings 6 = .ok (.aload_n 0, 1) := by decide +kernel
theorem dX10_evenings_7 : decode cX10_evenings 7 = .ok (.getfield 86, 3) := by decide +kernel
theorem dX10_evenings_10 : decode cX10_evenings 10 = .ok (.invokevirtual 320, 3) := by decide +kernel
theorem dX10_evenings_13 : decode cX10_evenings 13 = .ok (.iload_n 1, 1) := by decide +kernel
theorem dX10_evenings_14 : decode cX10_evenings 14 = .ok (.ifCond .ne 11, 3) := by decide +kernel
theorem dX10_evenings_17 : decode cX10_evenings 17 = .ok (.aload_n 0, 1) := by decide +kernel
theorem dX10_evenings_18 : decode cX10_evenings 18 = .ok (.getfield 86, 3) := by decide +kernel
theorem dX10_evenings_21 : decode cX10_evenings 21 = .ok (.invokevirtual 323, 3) := by decide +kernel
theorem dX10_evenings_24 : decode cX10_evenings 24 = .ok (.ireturn, 1) := by decide +kernel
theorem dX10_evenings_25 : decode cX10_evenings 25 = .ok (.aload_n 0, 1) := by decide +kernel
theorem dX10_evenings_26 : decode cX10_evenings 26 = .ok (.getfield 86, 3) := by decide +kernel
theorem dX10_evenings_29 : decode cX10_evenings 29 = .ok (.invokevirtual 326, 3) := by decide +kernel
theorem dX10_evenings_32 : decode cX10_evenings 32 = .ok (.istore_n 2, 1) := by decide +kernel
theorem dX10_evenings_33 : decode cX10_evenings 33 = .ok (.iload_n 1, 1) := by decide +kernel
theorem dX10_evenings_34 : decode cX10_evenings 34 = .ok (.iconst 1, 1) := by decide +kernel
theorem dX10_evenings_35 : decode cX10_evenings 35 = .ok (.if_icmp .ne 10, 3) := by decide +kernel
theorem dX10_evenings_38 : decode cX10_evenings 38 = .ok (.iload_n 2, 1) := by decide +kernel
theorem dX10_evenings_39 : decode cX10_evenings 39 = .ok (.invokestatic 295, 3) := by decide +kernel
theorem dX10_evenings_42 : decode cX10_evenings 42 = .ok (.goto 4, 3) := by decide +kernel
theorem dX10_evenings_45 : decode cX10_evenings 45 = .ok (.iload_n 2, 1) := by decide +kernel
theorem dX10_evenings_46 : decode cX10_evenings 46 = .ok (.ireturn, 1) := by decide +kernel
theorem dX10_see_0 : decode cX10_see 0 = .ok (.aload_n 0, 1) := by decide +kernel
theorem dX10_see_1 : decode cX10_see 1 = .ok (.iload_n 1, 1) := by decide +kernel
theorem dX10_see_2 : decode cX10_see 2 = .ok (.iload_n 2, 1) := by decide +kernel
theorem dX10_see_3 : decode cX10_see 3 = .ok (.invokevirtual 200, 3) := by decide +kernel
theorem dX10_see_6 : decode cX10_see 6 = .ok (.iload_n 3, 1) := by decide +kernel
theorem dX10_see_7 : decode cX10_see 7 = .ok (.ifCond .eq 8, 3) := by decide +kernel
theorem dX10_see_10 : decode cX10_see 10 = .ok (.iload_n 3, 1) := by decide +kernel
theorem dX10_see_11 : decode cX10_see 11 = .ok (.iconst 1, 1) := by decide +kernel
theorem dX10_see_12 : decode cX10_see 12 = .ok (.if_icmp .ne 7, 3) := by decide +kernel
theorem dX10_see_15 : decode cX10_see 15 = .ok (.iconst 1, 1) := by decide +kernel
theorem dX10_see_16 : decode cX10_see 16 = .ok (.goto 4, 3) := by decide +kernel
theorem dX10_see_19 : decode cX10_see 19 = .ok (.iconst 0, 1) := by decide +kernel
theorem dX10_see_20 : decode cX10_see 20 = .ok (.istore 6, 2) := by decide +kernel
theorem dX10_see_22 : decode cX10_see 22 = .ok (.aload_n 0, 1) := by decide +kernel
theorem dX10_see_23 : decode cX10_see 23 = .ok (.getfield 46, 3) := by decide +kernel
theorem dX10_see_26 : decode cX10_see 26 = .ok (.getfield 153, 3) := by decide +kernel
theorem dX10_see_29 : decode cX10_see 29 = .ok (.bipush 8, 2) := by decide +kernel
theorem dX10_see_31 : decode cX10_see 31 = .ok (.if_icmp .ge 22, 3) := by decide +kernel
theorem dX10_see_34 : decode cX10_see 34 = .ok (.iload 6, 2) := by decide +kernel
theorem dX10_see_36 : decode cX10_see 36 = .ok (.ifCond .eq 17, 3) := by decide +kernel
theorem dX10_see_39 : decode cX10_see 39 = .ok (.aload_n 0, 1) := by decide +kernel
theorem dX10_see_40 : decode cX10_see 40 = .ok (.getfield 27, 3) := by decide +kernel
theorem dX10_see_43 : decode cX10_see 43 = .ok (.iload 4, 2) := by decide +kernel
theorem dX10_see_45 : decode cX10_see 45 = .ok (.iload 5, 2) := by decide +kernel
theorem dX10_see_47 : decode cX10_see 47 = .ok (.invokevirtual 329, 3) := by decide +kernel
theorem dX10_see_50 : decode cX10_see 50 = .ok (.ifCond .ne 9, 3) := by decide +kernel
theorem dX10_see_53 : decode cX10_see 53 = .ok (.aload_n 0, 1) := by decide +kernel
theorem dX10_see_54 : decode cX10_see 54 = .ok (.iconst 2, 1) := by decide +kernel
theorem dX10_see_55 : decode cX10_see 55 = .ok (.invokevirtual 260, 3) := by decide +kernel
theorem dX10_see_58 : decode cX10_see 58 = .ok (.ireturn, 1) := by decide +kernel
theorem dX10_see_59 : decode cX10_see 59 = .ok (.aload_n 0, 1) := by decide +kernel
theorem dX10_see_60 : decode cX10_see 60 = .ok (.getfield 46, 3) := by decide +kernel
theorem dX10_see_63 : decode cX10_see 63 = .ok (.iload_n 1, 1) := by decide +kernel
theorem dX10_see_64 : decode cX10_see 64 = .ok (.iload_n 2, 1) := by decide +kernel
theorem dX10_see_65 : decode cX10_see 65 = .ok (.iload_n 3, 1) := by decide +kernel
theorem dX10_see_66 : decode cX10_see 66 = .ok (.iload 4, 2) := by decide +kernel
theorem dX10_see_68 : decode cX10_see 68 = .ok (.iload 5, 2) := by decide +kernel
theorem dX10_see_70 : decode cX10_see 70 = .ok (.invokevirtual 332, 3) := by decide +kernel
theorem dX10_see_73 : decode cX10_see 73 = .ok (.aload_n 0, 1) := by decide +kernel
theorem dX10_see_74 : decode cX10_see 74 = .ok (.getfield 46, 3) := by decide +kernel
theorem dX10_see_77 : decode cX10_see 77 = .ok (.getfield 153, 3) := by decide +kernel
theorem dX10_see_80 : decode cX10_see 80 = .ok (.ireturn, 1) := by decide +kernel
theorem dX10_limp_0 : decode cX10_limp 0 = .ok (.aload_n 0, 1) := by decide +kernel
theorem dX10_limp_1 : decode cX10_limp 1 = .ok (.iload_n 1, 1) := by decide +kernel
theorem dX10_limp_2 : decode cX10_limp 2 = .ok (.invokevirtual 167, 3) := by decide +kernel
theorem dX10_limp_5 : decode cX10_limp 5 = .ok (.aload_n 0, 1) := by decide +kernel
theorem dX10_limp_6 : decode cX10_limp 6 = .ok (.iload_n 2, 1) := by decide +kernel
theorem dX10_limp_7 : decode cX10_limp 7 = .ok (.iconst 3, 1) := by decide +kernel
theorem dX10_limp_8 : decode cX10_limp 8 = .ok (.invokevirtual 221, 3) := by decide +kernel
theorem dX10_limp_11 : decode cX10_limp 11 = .ok (.aload_n 0, 1) := by decide +kernel
theorem dX10_limp_12 : decode cX10_limp 12 = .ok (.getfield 59, 3) := by decide +kernel
theorem dX10_limp_15 : decode cX10_limp 15 = .ok (.aload_n 0, 1) := by decide +kernel
theorem dX10_limp_16 : decode cX10_limp 16 = .ok (.getfield 46, 3) := by decide +kernel
theorem dX10_limp_19 : decode cX10_limp 19 = .ok (.iload_n 1, 1) := by decide +kernel
theorem dX10_limp_20 : decode cX10_limp 20 = .ok (.iconst 0, 1) := by decide +kernel
theorem dX10_limp_21 : decode cX10_limp 21 = .ok (.invokevirtual 191, 3) := by decide +kernel
theorem dX10_limp_24 : decode cX10_limp 24 = .ok (.iload_n 2, 1) := by decide +kernel
theorem dX10_limp_25 : decode cX10_limp 25 = .ok (.iconst 2, 1) := by decide +kernel
theorem dX10_limp_26 : decode cX10_limp 26 = .ok (.if_icmp .ne 23, 3) := by decide +kernel
theorem dX10_limp_29 : decode cX10_limp 29 = .ok (.aload_n 0, 1) := by decide +kernel
theorem dX10_limp_30 : decode cX10_limp 30 = .ok (.getfield 68, 3) := by decide +kernel
theorem dX10_limp_33 : decode cX10_limp 33 = .ok (.aload_n 0, 1) := by decide +kernel
theorem dX10_limp_34 : decode cX10_limp 34 = .ok (.getfield 46, 3) := by decide +kernel
theorem dX10_limp_37 : decode cX10_limp 37 = .ok (.invokevirtual 336, 3) := by decide +kernel
theorem dX10_limp_40 : decode cX10_limp 40 = .ok (.ifCond .eq 7, 3) := by decide +kernel
theorem dX10_limp_43 : decode cX10_limp 43 = .ok (.iconst 1, 1) := by decide +kernel
theorem dX10_limp_44 : decode cX10_limp 44 = .ok (.goto 4, 3) := by decide +kernel
theorem dX10_limp_47 : decode cX10_limp 47 = .ok (.iconst 0, 1) := by decide +kernel
theorem dX10_limp_48 : decode cX10_limp 48 = .ok (.ireturn, 1) := by decide +kernel
theorem dX10_limp_49 : decode cX10_limp 49 = .ok (.aload_n 0, 1) := by decide +kernel
theorem dX10_limp_50 : decode cX10_limp 50 = .ok (.getfield 68, 3) := by decide +kernel
theorem dX10_limp_53 : decode cX10_limp 53 = .ok (.aload_n 0, 1) := by decide +kernel
theorem dX10_limp_54 : decode cX10_limp 54 = .ok (.getfield 46, 3) := by decide +kernel
theorem dX10_limp_57 : decode cX10_limp 57 = .ok (.invokevirtual 340, 3) := by decide +kernel
theorem dX10_limp_60 : decode cX10_limp 60 = .ok (.iload_n 2, 1) := by decide +kernel
theorem dX10_limp_61 : decode cX10_limp 61 = .ok (.ifCond .ne 13, 3) := by decide +kernel
theorem dX10_limp_64 : decode cX10_limp 64 = .ok (.aload_n 0, 1) := by decide +kernel
theorem dX10_limp_65 : decode cX10_limp 65 = .ok (.getfield 68, 3) := by decide +kernel
theorem dX10_limp_68 : decode cX10_limp 68 = .ok (.getfield 344, 3) := by decide +kernel
theorem dX10_limp_71 : decode cX10_limp 71 = .ok (.goto 10, 3) := by decide +kernel
theorem dX10_limp_74 : decode cX10_limp 74 = .ok (.aload_n 0, 1) := by decide +kernel
theorem dX10_limp_75 : decode cX10_limp 75 = .ok (.getfield 68, 3) := by decide +kernel
theorem dX10_limp_78 : decode cX10_limp 78 = .ok (.getfield 347, 3) := by decide +kernel
theorem dX10_limp_81 : decode cX10_limp 81 = .ok (.ireturn, 1) := by decide +kernel
theorem dX10_forget_0 : decode cX10_forget 0 = .ok (.aload_n 0, 1) := by decide +kernel
theorem dX10_forget_1 : decode cX10_forget 1 = .ok (.getfield 46, 3) := by decide +kernel
theorem dX10_forget_4 : decode cX10_forget 4 = .ok (.iconst 0, 1) := by decide +kernel
theorem dX10_forget_5 : decode cX10_forget 5 = .ok (.putfield 153, 3) := by decide +kernel
theorem dX10_forget_8 : decode cX10_forget 8 = .ok (.return_, 1) := by decide +kernel
theorem dX10_game_0 : decode cX10_game 0 = .ok (.aload_n 0, 1) := by decide +kernel
theorem dX10_game_1 : decode cX10_game 1 = .ok (.iload_n 1, 1) := by decide +kernel
theorem dX10_game_2 : decode cX10_game 2 = .ok (.invokevirtual 161, 3) := by decide +kernel
theorem dX10_game_5 : decode cX10_game 5 = .ok (.aload_n 0, 1) := by decide +kernel
theorem dX10_game_6 : decode cX10_game 6 = .ok (.iload_n 2, 1) := by decide +kernel
theorem dX10_game_7 : decode cX10_game 7 = .ok (.invokevirtual 161, 3) := by decide +kernel
theorem dX10_game_10 : decode cX10_game 10 = .ok (.aload_n 0, 1) := by decide +kernel
theorem dX10_game_11 : decode cX10_game 11 = .ok (.iload_n 3, 1) := by decide +kernel
theorem dX10_game_12 : decode cX10_game 12 = .ok (.bipush 8, 2) := by decide +kernel
theorem dX10_game_14 : decode cX10_game 14 = .ok (.invokevirtual 221, 3) := by decide +kernel
theorem dX10_game_17 : decode cX10_game 17 = .ok (.aload_n 0, 1) := by decide +kernel
theorem dX10_game_18 : decode cX10_game 18 = .ok (.iload 4, 2) := by decide +kernel
theorem dX10_game_20 : decode cX10_game 20 = .ok (.iconst 2, 1) := by decide +kernel
theorem dX10_game_21 : decode cX10_game 21 = .ok (.invokevirtual 221, 3) := by decide +kernel
theorem dX10_game_24 : decode cX10_game 24 = .ok (.iload_n 1, 1) := by decide +kernel
theorem dX10_game_25 : decode cX10_game 25 = .ok (.iload_n 2, 1) := by decide +kernel
theorem dX10_game_26 : decode cX10_game 26 = .ok (.if_icmp .ne 14, 3) := by decide +kernel
theorem dX10_game_29 : decode cX10_game 29 = .ok (.new 103, 3) := by decide +kernel
theorem dX10_game_32 : decode cX10_game 32 = .ok (.dup, 1) := by decide +kernel
theorem dX10_game_33 : decode cX10_game 33 = .ok (.ldc_w 350, 3) := by decide +kernel
theorem dX10_game_36 : decode cX10_game 36 = .ok (.invokespecial 107, 3) := by decide +kernel
theorem dX10_game_39 : decode cX10_game 39 = .ok (.athrow, 1) := by decide +kernel
theorem dX10_game_40 : decode cX10_game 40 = .ok (.aload_n 0, 1) := by decide +kernel
theorem dX10_game_41 : decode cX10_game 41 = .ok (.getfield 77, 3) := by decide +kernel
theorem dX10_game_44 : decode cX10_game 44 = .ok (.aload_n 0, 1) := by decide +kernel
theorem dX10_game_45 : decode cX10_game 45 = .ok (.getfield 59, 3) := by decide +kernel
theorem dX10_game_48 : decode cX10_game 48 = .ok (.aload_n 0, 1) := by decide +kernel
theorem dX10_game_49 : decode cX10_game 49 = .ok (.getfield 46, 3) := by decide +kernel
theorem dX10_game_52 : decode cX10_game 52 = .ok (.iconst 0, 1) := by decide +kernel
theorem dX10_game_53 : decode cX10_game 53 = .ok (.invokevirtual 139, 3) := by decide +kernel
theorem dX10_game_56 : decode cX10_game 56 = .ok (.invokevirtual 143, 3) := by decide +kernel
theorem dX10_game_59 : decode cX10_game 59 = .ok (.aload_n 0, 1) := by decide +kernel
theorem dX10_game_60 : decode cX10_game 60 = .ok (.getfield 77, 3) := by decide +kernel
theorem dX10_game_63 : decode cX10_game 63 = .ok (.iload_n 1, 1) := by decide +kernel
theorem dX10_game_64 : decode cX10_game 64 = .ok (.iload_n 2, 1) := by decide +kernel
theorem dX10_game_65 : decode cX10_game 65 = .ok (.iload_n 3, 1) := by decide +kernel
theorem dX10_game_66 : decode cX10_game 66 = .ok (.invokevirtual 352, 3) := by decide +kernel
theorem dX10_game_69 : decode cX10_game 69 = .ok (.iload 4, 2) := by decide +kernel
theorem dX10_game_71 : decode cX10_game 71 = .ok (.ifCond .ne 13, 3) := by decide +kernel
theorem dX10_game_74 : decode cX10_game 74 = .ok (.aload_n 0, 1) := by decide +kernel
theorem dX10_game_75 : decode cX10_game 75 = .ok (.getfield 77, 3) := by decide +kernel
theorem dX10_game_78 : decode cX10_game 78 = .ok (.getfield 356, 3) := by decide +kernel
theorem dX10_game_81 : decode cX10_game 81 = .ok (.goto 10, 3) := by decide +kernel
theorem dX10_game_84 : decode cX10_game 84 = .ok (.aload_n 0, 1) := by decide +kernel
theorem dX10_game_85 : decode cX10_game 85 = .ok (.getfield 77, 3) := by decide +kernel
theorem dX10_game_88 : decode cX10_game 88 = .ok (.getfield 359, 3) := by decide +kernel
theorem dX10_game_91 : decode cX10_game 91 = .ok (.ireturn, 1) := by decide +kernel
theorem dX10_century_0 : decode cX10_century 0 = .ok (.aload_n 0, 1) := by decide +kernel
theorem dX10_century_1 : decode cX10_century 1 = .ok (.iload_n 3, 1) := by decide +kernel
theorem dX10_century_2 : decode cX10_century 2 = .ok (.iconst 3, 1) := by decide +kernel
theorem dX10_century_3 : decode cX10_century 3 = .ok (.invokevirtual 221, 3) := by decide +kernel
theorem dX10_century_6 : decode cX10_century 6 = .ok (.iload_n 2, 1) := by decide +kernel
theorem dX10_century_7 : decode cX10_century 7 = .ok (.ifCond .lt 9, 3) := by decide +kernel
theorem dX10_century_10 : decode cX10_century 10 = .ok (.iload_n 2, 1) := by decide +kernel
theorem dX10_century_11 : decode cX10_century 11 = .ok (.bipush 40, 2) := by decide +kernel
theorem dX10_century_13 : decode cX10_century 13 = .ok (.if_icmp .le 14, 3) := by decide +kernel
theorem dX10_century_16 : decode cX10_century 16 = .ok (.new 103, 3) := by decide +kernel
theorem dX10_century_19 : decode cX10_century 19 = .ok (.dup, 1) := by decide +kernel
theorem dX10_century_20 : decode cX10_century 20 = .ok (.ldc_w 362, 3) := by decide +kernel
theorem dX10_century_23 : decode cX10_century 23 = .ok (.invokespecial 107, 3) := by decide +kernel
theorem dX10_century_26 : decode cX10_century 26 = .ok (.athrow, 1) := by decide +kernel
theorem dX10_century_27 : decode cX10_century 27 = .ok (.aload_n 0, 1) := by decide +kernel
theorem dX10_century_28 : decode cX10_century 28 = .ok (.getfield 53, 3) := by decide +kernel
theorem dX10_century_31 : decode cX10_century 31 = .ok (.aload_n 0, 1) := by decide +kernel
theorem dX10_century_32 : decode cX10_century 32 = .ok (.getfield 46, 3) := by decide +kernel
theorem dX10_century_35 : decode cX10_century 35 = .ok (.invokevirtual 364, 3) := by decide +kernel
theorem dX10_century_38 : decode cX10_century 38 = .ok (.aload_n 0, 1) := by decide +kernel
theorem dX10_century_39 : decode cX10_century 39 = .ok (.getfield 95, 3) := by decide +kernel
theorem dX10_century_42 : decode cX10_century 42 = .ok (.iload_n 1, 1) := by decide +kernel
theorem dX10_century_43 : decode cX10_century 43 = .ok (.iload_n 2, 1) := by decide +kernel
theorem dX10_century_44 : decode cX10_century 44 = .ok (.invokevirtual 366, 3) := by decide +kernel
theorem dX10_century_47 : decode cX10_century 47 = .ok (.iload_n 3, 1) := by decide +kernel
theorem dX10_century_48 : decode cX10_century 48 = .ok (.ifCond .ne 11, 3) := by decide +kernel
theorem dX10_century_51 : decode cX10_century 51 = .ok (.aload_n 0, 1) := by decide +kernel
theorem dX10_century_52 : decode cX10_century 52 = .ok (.getfield 95, 3) := by decide +kernel
theorem dX10_century_55 : decode cX10_century 55 = .ok (.getfield 369, 3) := by decide +kernel
theorem dX10_century_58 : decode cX10_century 58 = .ok (.ireturn, 1) := by decide +kernel
theorem dX10_century_59 : decode cX10_century 59 = .ok (.iload_n 3, 1) := by decide +kernel
theorem dX10_century_60 : decode cX10_century 60 = .ok (.iconst 1, 1) := by decide +kernel
theorem dX10_century_61 : decode cX10_century 61 = .ok (.if_icmp .ne 13, 3) := by decide +kernel
theorem dX10_century_64 : decode cX10_century 64 = .ok (.aload_n 0, 1) := by decide +kernel
theorem dX10_century_65 : decode cX10_century 65 = .ok (.getfield 95, 3) := by decide +kernel
theorem dX10_century_68 : decode cX10_century 68 = .ok (.getfield 372, 3) := by decide +kernel
theorem dX10_century_71 : decode cX10_century 71 = .ok (.goto 10, 3) := by decide +kernel
theorem dX10_century_74 : decode cX10_century 74 = .ok (.aload_n 0, 1) := by decide +kernel
theorem dX10_century_75 : decode cX10_century 75 = .ok (.getfield 95, 3) := by decide +kernel
theorem dX10_century_78 : decode cX10_century 78 = .ok (.getfield 375, 3) := by decide +kernel
theorem dX10_century_81 : decode cX10_century 81 = .ok (.ireturn, 1) := by decide +kernel
theorem dX10_image_0 : decode cX10_image 0 = .ok (.aload_n 0, 1) := by decide +kernel
theorem dX10_image_1 : decode cX10_image 1 = .ok (.getfield 50, 3) := by decide +kernel
theorem dX10_image_4 : decode cX10_image 4 = .ok (.aload_n 0, 1) := by decide +kernel
theorem dX10_image_5 : decode cX10_image 5 = .ok (.getfield 46, 3) := by decide +kernel
theorem dX10_image_8 : decode cX10_image 8 = .ok (.invokevirtual 364, 3) := by decide +kernel
theorem dX10_image_11 : decode cX10_image 11 = .ok (.aload_n 0, 1) := by decide +kernel
theorem dX10_image_12 : decode cX10_image 12 = .ok (.iconst 1, 1) := by decide +kernel
theorem dX10_image_13 : decode cX10_image 13 = .ok (.putfield 20, 3) := by decide +kernel
theorem dX10_image_16 : decode cX10_image 16 = .ok (.return_, 1) := by decide +kernel
theorem dX10_restore_0 : decode cX10_restore 0 = .ok (.aload_n 0, 1) := by decide +kernel
theorem dX10_restore_1 : decode cX10_restore 1 = .ok (.getfield 20, 3) := by decide +kernel
theorem dX10_restore_4 : decode cX10_restore 4 = .ok (.ifCond .ne 5, 3) := by decide +kernel
theorem dX10_restore_7 : decode cX10_restore 7 = .ok (.iconst 0, 1) := by decide +kernel
theorem dX10_restore_8 : decode cX10_restore 8 = .ok (.ireturn, 1) := by decide +kernel
theorem dX10_restore_9 : decode cX10_restore 9 = .ok (.aload_n 0, 1) := by decide +kernel
theorem dX10_restore_10 : decode cX10_restore 10 = .ok (.getfield 46, 3) := by decide +kernel
theorem dX10_restore_13 : decode cX10_restore 13 = .ok (.aload_n 0, 1) := by decide +kernel
theorem dX10_restore_14 : decode cX10_restore 14 = .ok (.getfield 50, 3) := by decide +kernel
theorem dX10_restore_17 : decode cX10_restore 17 = .ok (.invokevirtual 364, 3) := by decide +kernel
theorem dX10_restore_20 : decode cX10_restore 20 = .ok (.iconst 1, 1) := by decide +kernel
theorem dX10_restore_21 : decode cX10_restore 21 = .ok (.ireturn, 1) := by decide +kernel
theorem dX10_addBytes_0 : decode cX10_addBytes 0 = .ok (.bipush 24, 2) := by decide +kernel
theorem dX10_addBytes_2 : decode cX10_addBytes 2 = .ok (.istore_n 2, 1) := by decide +kernel
theorem dX10_addBytes_3 : decode cX10_addBytes 3 = .ok (.iload_n 2, 1) := by decide +kernel
theorem dX10_addBytes_4 : decode cX10_addBytes 4 = .ok (.ifCond .lt 45, 3) := by decide +kernel
theorem dX10_addBytes_7 : decode cX10_addBytes 7 = .ok (.aload_n 0, 1) := by decide +kernel
theorem dX10_addBytes_8 : decode cX10_addBytes 8 = .ok (.getfield 13, 3) := by decide +kernel
theorem dX10_addBytes_11 : decode cX10_addBytes 11 = .ok (.sipush 700, 3) := by decide +kernel
theorem dX10_addBytes_14 : decode cX10_addBytes 14 = .ok (.if_icmp .ge 35, 3) := by decide +kernel
theorem dX10_addBytes_17 : decode cX10_addBytes 17 = .ok (.aload_n 0, 1) := by decide +kernel
theorem dX10_addBytes_18 : decode cX10_addBytes 18 = .ok (.getfield 9, 3) := by decide +kernel
theorem dX10_addBytes_21 : decode cX10_addBytes 21 = .ok (.aload_n 0, 1) := by decide +kernel
theorem dX10_addBytes_22 : decode cX10_addBytes 22 = .ok (.getfield 13, 3) := by decide +kernel
theorem dX10_addBytes_25 : decode cX10_addBytes 25 = .ok (.iload_n 1, 1) := by decide +kernel
theorem dX10_addBytes_26 : decode cX10_addBytes 26 = .ok (.iload_n 2, 1) := by decide +kernel
theorem dX10_addBytes_27 : decode cX10_addBytes 27 = .ok (.iushr, 1) := by decide +kernel
theorem dX10_addBytes_28 : decode cX10_addBytes 28 = .ok (.sipush 255, 3) := by decide +kernel
theorem dX10_addBytes_31 : decode cX10_addBytes 31 = .ok (.iand, 1) := by decide +kernel
theorem dX10_addBytes_32 : decode cX10_addBytes 32 = .ok (.iastore, 1) := by decide +kernel
theorem dX10_addBytes_33 : decode cX10_addBytes 33 = .ok (.aload_n 0, 1) := by decide +kernel
theorem dX10_addBytes_34 : decode cX10_addBytes 34 = .ok (.dup, 1) := by decide +kernel
theorem dX10_addBytes_35 : decode cX10_addBytes 35 = .ok (.getfield 13, 3) := by decide +kernel
theorem dX10_addBytes_38 : decode cX10_addBytes 38 = .ok (.iconst 1, 1) := by decide +kernel
theorem dX10_addBytes_39 : decode cX10_addBytes 39 = .ok (.iadd, 1) := by decide +kernel
theorem dX10_addBytes_40 : decode cX10_addBytes 40 = .ok (.putfield 13, 3) := by decide +kernel
theorem dX10_addBytes_43 : decode cX10_addBytes 43 = .ok (.iinc 2 (-8), 3) := by decide +kernel
theorem dX10_addBytes_46 : decode cX10_addBytes 46 = .ok (.goto (-43), 3) := by decide +kernel
theorem dX10_addBytes_49 : decode cX10_addBytes 49 = .ok (.return_, 1) := by decide +kernel
theorem dX10_refuse_0 : decode cX10_refuse 0 = .ok (.aload_n 0, 1) := by decide +kernel
theorem dX10_refuse_1 : decode cX10_refuse 1 = .ok (.getfield 46, 3) := by decide +kernel
theorem dX10_refuse_4 : decode cX10_refuse 4 = .ok (.getfield 115, 3) := by decide +kernel
theorem dX10_refuse_7 : decode cX10_refuse 7 = .ok (.iload_n 1, 1) := by decide +kernel
theorem dX10_refuse_8 : decode cX10_refuse 8 = .ok (.dup2, 1) := by decide +kernel
theorem dX10_refuse_9 : decode cX10_refuse 9 = .ok (.iaload, 1) := by decide +kernel
theorem dX10_refuse_10 : decode cX10_refuse 10 = .ok (.iconst 1, 1) := by decide +kernel
theorem dX10_refuse_11 : decode cX10_refuse 11 = .ok (.iadd, 1) := by decide +kernel
theorem dX10_refuse_12 : decode cX10_refuse 12 = .ok (.iastore, 1) := by decide +kernel
theorem dX10_refuse_13 : decode cX10_refuse 13 = .ok (.iconst (-1), 1) := by decide +kernel
theorem dX10_refuse_14 : decode cX10_refuse 14 = .ok (.ireturn, 1) := by decide +kernel
theorem dX10_checkValley_0 : decode cX10_checkValley 0 = .ok (.iload_n 1, 1) := by decide +kernel
theorem dX10_checkValley_1 : decode cX10_checkValley 1 = .ok (.ifCond .lt 14, 3) := by decide +kernel
theorem dX10_checkValley_4 : decode cX10_checkValley 4 = .ok (.iload_n 1, 1) := by decide +kernel
theorem dX10_checkValley_5 : decode cX10_checkValley 5 = .ok (.aload_n 0, 1) := by decide +kernel
theorem dX10_checkValley_6 : decode cX10_checkValley 6 = .ok (.getfield 27, 3) := by decide +kernel
theorem dX10_checkValley_9 : decode cX10_checkValley 9 = .ok (.getfield 127, 3) := by decide +kernel
theorem dX10_checkValley_12 : decode cX10_checkValley 12 = .ok (.if_icmp .lt 14, 3) := by decide +kernel
theorem dX10_checkValley_15 : decode cX10_checkValley 15 = .ok (.new 156, 3) := by decide +kernel
theorem dX10_checkValley_18 : decode cX10_checkValley 18 = .ok (.dup, 1) := by decide +kernel
theorem dX10_checkValley_19 : decode cX10_checkValley 19 = .ok (.ldc_w 378, 3) := by decide +kernel
theorem dX10_checkValley_22 : decode cX10_checkValley 22 = .ok (.invokespecial 160, 3) := by decide +kernel
theorem dX10_checkValley_25 : decode cX10_checkValley 25 = .ok (.athrow, 1) := by decide +kernel
theorem dX10_checkValley_26 : decode cX10_checkValley 26 = .ok (.return_, 1) := by decide +kernel
theorem dX10_checkDance_0 : decode cX10_checkDance 0 = .ok (.iload_n 1, 1) := by decide +kernel
theorem dX10_checkDance_1 : decode cX10_checkDance 1 = .ok (.ifCond .lt 14, 3) := by decide +kernel
theorem dX10_checkDance_4 : decode cX10_checkDance 4 = .ok (.iload_n 1, 1) := by decide +kernel
theorem dX10_checkDance_5 : decode cX10_checkDance 5 = .ok (.aload_n 0, 1) := by decide +kernel
theorem dX10_checkDance_6 : decode cX10_checkDance 6 = .ok (.getfield 27, 3) := by decide +kernel
theorem dX10_checkDance_9 : decode cX10_checkDance 9 = .ok (.getfield 130, 3) := by decide +kernel
theorem dX10_checkDance_12 : decode cX10_checkDance 12 = .ok (.if_icmp .lt 14, 3) := by decide +kernel
theorem dX10_checkDance_15 : decode cX10_checkDance 15 = .ok (.new 156, 3) := by decide +kernel
theorem dX10_checkDance_18 : decode cX10_checkDance 18 = .ok (.dup, 1) := by decide +kernel
theorem dX10_checkDance_19 : decode cX10_checkDance 19 = .ok (.ldc_w 380, 3) := by decide +kernel
theorem dX10_checkDance_22 : decode cX10_checkDance 22 = .ok (.invokespecial 160, 3) := by decide +kernel
theorem dX10_checkDance_25 : decode cX10_checkDance 25 = .ok (.athrow, 1) := by decide +kernel
theorem dX10_checkDance_26 : decode cX10_checkDance 26 = .ok (.return_, 1) := by decide +kernel
theorem dX10_checkStep_0 : decode cX10_checkStep 0 = .ok (.aload_n 0, 1) := by decide +kernel
theorem dX10_checkStep_1 : decode cX10_checkStep 1 = .ok (.iload_n 1, 1) := by decide +kernel
theorem dX10_checkStep_2 : decode cX10_checkStep 2 = .ok (.invokevirtual 167, 3) := by decide +kernel
theorem dX10_checkStep_5 : decode cX10_checkStep 5 = .ok (.iload_n 2, 1) := by decide +kernel
theorem dX10_checkStep_6 : decode cX10_checkStep 6 = .ok (.ifCond .lt 16, 3) := by decide +kernel
theorem dX10_checkStep_9 : decode cX10_checkStep 9 = .ok (.iload_n 2, 1) := by decide +kernel
theorem dX10_checkStep_10 : decode cX10_checkStep 10 = .ok (.aload_n 0, 1) := by decide +kernel
theorem dX10_checkStep_11 : decode cX10_checkStep 11 = .ok (.getfield 27, 3) := by decide +kernel
theorem dX10_checkStep_14 : decode cX10_checkStep 14 = .ok (.getfield 177, 3) := by decide +kernel
theorem dX10_checkStep_17 : decode cX10_checkStep 17 = .ok (.iload_n 1, 1) := by decide +kernel
theorem dX10_checkStep_18 : decode cX10_checkStep 18 = .ok (.iaload, 1) := by decide +kernel
theorem dX10_checkStep_19 : decode cX10_checkStep 19 = .ok (.if_icmp .lt 14, 3) := by decide +kernel
theorem dX10_checkStep_22 : decode cX10_checkStep 22 = .ok (.new 156, 3) := by decide +kernel
theorem dX10_checkStep_25 : decode cX10_checkStep 25 = .ok (.dup, 1) := by decide +kernel
theorem dX10_checkStep_26 : decode cX10_checkStep 26 = .ok (.ldc_w 382, 3) := by decide +kernel
theorem dX10_checkStep_29 : decode cX10_checkStep 29 = .ok (.invokespecial 160, 3) := by decide +kernel
theorem dX10_checkStep_32 : decode cX10_checkStep 32 = .ok (.athrow, 1) := by decide +kernel
theorem dX10_checkStep_33 : decode cX10_checkStep 33 = .ok (.return_, 1) := by decide +kernel
theorem dX10_checkBelow_0 : decode cX10_checkBelow 0 = .ok (.iload_n 1, 1) := by decide +kernel
theorem dX10_checkBelow_1 : decode cX10_checkBelow 1 = .ok (.ifCond .lt 8, 3) := by decide +kernel
theorem dX10_checkBelow_4 : decode cX10_checkBelow 4 = .ok (.iload_n 1, 1) := by decide +kernel
theorem dX10_checkBelow_5 : decode cX10_checkBelow 5 = .ok (.iload_n 2, 1) := by decide +kernel
theorem dX10_checkBelow_6 : decode cX10_checkBelow 6 = .ok (.if_icmp .lt 14, 3) := by decide +kernel
theorem dX10_checkBelow_9 : decode cX10_checkBelow 9 = .ok (.new 156, 3) := by decide +kernel
theorem dX10_checkBelow_12 : decode cX10_checkBelow 12 = .ok (.dup, 1) := by decide +kernel
theorem dX10_checkBelow_13 : decode cX10_checkBelow 13 = .ok (.ldc_w 384, 3) := by decide +kernel
theorem dX10_checkBelow_16 : decode cX10_checkBelow 16 = .ok (.invokespecial 160, 3) := by decide +kernel
theorem dX10_checkBelow_19 : decode cX10_checkBelow 19 = .ok (.athrow, 1) := by decide +kernel
theorem dX10_checkBelow_20 : decode cX10_checkBelow 20 = .ok (.return_, 1) := by decide +kernel
theorem dX10_isBinding_0 : decode cX10_isBinding 0 = .ok (.aload_n 0, 1) := by decide +kernel
theorem dX10_isBinding_1 : decode cX10_isBinding 1 = .ok (.getfield 59, 3) := by decide +kernel
theorem dX10_isBinding_4 : decode cX10_isBinding 4 = .ok (.aload_n 0, 1) := by decide +kernel
theorem dX10_isBinding_5 : decode cX10_isBinding 5 = .ok (.getfield 46, 3) := by decide +kernel
theorem dX10_isBinding_8 : decode cX10_isBinding 8 = .ok (.iload_n 1, 1) := by decide +kernel
theorem dX10_isBinding_9 : decode cX10_isBinding 9 = .ok (.iconst 0, 1) := by decide +kernel
theorem dX10_isBinding_10 : decode cX10_isBinding 10 = .ok (.invokevirtual 191, 3) := by decide +kernel
theorem dX10_isBinding_13 : decode cX10_isBinding 13 = .ok (.aload_n 0, 1) := by decide +kernel
theorem dX10_isBinding_14 : decode cX10_isBinding 14 = .ok (.getfield 46, 3) := by decide +kernel
theorem dX10_isBinding_17 : decode cX10_isBinding 17 = .ok (.getfield 184, 3) := by decide +kernel
theorem dX10_isBinding_20 : decode cX10_isBinding 20 = .ok (.iload_n 1, 1) := by decide +kernel
theorem dX10_isBinding_21 : decode cX10_isBinding 21 = .ok (.iaload, 1) := by decide +kernel
theorem dX10_isBinding_22 : decode cX10_isBinding 22 = .ok (.ifCond .ne 17, 3) := by decide +kernel
theorem dX10_isBinding_25 : decode cX10_isBinding 25 = .ok (.aload_n 0, 1) := by decide +kernel
theorem dX10_isBinding_26 : decode cX10_isBinding 26 = .ok (.getfield 59, 3) := by decide +kernel
theorem dX10_isBinding_29 : decode cX10_isBinding 29 = .ok (.invokevirtual 280, 3) := by decide +kernel
theorem dX10_isBinding_32 : decode cX10_isBinding 32 = .ok (.ifCond .eq 7, 3) := by decide +kernel
theorem dX10_isBinding_35 : decode cX10_isBinding 35 = .ok (.iconst 1, 1) := by decide +kernel
theorem dX10_isBinding_36 : decode cX10_isBinding 36 = .ok (.goto 4, 3) := by decide +kernel
theorem dX10_isBinding_39 : decode cX10_isBinding 39 = .ok (.iconst 0, 1) := by decide +kernel
theorem dX10_isBinding_40 : decode cX10_isBinding 40 = .ok (.ireturn, 1) := by decide +kernel
theorem dX10_placeOf_0 : decode cX10_placeOf 0 = .ok (.iload_n 0, 1) := by decide +kernel
theorem dX10_placeOf_1 : decode cX10_placeOf 1 = .ok (.bipush 10, 2) := by decide +kernel
theorem dX10_placeOf_3 : decode cX10_placeOf 3 = .ok (.imul, 1) := by decide +kernel
theorem dX10_placeOf_4 : decode cX10_placeOf 4 = .ok (.iload_n 1, 1) := by decide +kernel
theorem dX10_placeOf_5 : decode cX10_placeOf 5 = .ok (.iadd, 1) := by decide +kernel
theorem dX10_placeOf_6 : decode cX10_placeOf 6 = .ok (.ireturn, 1) := by decide +kernel
theorem dX11_init_0 : decode cX11_init 0 = .ok (.aload_n 0, 1) := by decide +kernel
theorem dX11_init_1 : decode cX11_init 1 = .ok (.invokespecial 3, 3) := by decide +kernel
theorem dX11_init_4 : decode cX11_init 4 = .ok (.aload_n 0, 1) := by decide +kernel
theorem dX11_init_5 : decode cX11_init 5 = .ok (.iconst 5, 1) := by decide +kernel
theorem dX11_init_6 : decode cX11_init 6 = .ok (.anewarray 9, 3) := by decide +kernel
theorem dX11_init_9 : decode cX11_init 9 = .ok (.dup, 1) := by decide +kernel
theorem dX11_init_10 : decode cX11_init 10 = .ok (.iconst 0, 1) := by decide +kernel
theorem dX11_init_11 : decode cX11_init 11 = .ok (.ldc 11, 2) := by decide +kernel
theorem dX11_init_13 : decode cX11_init 13 = .ok (.aastore, 1) := by decide +kernel
theorem dX11_init_14 : decode cX11_init 14 = .ok (.dup, 1) := by decide +kernel
theorem dX11_init_15 : decode cX11_init 15 = .ok (.iconst 1, 1) := by decide +kernel
theorem dX11_init_16 : decode cX11_init 16 = .ok (.ldc 13, 2) := by decide +kernel
theorem dX11_init_18 : decode cX11_init 18 = .ok (.aastore, 1) := by decide +kernel
theorem dX11_init_19 : decode cX11_init 19 = .ok (.dup, 1) := by decide +kernel
theorem dX11_init_20 : decode cX11_init 20 = .ok (.iconst 2, 1) := by decide +kernel
theorem dX11_init_21 : decode cX11_init 21 = .ok (.ldc 15, 2) := by decide +kernel
theorem dX11_init_23 : decode cX11_init 23 = .ok (.aastore, 1) := by decide +kernel
theorem dX11_init_24 : decode cX11_init 24 = .ok (.dup, 1) := by decide +kernel
theorem dX11_init_25 : decode cX11_init 25 = .ok (.iconst 3, 1) := by decide +kernel
theorem dX11_init_26 : decode cX11_init 26 = .ok (.ldc 17, 2) := by decide +kernel
theorem dX11_init_28 : decode cX11_init 28 = .ok (.aastore, 1) := by decide +kernel
theorem dX11_init_29 : decode cX11_init 29 = .ok (.dup, 1) := by decide +kernel
theorem dX11_init_30 : decode cX11_init 30 = .ok (.iconst 4, 1) := by decide +kernel
theorem dX11_init_31 : decode cX11_init 31 = .ok (.ldc 19, 2) := by decide +kernel
theorem dX11_init_33 : decode cX11_init 33 = .ok (.aastore, 1) := by decide +kernel
theorem dX11_init_34 : decode cX11_init 34 = .ok (.putfield 21, 3) := by decide +kernel
theorem dX11_init_37 : decode cX11_init 37 = .ok (.aload_n 0, 1) := by decide +kernel
theorem dX11_init_38 : decode cX11_init 38 = .ok (.bipush 6, 2) := by decide +kernel
theorem dX11_init_40 : decode cX11_init 40 = .ok (.anewarray 9, 3) := by decide +kernel
theorem dX11_init_43 : decode cX11_init 43 = .ok (.dup, 1) := by decide +kernel
theorem dX11_init_44 : decode cX11_init 44 = .ok (.iconst 0, 1) := by decide +kernel
theorem dX11_init_45 : decode cX11_init 45 = .ok (.ldc 25, 2) := by decide +kernel
theorem dX11_init_47 : decode cX11_init 47 = .ok (.aastore, 1) := by decide +kernel
theorem dX11_init_48 : decode cX11_init 48 = .ok (.dup, 1) := by decide +kernel
theorem dX11_init_49 : decode cX11_init 49 = .ok (.iconst 1, 1) := by decide +kernel
theorem dX11_init_50 : decode cX11_init 50 = .ok (.ldc 27, 2) := by decide +kernel
theorem dX11_init_52 : decode cX11_init 52 = .ok (.aastore, 1) := by decide +kernel
theorem dX11_init_53 : decode cX11_init 53 = .ok (.dup, 1) := by decide +kernel
theorem dX11_init_54 : decode cX11_init 54 = .ok (.iconst 2, 1) := by decide +kernel
theorem dX11_init_55 : decode cX11_init 55 = .ok (.ldc 29, 2) := by decide +kernel
theorem dX11_init_57 : decode cX11_init 57 = .ok (.aastore, 1) := by decide +kernel
theorem dX11_init_58 : decode cX11_init 58 = .ok (.dup, 1) := by decide +kernel
theorem dX11_init_59 : decode cX11_init 59 = .ok (.iconst 3, 1) := by decide +kernel
theorem dX11_init_60 : decode cX11_init 60 = .ok (.ldc 15, 2) := by decide +kernel
theorem dX11_init_62 : decode cX11_init 62 = .ok (.aastore, 1) := by decide +kernel
theorem dX11_init_63 : decode cX11_init 63 = .ok (.dup, 1) := by decide +kernel
theorem dX11_init_64 : decode cX11_init 64 = .ok (.iconst 4, 1) := by decide +kernel
theorem dX11_init_65 : decode cX11_init 65 = .ok (.ldc 31, 2) := by decide +kernel
theorem dX11_init_67 : decode cX11_init 67 = .ok (.aastore, 1) := by decide +kernel
theorem dX11_init_68 : decode cX11_init 68 = .ok (.dup, 1) := by decide +kernel
theorem dX11_init_69 : decode cX11_init 69 = .ok (.iconst 5, 1) := by decide +kernel
theorem dX11_init_70 : decode cX11_init 70 = .ok (.ldc 33, 2) := by decide +kernel
theorem dX11_init_72 : decode cX11_init 72 = .ok (.aastore, 1) := by decide +kernel
theorem dX11_init_73 : decode cX11_init 73 = .ok (.putfield 35, 3) := by decide +kernel
theorem dX11_init_76 : decode cX11_init 76 = .ok (.aload_n 0, 1) := by decide +kernel
theorem dX11_init_77 : decode cX11_init 77 = .ok (.iconst 4, 1) := by decide +kernel
theorem dX11_init_78 : decode cX11_init 78 = .ok (.newarray .int, 2) := by decide +kernel
theorem dX11_init_80 : decode cX11_init 80 = .ok (.dup, 1) := by decide +kernel
theorem dX11_init_81 : decode cX11_init 81 = .ok (.iconst 0, 1) := by decide +kernel
theorem dX11_init_82 : decode cX11_init 82 = .ok (.iconst 1, 1) := by decide +kernel
theorem dX11_init_83 : decode cX11_init 83 = .ok (.iastore, 1) := by decide +kernel
theorem dX11_init_84 : decode cX11_init 84 = .ok (.dup, 1) := by decide +kernel
theorem dX11_init_85 : decode cX11_init 85 = .ok (.iconst 1, 1) := by decide +kernel
theorem dX11_init_86 : decode cX11_init 86 = .ok (.iconst 0, 1) := by decide +kernel
theorem dX11_init_87 : decode cX11_init 87 = .ok (.iastore, 1) := by decide +kernel
theorem dX11_init_88 : decode cX11_init 88 = .ok (.dup, 1) := by decide +kernel
theorem dX11_init_89 : decode cX11_init 89 = .ok (.iconst 2, 1) := by decide +kernel
theorem dX11_init_90 : decode cX11_init 90 = .ok (.iconst (-1), 1) := by decide +kernel
theorem dX11_init_91 : decode cX11_init 91 = .ok (.iastore, 1) := by decide +kernel
theorem dX11_init_92 : decode cX11_init 92 = .ok (.dup, 1) := by decide +kernel
theorem dX11_init_93 : decode cX11_init 93 = .ok (.iconst 3, 1) := by decide +kernel
theorem dX11_init_94 : decode cX11_init 94 = .ok (.iconst 0, 1) := by decide +kernel
theorem dX11_init_95 : decode cX11_init 95 = .ok (.iastore, 1) := by decide +kernel
theorem dX11_init_96 : decode cX11_init 96 = .ok (.putfield 38, 3) := by decide +kernel
theorem dX11_init_99 : decode cX11_init 99 = .ok (.aload_n 0, 1) := by decide +kernel
theorem dX11_init_100 : decode cX11_init 100 = .ok (.iconst 4, 1) := by decide +kernel
theorem dX11_init_101 : decode cX11_init 101 = .ok (.newarray .int, 2) := by decide +kernel
theorem dX11_init_103 : decode cX11_init 103 = .ok (.dup, 1) := by decide +kernel
theorem dX11_init_104 : decode cX11_init 104 = .ok (.iconst 0, 1) := by decide +kernel
theorem dX11_init_105 : decode cX11_init 105 = .ok (.iconst 0, 1) := by decide +kernel
theorem dX11_init_106 : decode cX11_init 106 = .ok (.iastore, 1) := by decide +kernel
theorem dX11_init_107 : decode cX11_init 107 = .ok (.dup, 1) := by decide +kernel
theorem dX11_init_108 : decode cX11_init 108 = .ok (.iconst 1, 1) := by decide +kernel
theorem dX11_init_109 : decode cX11_init 109 = .ok (.iconst 1, 1) := by decide +kernel
theorem dX11_init_110 : decode cX11_init 110 = .ok (.iastore, 1) := by decide +kernel
theorem dX11_init_111 : decode cX11_init 111 = .ok (.dup, 1) := by decide +kernel
theorem dX11_init_112 : decode cX11_init 112 = .ok (.iconst 2, 1) := by decide +kernel
theorem dX11_init_113 : decode cX11_init 113 = .ok (.iconst 0, 1) := by decide +kernel
theorem dX11_init_114 : decode cX11_init 114 = .ok (.iastore, 1) := by decide +kernel
theorem dX11_init_115 : decode cX11_init 115 = .ok (.dup, 1) := by decide +kernel
theorem dX11_init_116 : decode cX11_init 116 = .ok (.iconst 3, 1) := by decide +kernel
theorem dX11_init_117 : decode cX11_init 117 = .ok (.iconst (-1), 1) := by decide +kernel
theorem dX11_init_118 : decode cX11_init 118 = .ok (.iastore, 1) := by decide +kernel
theorem dX11_init_119 : decode cX11_init 119 = .ok (.putfield 42, 3) := by decide +kernel
theorem dX11_init_122 : decode cX11_init 122 = .ok (.aload_n 0, 1) := by decide +kernel
theorem dX11_init_123 : decode cX11_init 123 = .ok (.bipush 8, 2) := by decide +kernel
theorem dX11_init_125 : decode cX11_init 125 = .ok (.newarray .int, 2) := by decide +kernel
theorem dX11_init_127 : decode cX11_init 127 = .ok (.dup, 1) := by decide +kernel
theorem dX11_init_128 : decode cX11_init 128 = .ok (.iconst 0, 1) := by decide +kernel
theorem dX11_init_129 : decode cX11_init 129 = .ok (.iconst 0, 1) := by decide +kernel
theorem dX11_init_130 : decode cX11_init 130 = .ok (.iastore, 1) := by decide +kernel
theorem dX11_init_131 : decode cX11_init 131 = .ok (.dup, 1) := by decide +kernel
theorem dX11_init_132 : decode cX11_init 132 = .ok (.iconst 1, 1) := by decide +kernel
theorem dX11_init_133 : decode cX11_init 133 = .ok (.iconst 0, 1) := by decide +kernel
theorem dX11_init_134 : decode cX11_init 134 = .ok (.iastore, 1) := by decide +kernel
theorem dX11_init_135 : decode cX11_init 135 = .ok (.dup, 1) := by decide +kernel
theorem dX11_init_136 : decode cX11_init 136 = .ok (.iconst 2, 1) := by decide +kernel
theorem dX11_init_137 : decode cX11_init 137 = .ok (.bipush 12, 2) := by decide +kernel
theorem dX11_init_139 : decode cX11_init 139 = .ok (.iastore, 1) := by decide +kernel
theorem dX11_init_140 : decode cX11_init 140 = .ok (.dup, 1) := by decide +kernel
theorem dX11_init_141 : decode cX11_init 141 = .ok (.iconst 3, 1) := by decide +kernel
theorem dX11_init_142 : decode cX11_init 142 = .ok (.iconst 0, 1) := by decide +kernel
theorem dX11_init_143 : decode cX11_init 143 = .ok (.iastore, 1) := by decide +kernel
theorem dX11_init_144 : decode cX11_init 144 = .ok (.dup, 1) := by decide +kernel
theorem dX11_init_145 : decode cX11_init 145 = .ok (.iconst 4, 1) := by decide +kernel
theorem dX11_init_146 : decode cX11_init 146 = .ok (.iconst 0, 1) := by decide +kernel
theorem dX11_init_147 : decode cX11_init 147 = .ok (.iastore, 1) := by decide +kernel
theorem dX11_init_148 : decode cX11_init 148 = .ok (.dup, 1) := by decide +kernel
theorem dX11_init_149 : decode cX11_init 149 = .ok (.iconst 5, 1) := by decide +kernel
theorem dX11_init_150 : decode cX11_init 150 = .ok (.iconst 0, 1) := by decide +kernel
theorem dX11_init_151 : decode cX11_init 151 = .ok (.iastore, 1) := by decide +kernel
theorem dX11_init_152 : decode cX11_init 152 = .ok (.dup, 1) := by decide +kernel
theorem dX11_init_153 : decode cX11_init 153 = .ok (.bipush 6, 2) := by decide +kernel
theorem dX11_init_155 : decode cX11_init 155 = .ok (.bipush 12, 2) := by decide +kernel
theorem dX11_init_157 : decode cX11_init 157 = .ok (.iastore, 1) := by decide +kernel
theorem dX11_init_158 : decode cX11_init 158 = .ok (.dup, 1) := by decide +kernel
theorem dX11_init_159 : decode cX11_init 159 = .ok (.bipush 7, 2) := by decide +kernel
theorem dX11_init_161 : decode cX11_init 161 = .ok (.iconst 0, 1) := by decide +kernel
theorem dX11_init_162 : decode cX11_init 162 = .ok (.iastore, 1) := by decide +kernel
theorem dX11_init_163 : decode cX11_init 163 = .ok (.putfield 45, 3) := by decide +kernel
theorem dX11_init_166 : decode cX11_init 166 = .ok (.aload_n 0, 1) := by decide +kernel
theorem dX11_init_167 : decode cX11_init 167 = .ok (.bipush 12, 2) := by decide +kernel
theorem dX11_init_169 : decode cX11_init 169 = .ok (.newarray .int, 2) := by decide +kernel
theorem dX11_init_171 : decode cX11_init 171 = .ok (.putfield 48, 3) := by decide +kernel
theorem dX11_init_174 : decode cX11_init 174 = .ok (.aload_n 0, 1) := by decide +kernel
theorem dX11_init_175 : decode cX11_init 175 = .ok (.bipush 16, 2) := by decide +kernel
theorem dX11_init_177 : decode cX11_init 177 = .ok (.newarray .int, 2) := by decide +kernel
theorem dX11_init_179 : decode cX11_init 179 = .ok (.putfield 51, 3) := by decide +kernel
theorem dX11_init_182 : decode cX11_init 182 = .ok (.aload_n 0, 1) := by decide +kernel
theorem dX11_init_183 : decode cX11_init 183 = .ok (.bipush 16, 2) := by decide +kernel
theorem dX11_init_185 : decode cX11_init 185 = .ok (.newarray .int, 2) := by decide +kernel
theorem dX11_init_187 : decode cX11_init 187 = .ok (.putfield 54, 3) := by decide +kernel
theorem dX11_init_190 : decode cX11_init 190 = .ok (.aload_n 0, 1) := by decide +kernel
theorem dX11_init_191 : decode cX11_init 191 = .ok (.bipush 16, 2) := by decide +kernel
theorem dX11_init_193 : decode cX11_init 193 = .ok (.newarray .int, 2) := by decide +kernel
theorem dX11_init_195 : decode cX11_init 195 = .ok (.putfield 57, 3) := by decide +kernel
theorem dX11_init_198 : decode cX11_init 198 = .ok (.aload_n 0, 1) := by decide +kernel
theorem dX11_init_199 : decode cX11_init 199 = .ok (.bipush 16, 2) := by decide +kernel
theorem dX11_init_201 : decode cX11_init 201 = .ok (.newarray .int, 2) := by decide +kernel
theorem dX11_init_203 : decode cX11_init 203 = .ok (.putfield 59, 3) := by decide +kernel
theorem dX11_init_206 : decode cX11_init 206 = .ok (.aload_n 0, 1) := by decide +kernel
theorem dX11_init_207 : decode cX11_init 207 = .ok (.sipush 160, 3) := by decide +kernel
theorem dX11_init_210 : decode cX11_init 210 = .ok (.newarray .int, 2) := by decide +kernel
theorem dX11_init_212 : decode cX11_init 212 = .ok (.putfield 62, 3) := by decide +kernel
theorem dX11_init_215 : decode cX11_init 215 = .ok (.aload_n 0, 1) := by decide +kernel
theorem dX11_init_216 : decode cX11_init 216 = .ok (.sipush 160, 3) := by decide +kernel
theorem dX11_init_219 : decode cX11_init 219 = .ok (.newarray .int, 2) := by decide +kernel
theorem dX11_init_221 : decode cX11_init 221 = .ok (.putfield 65, 3) := by decide +kernel
theorem dX11_init_224 : decode cX11_init 224 = .ok (.aload_n 0, 1) := by decide +kernel
theorem dX11_init_225 : decode cX11_init 225 = .ok (.sipush 160, 3) := by decide +kernel
theorem dX11_init_228 : decode cX11_init 228 = .ok (.newarray .int, 2) := by decide +kernel
theorem dX11_init_230 : decode cX11_init 230 = .ok (.putfield 68, 3) := by decide +kernel
theorem dX11_init_233 : decode cX11_init 233 = .ok (.aload_n 0, 1) := by decide +kernel
theorem dX11_init_234 : decode cX11_init 234 = .ok (.sipush 160, 3) := by decide +kernel
theorem dX11_init_237 : decode cX11_init 237 = .ok (.newarray .int, 2) := by decide +kernel
theorem dX11_init_239 : decode cX11_init 239 = .ok (.putfield 71, 3) := by decide +kernel
theorem dX11_init_242 : decode cX11_init 242 = .ok (.aload_n 0, 1) := by decide +kernel
theorem dX11_init_243 : decode cX11_init 243 = .ok (.sipush 1400, 3) := by decide +kernel
theorem dX11_init_246 : decode cX11_init 246 = .ok (.newarray .int, 2) := by decide +kernel
theorem dX11_init_248 : decode cX11_init 248 = .ok (.putfield 74, 3) := by decide +kernel
theorem dX11_init_251 : decode cX11_init 251 = .ok (.aload_n 0, 1) := by decide +kernel
theorem dX11_init_252 : decode cX11_init 252 = .ok (.iconst 3, 1) := by decide +kernel
theorem dX11_init_253 : decode cX11_init 253 = .ok (.newarray .int, 2) := by decide +kernel
theorem dX11_init_255 : decode cX11_init 255 = .ok (.putfield 77, 3) := by decide +kernel
theorem dX11_init_258 : decode cX11_init 258 = .ok (.aload_n 0, 1) := by decide +kernel
theorem dX11_init_259 : decode cX11_init 259 = .ok (.sipush 700, 3) := by decide +kernel
theorem dX11_init_262 : decode cX11_init 262 = .ok (.newarray .int, 2) := by decide +kernel
theorem dX11_init_264 : decode cX11_init 264 = .ok (.putfield 80, 3) := by decide +kernel
theorem dX11_init_267 : decode cX11_init 267 = .ok (.aload_n 0, 1) := by decide +kernel
theorem dX11_init_268 : decode cX11_init 268 = .ok (.iconst (-1), 1) := by decide +kernel
theorem dX11_init_269 : decode cX11_init 269 = .ok (.putfield 83, 3) := by decide +kernel
theorem dX11_init_272 : decode cX11_init 272 = .ok (.aload_n 0, 1) := by decide +kernel
theorem dX11_init_273 : decode cX11_init 273 = .ok (.bipush 8, 2) := by decide +kernel
theorem dX11_init_275 : decode cX11_init 275 = .ok (.newarray .int, 2) := by decide +kernel
theorem dX11_init_277 : decode cX11_init 277 = .ok (.putfield 87, 3) := by decide +kernel
theorem dX11_init_280 : decode cX11_init 280 = .ok (.aload_n 0, 1) := by decide +kernel
theorem dX11_init_281 : decode cX11_init 281 = .ok (.bipush 48, 2) := by decide +kernel
theorem dX11_init_283 : decode cX11_init 283 = .ok (.newarray .int, 2) := by decide +kernel
theorem dX11_init_285 : decode cX11_init 285 = .ok (.putfield 90, 3) := by decide +kernel
theorem dX11_init_288 : decode cX11_init 288 = .ok (.aload_n 0, 1) := by decide +kernel
theorem dX11_init_289 : decode cX11_init 289 = .ok (.sipush 5520, 3) := by decide +kernel
theorem dX11_init_292 : decode cX11_init 292 = .ok (.newarray .int, 2) := by decide +kernel
theorem dX11_init_294 : decode cX11_init 294 = .ok (.putfield 93, 3) := by decide +kernel
theorem dX11_init_297 : decode cX11_init 297 = .ok (.aload_n 0, 1) := by decide +kernel
theorem dX11_init_298 : decode cX11_init 298 = .ok (.iconst 2, 1) := by decide +kernel
theorem dX11_init_299 : decode cX11_init 299 = .ok (.newarray .int, 2) := by decide +kernel
theorem dX11_init_301 : decode cX11_init 301 = .ok (.putfield 96, 3) := by decide +kernel
theorem dX11_init_304 : decode cX11_init 304 = .ok (.aload_n 0, 1) := by decide +kernel
theorem dX11_init_305 : decode cX11_init 305 = .ok (.iconst 2, 1) := by decide +kernel
theorem dX11_init_306 : decode cX11_init 306 = .ok (.newarray .int, 2) := by decide +kernel
theorem dX11_init_308 : decode cX11_init 308 = .ok (.putfield 99, 3) := by decide +kernel
theorem dX11_init_311 : decode cX11_init 311 = .ok (.aload_n 0, 1) := by decide +kernel
theorem dX11_init_312 : decode cX11_init 312 = .ok (.iconst 2, 1) := by decide +kernel
theorem dX11_init_313 : decode cX11_init 313 = .ok (.newarray .int, 2) := by decide +kernel
theorem dX11_init_315 : decode cX11_init 315 = .ok (.putfield 102, 3) := by decide +kernel
theorem dX11_init_318 : decode cX11_init 318 = .ok (.aload_n 0, 1) := by decide +kernel
theorem dX11_init_319 : decode cX11_init 319 = .ok (.bipush 6, 2) := by decide +kernel
theorem dX11_init_321 : decode cX11_init 321 = .ok (.newarray .int, 2) := by decide +kernel
theorem dX11_init_323 : decode cX11_init 323 = .ok (.putfield 105, 3) := by decide +kernel
theorem dX11_init_326 : decode cX11_init 326 = .ok (.aload_n 0, 1) := by decide +kernel
theorem dX11_init_327 : decode cX11_init 327 = .ok (.bipush 64, 2) := by decide +kernel
theorem dX11_init_329 : decode cX11_init 329 = .ok (.newarray .int, 2) := by decide +kernel
theorem dX11_init_331 : decode cX11_init 331 = .ok (.putfield 108, 3) := by decide +kernel
theorem dX11_init_334 : decode cX11_init 334 = .ok (.aload_n 0, 1) := by decide +kernel
theorem dX11_init_335 : decode cX11_init 335 = .ok (.bipush 8, 2) := by decide +kernel
theorem dX11_init_337 : decode cX11_init 337 = .ok (.newarray .int, 2) := by decide +kernel
theorem dX11_init_339 : decode cX11_init 339 = .ok (.putfield 111, 3) := by decide +kernel
theorem dX11_init_342 : decode cX11_init 342 = .ok (.aload_n 0, 1) := by decide +kernel
theorem dX11_init_343 : decode cX11_init 343 = .ok (.bipush 8, 2) := by decide +kernel
theorem dX11_init_345 : decode cX11_init 345 = .ok (.newarray .int, 2) := by decide +kernel
theorem dX11_init_347 : decode cX11_init 347 = .ok (.putfield 114, 3) := by decide +kernel
theorem dX11_init_350 : decode cX11_init 350 = .ok (.aload_n 0, 1) := by decide +kernel
theorem dX11_init_351 : decode cX11_init 351 = .ok (.bipush 8, 2) := by decide +kernel
theorem dX11_init_353 : decode cX11_init 353 = .ok (.newarray .int, 2) := by decide +kernel
theorem dX11_init_355 : decode cX11_init 355 = .ok (.putfield 117, 3) := by decide +kernel
theorem dX11_init_358 : decode cX11_init 358 = .ok (.aload_n 0, 1) := by decide +kernel
theorem dX11_init_359 : decode cX11_init 359 = .ok (.bipush 8, 2) := by decide +kernel
theorem dX11_init_361 : decode cX11_init 361 = .ok (.newarray .int, 2) := by decide +kernel
theorem dX11_init_363 : decode cX11_init 363 = .ok (.putfield 120, 3) := by decide +kernel
theorem dX11_init_366 : decode cX11_init 366 = .ok (.aload_n 0, 1) := by decide +kernel
theorem dX11_init_367 : decode cX11_init 367 = .ok (.bipush 8, 2) := by decide +kernel
theorem dX11_init_369 : decode cX11_init 369 = .ok (.newarray .int, 2) := by decide +kernel
theorem dX11_init_371 : decode cX11_init 371 = .ok (.putfield 123, 3) := by decide +kernel
theorem dX11_init_374 : decode cX11_init 374 = .ok (.aload_n 0, 1) := by decide +kernel
theorem dX11_init_375 : decode cX11_init 375 = .ok (.bipush 8, 2) := by decide +kernel
theorem dX11_init_377 : decode cX11_init 377 = .ok (.newarray .int, 2) := by decide +kernel
theorem dX11_init_379 : decode cX11_init 379 = .ok (.putfield 126, 3) := by decide +kernel
theorem dX11_init_382 : decode cX11_init 382 = .ok (.aload_n 0, 1) := by decide +kernel
theorem dX11_init_383 : decode cX11_init 383 = .ok (.bipush 8, 2) := by decide +kernel
theorem dX11_init_385 : decode cX11_init 385 = .ok (.newarray .int, 2) := by decide +kernel
theorem dX11_init_387 : decode cX11_init 387 = .ok (.putfield 129, 3) := by decide +kernel
theorem dX11_init_390 : decode cX11_init 390 = .ok (.aload_n 0, 1) := by decide +kernel
theorem dX11_init_391 : decode cX11_init 391 = .ok (.sipush 138, 3) := by decide +kernel
theorem dX11_init_394 : decode cX11_init 394 = .ok (.newarray .int, 2) := by decide +kernel
theorem dX11_init_396 : decode cX11_init 396 = .ok (.putfield 132, 3) := by decide +kernel
theorem dX11_init_399 : decode cX11_init 399 = .ok (.aload_n 0, 1) := by decide +kernel
theorem dX11_init_400 : decode cX11_init 400 = .ok (.sipush 138, 3) := by decide +kernel
theorem dX11_init_403 : decode cX11_init 403 = .ok (.newarray .int, 2) := by decide +kernel
theorem dX11_init_405 : decode cX11_init 405 = .ok (.putfield 135, 3) := by decide +kernel
theorem dX11_init_408 : decode cX11_init 408 = .ok (.aload_n 0, 1) := by decide +kernel
theorem dX11_init_409 : decode cX11_init 409 = .ok (.sipush 5520, 3) := by decide +kernel
theorem dX11_init_412 : decode cX11_init 412 = .ok (.newarray .int, 2) := by decide +kernel
theorem dX11_init_414 : decode cX11_init 414 = .ok (.putfield 138, 3) := by decide +kernel
theorem dX11_init_417 : decode cX11_init 417 = .ok (.aload_n 0, 1) := by decide +kernel
theorem dX11_init_418 : decode cX11_init 418 = .ok (.bipush 8, 2) := by decide +kernel
theorem dX11_init_420 : decode cX11_init 420 = .ok (.newarray .int, 2) := by decide +kernel
theorem dX11_init_422 : decode cX11_init 422 = .ok (.putfield 141, 3) := by decide +kernel
theorem dX11_init_425 : decode cX11_init 425 = .ok (.aload_n 0, 1) := by decide +kernel
theorem dX11_init_426 : decode cX11_init 426 = .ok (.bipush 8, 2) := by decide +kernel
theorem dX11_init_428 : decode cX11_init 428 = .ok (.newarray .int, 2) := by decide +kernel
theorem dX11_init_430 : decode cX11_init 430 = .ok (.putfield 144, 3) := by decide +kernel
theorem dX11_init_433 : decode cX11_init 433 = .ok (.aload_n 0, 1) := by decide +kernel
theorem dX11_init_434 : decode cX11_init 434 = .ok (.bipush 8, 2) := by decide +kernel
theorem dX11_init_436 : decode cX11_init 436 = .ok (.newarray .int, 2) := by decide +kernel
theorem dX11_init_438 : decode cX11_init 438 = .ok (.putfield 147, 3) := by decide +kernel
theorem dX11_init_441 : decode cX11_init 441 = .ok (.aload_n 0, 1) := by decide +kernel
theorem dX11_init_442 : decode cX11_init 442 = .ok (.bipush 8, 2) := by decide +kernel
theorem dX11_init_444 : decode cX11_init 444 = .ok (.newarray .int, 2) := by decide +kernel
theorem dX11_init_446 : decode cX11_init 446 = .ok (.putfield 150, 3) := by decide +kernel
theorem dX11_init_449 : decode cX11_init 449 = .ok (.aload_n 0, 1) := by decide +kernel
theorem dX11_init_450 : decode cX11_init 450 = .ok (.bipush 8, 2) := by decide +kernel
theorem dX11_init_452 : decode cX11_init 452 = .ok (.newarray .int, 2) := by decide +kernel
theorem dX11_init_454 : decode cX11_init 454 = .ok (.putfield 153, 3) := by decide +kernel
theorem dX11_init_457 : decode cX11_init 457 = .ok (.aload_n 0, 1) := by decide +kernel
theorem dX11_init_458 : decode cX11_init 458 = .ok (.iconst 3, 1) := by decide +kernel
theorem dX11_init_459 : decode cX11_init 459 = .ok (.newarray .int, 2) := by decide +kernel
theorem dX11_init_461 : decode cX11_init 461 = .ok (.putfield 156, 3) := by decide +kernel
theorem dX11_init_464 : decode cX11_init 464 = .ok (.return_, 1) := by decide +kernel
theorem dX11_thrown_0 : decode cX11_thrown 0 = .ok (.aload_n 0, 1) := by decide +kernel
theorem dX11_thrown_1 : decode cX11_thrown 1 = .ok (.getfield 159, 3) := by decide +kernel
theorem dX11_thrown_4 : decode cX11_thrown 4 = .ok (.ireturn, 1) := by decide +kernel
theorem dX11_fail_0 : decode cX11_fail 0 = .ok (.aload_n 0, 1) := by decide +kernel
theorem dX11_fail_1 : decode cX11_fail 1 = .ok (.iload_n 1, 1) := by decide +kernel
theorem dX11_fail_2 : decode cX11_fail 2 = .ok (.putfield 159, 3) := by decide +kernel
theorem dX11_fail_5 : decode cX11_fail 5 = .ok (.iconst 0, 1) := by decide +kernel
theorem dX11_fail_6 : decode cX11_fail 6 = .ok (.ireturn, 1) := by decide +kernel
theorem dX11_isIn_0 : decode cX11_isIn 0 = .ok (.lload_n 0, 1) := by decide +kernel
theorem dX11_isIn_1 : decode cX11_isIn 1 = .ok (.lload_n 2, 1) := by decide +kernel
theorem dX11_isIn_2 : decode cX11_isIn 2 = .ok (.lcmp, 1) := by decide +kernel
theorem dX11_isIn_3 : decode cX11_isIn 3 = .ok (.ifCond .lt 14, 3) := by decide +kernel
theorem dX11_isIn_6 : decode cX11_isIn 6 = .ok (.lload_n 0, 1) := by decide +kernel
theorem dX11_isIn_7 : decode cX11_isIn 7 = .ok (.lload 4, 2) := by decide +kernel
theorem dX11_isIn_9 : decode cX11_isIn 9 = .ok (.lcmp, 1) := by decide +kernel
theorem dX11_isIn_10 : decode cX11_isIn 10 = .ok (.ifCond .gt 7, 3) := by decide +kernel
theorem dX11_isIn_13 : decode cX11_isIn 13 = .ok (.iconst 1, 1) := by decide +kernel
theorem dX11_isIn_14 : decode cX11_isIn 14 = .ok (.goto 4, 3) := by decide +kernel
theorem dX11_isIn_17 : decode cX11_isIn 17 = .ok (.iconst 0, 1) := by decide +kernel
theorem dX11_isIn_18 : decode cX11_isIn 18 = .ok (.ireturn, 1) := by decide +kernel
theorem dX11_isOf_0 : decode cX11_isOf 0 = .ok (.iload_n 0, 1) := by decide +kernel
theorem dX11_isOf_1 : decode cX11_isOf 1 = .ok (.iload_n 1, 1) := by decide +kernel
theorem dX11_isOf_2 : decode cX11_isOf 2 = .ok (.ishr, 1) := by decide +kernel
theorem dX11_isOf_3 : decode cX11_isOf 3 = .ok (.iconst 1, 1) := by decide +kernel
theorem dX11_isOf_4 : decode cX11_isOf 4 = .ok (.iand, 1) := by decide +kernel
theorem dX11_isOf_5 : decode cX11_isOf 5 = .ok (.iconst 1, 1) := by decide +kernel
theorem dX11_isOf_6 : decode cX11_isOf 6 = .ok (.if_icmp .ne 7, 3) := by decide +kernel
theorem dX11_isOf_9 : decode cX11_isOf 9 = .ok (.iconst 1, 1) := by decide +kernel
theorem dX11_isOf_10 : decode cX11_isOf 10 = .ok (.goto 4, 3) := by decide +kernel
theorem dX11_isOf_13 : decode cX11_isOf 13 = .ok (.iconst 0, 1) := by decide +kernel
theorem dX11_isOf_14 : decode cX11_isOf 14 = .ok (.ireturn, 1) := by decide +kernel
theorem dX11_isValley_0 : decode cX11_isValley 0 = .ok (.iload_n 1, 1) := by decide +kernel
theorem dX11_isValley_1 : decode cX11_isValley 1 = .ok (.i2l, 1) := by decide +kernel
theorem dX11_isValley_2 : decode cX11_isValley 2 = .ok (.lconst 0, 1) := by decide +kernel
theorem dX11_isValley_3 : decode cX11_isValley 3 = .ok (.aload_n 0, 1) := by decide +kernel
theorem dX11_isValley_4 : decode cX11_isValley 4 = .ok (.getfield 45, 3) := by decide +kernel
theorem dX11_isValley_7 : decode cX11_isValley 7 = .ok (.iconst 0, 1) := by decide +kernel
theorem dX11_isValley_8 : decode cX11_isValley 8 = .ok (.iaload, 1) := by decide +kernel
theorem dX11_isValley_9 : decode cX11_isValley 9 = .ok (.iconst 1, 1) := by decide +kernel
theorem dX11_isValley_10 : decode cX11_isValley 10 = .ok (.isub, 1) := by decide +kernel
theorem dX11_isValley_11 : decode cX11_isValley 11 = .ok (.i2l, 1) := by decide +kernel
theorem dX11_isValley_12 : decode cX11_isValley 12 = .ok (.invokestatic 162, 3) := by decide +kernel
theorem dX11_isValley_15 : decode cX11_isValley 15 = .ok (.ireturn, 1) := by decide +kernel
theorem dX11_isDance_0 : decode cX11_isDance 0 = .ok (.iload_n 1, 1) := by decide +kernel
theorem dX11_isDance_1 : decode cX11_isDance 1 = .ok (.i2l, 1) := by decide +kernel
theorem dX11_isDance_2 : decode cX11_isDance 2 = .ok (.lconst 0, 1) := by decide +kernel
theorem dX11_isDance_3 : decode cX11_isDance 3 = .ok (.aload_n 0, 1) := by decide +kernel
theorem dX11_isDance_4 : decode cX11_isDance 4 = .ok (.getfield 45, 3) := by decide +kernel
theorem dX11_isDance_7 : decode cX11_isDance 7 = .ok (.iconst 1, 1) := by decide +kernel
theorem dX11_isDance_8 : decode cX11_isDance 8 = .ok (.iaload, 1) := by decide +kernel
theorem dX11_isDance_9 : decode cX11_isDance 9 = .ok (.iconst 1, 1) := by decide +kernel
theorem dX11_isDance_10 : decode cX11_isDance 10 = .ok (.isub, 1) := by decide +kernel
theorem dX11_isDance_11 : decode cX11_isDance 11 = .ok (.i2l, 1) := by decide +kernel
theorem dX11_isDance_12 : decode cX11_isDance 12 = .ok (.invokestatic 162, 3) := by decide +kernel
theorem dX11_isDance_15 : decode cX11_isDance 15 = .ok (.ireturn, 1) := by decide +kernel
theorem dX11_isStep_0 : decode cX11_isStep 0 = .ok (.aload_n 0, 1) := by decide +kernel
theorem dX11_isStep_1 : decode cX11_isStep 1 = .ok (.iload_n 1, 1) := by decide +kernel
theorem dX11_isStep_2 : decode cX11_isStep 2 = .ok (.invokevirtual 166, 3) := by decide +kernel
theorem dX11_isStep_5 : decode cX11_isStep 5 = .ok (.ifCond .eq 25, 3) := by decide +kernel
theorem dX11_isStep_8 : decode cX11_isStep 8 = .ok (.iload_n 2, 1) := by decide +kernel
theorem dX11_isStep_9 : decode cX11_isStep 9 = .ok (.i2l, 1) := by decide +kernel
theorem dX11_isStep_10 : decode cX11_isStep 10 = .ok (.lconst 0, 1) := by decide +kernel
theorem dX11_isStep_11 : decode cX11_isStep 11 = .ok (.aload_n 0, 1) := by decide +kernel
theorem dX11_isStep_12 : decode cX11_isStep 12 = .ok (.getfield 59, 3) := by decide +kernel
theorem dX11_isStep_15 : decode cX11_isStep 15 = .ok (.iload_n 1, 1) := by decide +kernel
theorem dX11_isStep_16 : decode cX11_isStep 16 = .ok (.iaload, 1) := by decide +kernel
theorem dX11_isStep_17 : decode cX11_isStep 17 = .ok (.iconst 1, 1) := by decide +kernel
theorem dX11_isStep_18 : decode cX11_isStep 18 = .ok (.isub, 1) := by decide +kernel
theorem dX11_isStep_19 : decode cX11_isStep 19 = .ok (.i2l, 1) := by decide +kernel
theorem dX11_isStep_20 : decode cX11_isStep 20 = .ok (.invokestatic 162, 3) := by decide +kernel
theorem dX11_isStep_23 : decode cX11_isStep 23 = .ok (.ifCond .eq 7, 3) := by decide +kernel
theorem dX11_isStep_26 : decode cX11_isStep 26 = .ok (.iconst 1, 1) := by decide +kernel
theorem dX11_isStep_27 : decode cX11_isStep 27 = .ok (.goto 4, 3) := by decide +kernel
theorem dX11_isStep_30 : decode cX11_isStep 30 = .ok (.iconst 0, 1) := by decide +kernel
theorem dX11_isStep_31 : decode cX11_isStep 31 = .ok (.ireturn, 1) := by decide +kernel
theorem dX11_isAbout_0 : decode cX11_isAbout 0 = .ok (.iload_n 0, 1) := by decide +kernel
theorem dX11_isAbout_1 : decode cX11_isAbout 1 = .ok (.i2l, 1) := by decide +kernel
theorem dX11_isAbout_2 : decode cX11_isAbout 2 = .ok (.lconst 0, 1) := by decide +kernel
theorem dX11_isAbout_3 : decode cX11_isAbout 3 = .ok (.ldc2_w 170, 3) := by decide +kernel
theorem dX11_isAbout_6 : decode cX11_isAbout 6 = .ok (.invokestatic 162, 3) := by decide +kernel
theorem dX11_isAbout_9 : decode cX11_isAbout 9 = .ok (.ireturn, 1) := by decide +kernel
theorem dX11_feed_0 : decode cX11_feed 0 = .ok (.aload_n 0, 1) := by decide +kernel
theorem dX11_feed_1 : decode cX11_feed 1 = .ok (.iconst 0, 1) := by decide +kernel
theorem dX11_feed_2 : decode cX11_feed 2 = .ok (.putfield 159, 3) := by decide +kernel
theorem dX11_feed_5 : decode cX11_feed 5 = .ok (.aload_n 0, 1) := by decide +kernel
theorem dX11_feed_6 : decode cX11_feed 6 = .ok (.getfield 172, 3) := by decide +kernel
theorem dX11_feed_9 : decode cX11_feed 9 = .ok (.bipush 20, 2) := by decide +kernel
theorem dX11_feed_11 : decode cX11_feed 11 = .ok (.iadd, 1) := by decide +kernel
theorem dX11_feed_12 : decode cX11_feed 12 = .ok (.sipush 700, 3) := by decide +kernel
theorem dX11_feed_15 : decode cX11_feed 15 = .ok (.if_icmp .le 5, 3) := by decide +kernel
theorem dX11_feed_18 : decode cX11_feed 18 = .ok (.iconst (-1), 1) := by decide +kernel
theorem dX11_feed_19 : decode cX11_feed 19 = .ok (.ireturn, 1) := by decide +kernel
theorem dX11_feed_20 : decode cX11_feed 20 = .ok (.iconst 0, 1) := by decide +kernel
theorem dX11_feed_21 : decode cX11_feed 21 = .ok (.istore 6, 2) := by decide +kernel
theorem dX11_feed_23 : decode cX11_feed 23 = .ok (.iload 6, 2) := by decide +kernel
theorem dX11_feed_25 : decode cX11_feed 25 = .ok (.bipush 20, 2) := by decide +kernel
theorem dX11_feed_27 : decode cX11_feed 27 = .ok (.if_icmp .ge 93, 3) := by decide +kernel
theorem dX11_feed_30 : decode cX11_feed 30 = .ok (.iload 6, 2) := by decide +kernel
theorem dX11_feed_32 : decode cX11_feed 32 = .ok (.iconst 4, 1) := by decide +kernel
theorem dX11_feed_33 : decode cX11_feed 33 = .ok (.if_icmp .ge 7, 3) := by decide +kernel
theorem dX11_feed_36 : decode cX11_feed 36 = .ok (.iload_n 1, 1) := by decide +kernel
theorem dX11_feed_37 : decode cX11_feed 37 = .ok (.goto 39, 3) := by decide +kernel
theorem dX11_feed_40 : decode cX11_feed 40 = .ok (.iload 6, 2) := by decide +kernel
theorem dX11_feed_42 : decode cX11_feed 42 = .ok (.bipush 8, 2) := by decide +kernel
theorem dX11_feed_44 : decode cX11_feed 44 = .ok (.if_icmp .ge 7, 3) := by decide +kernel
theorem dX11_feed_47 : decode cX11_feed 47 = .ok (.iload_n 2, 1) := by decide +kernel
theorem dX11_feed_48 : decode cX11_feed 48 = .ok (.goto 28, 3) := by decide +kernel
theorem dX11_feed_51 : decode cX11_feed 51 = .ok (.iload 6, 2) := by decide +kernel
theorem dX11_feed_53 : decode cX11_feed 53 = .ok (.bipush 12, 2) := by decide +kernel
theorem dX11_feed_55 : decode cX11_feed 55 = .ok (.if_icmp .ge 7, 3) := by decide +kernel
theorem dX11_feed_58 : decode cX11_feed 58 = .ok (.iload_n 3, 1) := by decide +kernel
theorem dX11_feed_59 : decode cX11_feed 59 = .ok (.goto 17, 3) := by decide +kernel
theorem dX11_feed_62 : decode cX11_feed 62 = .ok (.iload 6, 2) := by decide +kernel
theorem dX11_feed_64 : decode cX11_feed 64 = .ok (.bipush 16, 2) := by decide +kernel
theorem dX11_feed_66 : decode cX11_feed 66 = .ok (.if_icmp .ge 8, 3) := by decide +kernel
theorem dX11_feed_69 : decode cX11_feed 69 = .ok (.iload 4, 2) := by decide +kernel
theorem dX11_feed_71 : decode cX11_feed 71 = .ok (.goto 5, 3) := by decide +kernel
theorem dX11_feed_74 : decode cX11_feed 74 = .ok (.iload 5, 2) := by decide +kernel
theorem dX11_feed_76 : decode cX11_feed 76 = .ok (.istore 7, 2) := by decide +kernel
theorem dX11_feed_78 : decode cX11_feed 78 = .ok (.aload_n 0, 1) := by decide +kernel
theorem dX11_feed_79 : decode cX11_feed 79 = .ok (.getfield 80, 3) := by decide +kernel
theorem dX11_feed_82 : decode cX11_feed 82 = .ok (.aload_n 0, 1) := by decide +kernel
theorem dX11_feed_83 : decode cX11_feed 83 = .ok (.getfield 172, 3) := by decide +kernel
theorem dX11_feed_86 : decode cX11_feed 86 = .ok (.iload 7, 2) := by decide +kernel
theorem dX11_feed_88 : decode cX11_feed 88 = .ok (.bipush 24, 2) := by decide +kernel
theorem dX11_feed_90 : decode cX11_feed 90 = .ok (.bipush 8, 2) := by decide +kernel
theorem dX11_feed_92 : decode cX11_feed 92 = .ok (.iload 6, 2) := by decide +kernel
theorem dX11_feed_94 : decode cX11_feed 94 = .ok (.iconst 4, 1) := by decide +kernel
theorem dX11_feed_95 : decode cX11_feed 95 = .ok (.irem, 1) := by decide +kernel
theorem dX11_feed_96 : decode cX11_feed 96 = .ok (.imul, 1) := by decide +kernel
theorem dX11_feed_97 : decode cX11_feed 97 = .ok (.isub, 1) := by decide +kernel
theorem dX11_feed_98 : decode cX11_feed 98 = .ok (.ishr, 1) := by decide +kernel
theorem dX11_feed_99 : decode cX11_feed 99 = .ok (.sipush 255, 3) := by decide +kernel
theorem dX11_feed_102 : decode cX11_feed 102 = .ok (.iand, 1) := by decide +kernel
theorem dX11_feed_103 : decode cX11_feed 103 = .ok (.iastore, 1) := by decide +kernel
theorem dX11_feed_104 : decode cX11_feed 104 = .ok (.aload_n 0, 1) := by decide +kernel
theorem dX11_feed_105 : decode cX11_feed 105 = .ok (.dup, 1) := by decide +kernel
theorem dX11_feed_106 : decode cX11_feed 106 = .ok (.getfield 172, 3) := by decide +kernel
theorem dX11_feed_109 : decode cX11_feed 109 = .ok (.iconst 1, 1) := by decide +kernel
theorem dX11_feed_110 : decode cX11_feed 110 = .ok (.iadd, 1) := by decide +kernel
theorem dX11_feed_111 : decode cX11_feed 111 = .ok (.putfield 172, 3) := by decide +kernel
theorem dX11_feed_114 : decode cX11_feed 114 = .ok (.iinc 6 1, 3) := by decide +kernel
theorem dX11_feed_117 : decode cX11_feed 117 = .ok (.goto (-94), 3) := by decide +kernel
theorem dX11_feed_120 : decode cX11_feed 120 = .ok (.aload_n 0, 1) := by decide +kernel
theorem dX11_feed_121 : decode cX11_feed 121 = .ok (.getfield 172, 3) := by decide +kernel
theorem dX11_feed_124 : decode cX11_feed 124 = .ok (.ireturn, 1) := by decide +kernel
theorem dX11_byteAt_0 : decode cX11_byteAt 0 = .ok (.iload_n 1, 1) := by decide +kernel
theorem dX11_byteAt_1 : decode cX11_byteAt 1 = .ok (.aload_n 0, 1) := by decide +kernel
theorem dX11_byteAt_2 : decode cX11_byteAt 2 = .ok (.getfield 175, 3) := by decide +kernel
theorem dX11_byteAt_5 : decode cX11_byteAt 5 = .ok (.if_icmp .ge 12, 3) := by decide +kernel
theorem dX11_byteAt_8 : decode cX11_byteAt 8 = .ok (.aload_n 0, 1) := by decide +kernel
theorem dX11_byteAt_9 : decode cX11_byteAt 9 = .ok (.getfield 80, 3) := by decide +kernel
theorem dX11_byteAt_12 : decode cX11_byteAt 12 = .ok (.iload_n 1, 1) := by decide +kernel
theorem dX11_byteAt_13 : decode cX11_byteAt 13 = .ok (.iaload, 1) := by decide +kernel
theorem dX11_byteAt_14 : decode cX11_byteAt 14 = .ok (.goto 4, 3) := by decide +kernel
theorem dX11_byteAt_17 : decode cX11_byteAt 17 = .ok (.iconst (-1), 1) := by decide +kernel
theorem dX11_byteAt_18 : decode cX11_byteAt 18 = .ok (.ireturn, 1) := by decide +kernel
theorem dX11_isLetter_0 : decode cX11_isLetter 0 = .ok (.iload_n 0, 1) := by decide +kernel
theorem dX11_isLetter_1 : decode cX11_isLetter 1 = .ok (.bipush 97, 2) := by decide +kernel
theorem dX11_isLetter_3 : decode cX11_isLetter 3 = .ok (.if_icmp .lt 13, 3) := by decide +kernel
theorem dX11_isLetter_6 : decode cX11_isLetter 6 = .ok (.iload_n 0, 1) := by decide +kernel
theorem dX11_isLetter_7 : decode cX11_isLetter 7 = .ok (.bipush 122, 2) := by decide +kernel
theorem dX11_isLetter_9 : decode cX11_isLetter 9 = .ok (.if_icmp .gt 7, 3) := by decide +kernel
theorem dX11_isLetter_12 : decode cX11_isLetter 12 = .ok (.iconst 1, 1) := by decide +kernel
theorem dX11_isLetter_13 : decode cX11_isLetter 13 = .ok (.goto 4, 3) := by decide +kernel
theorem dX11_isLetter_16 : decode cX11_isLetter 16 = .ok (.iconst 0, 1) := by decide +kernel
theorem dX11_isLetter_17 : decode cX11_isLetter 17 = .ok (.ireturn, 1) := by decide +kernel
theorem dX11_isDigit_0 : decode cX11_isDigit 0 = .ok (.iload_n 0, 1) := by decide +kernel
theorem dX11_isDigit_1 : decode cX11_isDigit 1 = .ok (.bipush 48, 2) := by decide +kernel
theorem dX11_isDigit_3 : decode cX11_isDigit 3 = .ok (.if_icmp .lt 13, 3) := by decide +kernel
theorem dX11_isDigit_6 : decode cX11_isDigit 6 = .ok (.iload_n 0, 1) := by decide +kernel
theorem dX11_isDigit_7 : decode cX11_isDigit 7 = .ok (.bipush 57, 2) := by decide +kernel
theorem dX11_isDigit_9 : decode cX11_isDigit 9 = .ok (.if_icmp .gt 7, 3) := by decide +kernel
theorem dX11_isDigit_12 : decode cX11_isDigit 12 = .ok (.iconst 1, 1) := by decide +kernel
theorem dX11_isDigit_13 : decode cX11_isDigit 13 = .ok (.goto 4, 3) := by decide +kernel
theorem dX11_isDigit_16 : decode cX11_isDigit 16 = .ok (.iconst 0, 1) := by decide +kernel
theorem dX11_isDigit_17 : decode cX11_isDigit 17 = .ok (.ireturn, 1) := by decide +kernel
theorem dX11_isMark_0 : decode cX11_isMark 0 = .ok (.iload_n 0, 1) := by decide +kernel
theorem dX11_isMark_1 : decode cX11_isMark 1 = .ok (.bipush 59, 2) := by decide +kernel
theorem dX11_isMark_3 : decode cX11_isMark 3 = .ok (.if_icmp .eq 51, 3) := by decide +kernel
theorem dX11_isMark_6 : decode cX11_isMark 6 = .ok (.iload_n 0, 1) := by decide +kernel
theorem dX11_isMark_7 : decode cX11_isMark 7 = .ok (.bipush 40, 2) := by decide +kernel
theorem dX11_isMark_9 : decode cX11_isMark 9 = .ok (.if_icmp .eq 45, 3) := by decide +kernel
theorem dX11_isMark_12 : decode cX11_isMark 12 = .ok (.iload_n 0, 1) := by decide +kernel
theorem dX11_isMark_13 : decode cX11_isMark 13 = .ok (.bipush 41, 2) := by decide +kernel
theorem dX11_isMark_15 : decode cX11_isMark 15 = .ok (.if_icmp .eq 39, 3) := by decide +kernel
theorem dX11_isMark_18 : decode cX11_isMark 18 = .ok (.iload_n 0, 1) := by decide +kernel
theorem dX11_isMark_19 : decode cX11_isMark 19 = .ok (.bipush 43, 2) := by decide +kernel
theorem dX11_isMark_21 : decode cX11_isMark 21 = .ok (.if_icmp .eq 33, 3) := by decide +kernel
theorem dX11_isMark_24 : decode cX11_isMark 24 = .ok (.iload_n 0, 1) := by decide +kernel
theorem dX11_isMark_25 : decode cX11_isMark 25 = .ok (.bipush 45, 2) := by decide +kernel
theorem dX11_isMark_27 : decode cX11_isMark 27 = .ok (.if_icmp .eq 27, 3) := by decide +kernel
theorem dX11_isMark_30 : decode cX11_isMark 30 = .ok (.iload_n 0, 1) := by decide +kernel
theorem dX11_isMark_31 : decode cX11_isMark 31 = .ok (.bipush 42, 2) := by decide +kernel
theorem dX11_isMark_33 : decode cX11_isMark 33 = .ok (.if_icmp .eq 21, 3) := by decide +kernel
theorem dX11_isMark_36 : decode cX11_isMark 36 = .ok (.iload_n 0, 1) := by decide +kernel
theorem dX11_isMark_37 : decode cX11_isMark 37 = .ok (.bipush 47, 2) := by decide +kernel
theorem dX11_isMark_39 : decode cX11_isMark 39 = .ok (.if_icmp .eq 15, 3) := by decide +kernel
theorem dX11_isMark_42 : decode cX11_isMark 42 = .ok (.iload_n 0, 1) := by decide +kernel
theorem dX11_isMark_43 : decode cX11_isMark 43 = .ok (.bipush 60, 2) := by decide +kernel
theorem dX11_isMark_45 : decode cX11_isMark 45 = .ok (.if_icmp .eq 9, 3) := by decide +kernel
theorem dX11_isMark_48 : decode cX11_isMark 48 = .ok (.iload_n 0, 1) := by decide +kernel
theorem dX11_isMark_49 : decode cX11_isMark 49 = .ok (.bipush 61, 2) := by decide +kernel
theorem dX11_isMark_51 : decode cX11_isMark 51 = .ok (.if_icmp .ne 7, 3) := by decide +kernel
theorem dX11_isMark_54 : decode cX11_isMark 54 = .ok (.iconst 1, 1) := by decide +kernel
theorem dX11_isMark_55 : decode cX11_isMark 55 = .ok (.goto 4, 3) := by decide +kernel
theorem dX11_isMark_58 : decode cX11_isMark 58 = .ok (.iconst 0, 1) := by decide +kernel
theorem dX11_isMark_59 : decode cX11_isMark 59 = .ok (.ireturn, 1) := by decide +kernel
theorem dX11_stepOn_0 : decode cX11_stepOn 0 = .ok (.aload_n 0, 1) := by decide +kernel
theorem dX11_stepOn_1 : decode cX11_stepOn 1 = .ok (.aload_n 0, 1) := by decide +kernel
theorem dX11_stepOn_2 : decode cX11_stepOn 2 = .ok (.getfield 178, 3) := by decide +kernel
theorem dX11_stepOn_5 : decode cX11_stepOn 5 = .ok (.invokevirtual 181, 3) := by decide +kernel
theorem dX11_stepOn_8 : decode cX11_stepOn 8 = .ok (.bipush 32, 2) := by decide +kernel
theorem dX11_stepOn_10 : decode cX11_stepOn 10 = .ok (.if_icmp .eq 16, 3) := by decide +kernel
theorem dX11_stepOn_13 : decode cX11_stepOn 13 = .ok (.aload_n 0, 1) := by decide +kernel
theorem dX11_stepOn_14 : decode cX11_stepOn 14 = .ok (.aload_n 0, 1) := by decide +kernel
theorem dX11_stepOn_15 : decode cX11_stepOn 15 = .ok (.getfield 178, 3) := by decide +kernel
theorem dX11_stepOn_18 : decode cX11_stepOn 18 = .ok (.invokevirtual 181, 3) := by decide +kernel
theorem dX11_stepOn_21 : decode cX11_stepOn 21 = .ok (.bipush 10, 2) := by decide +kernel
theorem dX11_stepOn_23 : decode cX11_stepOn 23 = .ok (.if_icmp .ne 16, 3) := by decide +kernel
theorem dX11_stepOn_26 : decode cX11_stepOn 26 = .ok (.aload_n 0, 1) := by decide +kernel
theorem dX11_stepOn_27 : decode cX11_stepOn 27 = .ok (.dup, 1) := by decide +kernel
theorem dX11_stepOn_28 : decode cX11_stepOn 28 = .ok (.getfield 178, 3) := by decide +kernel
theorem dX11_stepOn_31 : decode cX11_stepOn 31 = .ok (.iconst 1, 1) := by decide +kernel
theorem dX11_stepOn_32 : decode cX11_stepOn 32 = .ok (.iadd, 1) := by decide +kernel
theorem dX11_stepOn_33 : decode cX11_stepOn 33 = .ok (.putfield 178, 3) := by decide +kernel
theorem dX11_stepOn_36 : decode cX11_stepOn 36 = .ok (.goto (-36), 3) := by decide +kernel
theorem dX11_stepOn_39 : decode cX11_stepOn 39 = .ok (.aload_n 0, 1) := by decide +kernel
theorem dX11_stepOn_40 : decode cX11_stepOn 40 = .ok (.aload_n 0, 1) := by decide +kernel
theorem dX11_stepOn_41 : decode cX11_stepOn 41 = .ok (.getfield 178, 3) := by decide +kernel
theorem dX11_stepOn_44 : decode cX11_stepOn 44 = .ok (.putfield 185, 3) := by decide +kernel
theorem dX11_stepOn_47 : decode cX11_stepOn 47 = .ok (.aload_n 0, 1) := by decide +kernel
theorem dX11_stepOn_48 : decode cX11_stepOn 48 = .ok (.aload_n 0, 1) := by decide +kernel
theorem dX11_stepOn_49 : decode cX11_stepOn 49 = .ok (.getfield 178, 3) := by decide +kernel
theorem dX11_stepOn_52 : decode cX11_stepOn 52 = .ok (.invokevirtual 181, 3) := by decide +kernel
theorem dX11_stepOn_55 : decode cX11_stepOn 55 = .ok (.istore_n 1, 1) := by decide +kernel
theorem dX11_stepOn_56 : decode cX11_stepOn 56 = .ok (.iload_n 1, 1) := by decide +kernel
theorem dX11_stepOn_57 : decode cX11_stepOn 57 = .ok (.iconst (-1), 1) := by decide +kernel
theorem dX11_stepOn_58 : decode cX11_stepOn 58 = .ok (.if_icmp .ne 11, 3) := by decide +kernel
theorem dX11_stepOn_61 : decode cX11_stepOn 61 = .ok (.aload_n 0, 1) := by decide +kernel
theorem dX11_stepOn_62 : decode cX11_stepOn 62 = .ok (.iconst 0, 1) := by decide +kernel
theorem dX11_stepOn_63 : decode cX11_stepOn 63 = .ok (.putfield 188, 3) := by decide +kernel
theorem dX11_stepOn_66 : decode cX11_stepOn 66 = .ok (.goto 146, 3) := by decide +kernel
theorem dX11_stepOn_69 : decode cX11_stepOn 69 = .ok (.iload_n 1, 1) := by decide +kernel
theorem dX11_stepOn_70 : decode cX11_stepOn 70 = .ok (.invokestatic 191, 3) := by decide +kernel
theorem dX11_stepOn_73 : decode cX11_stepOn 73 = .ok (.ifCond .eq 38, 3) := by decide +kernel
theorem dX11_stepOn_76 : decode cX11_stepOn 76 = .ok (.aload_n 0, 1) := by decide +kernel
theorem dX11_stepOn_77 : decode cX11_stepOn 77 = .ok (.aload_n 0, 1) := by decide +kernel
theorem dX11_stepOn_78 : decode cX11_stepOn 78 = .ok (.getfield 178, 3) := by decide +kernel
theorem dX11_stepOn_81 : decode cX11_stepOn 81 = .ok (.invokevirtual 181, 3) := by decide +kernel
theorem dX11_stepOn_84 : decode cX11_stepOn 84 = .ok (.invokestatic 191, 3) := by decide +kernel
theorem dX11_stepOn_87 : decode cX11_stepOn 87 = .ok (.ifCond .eq 16, 3) := by decide +kernel
theorem dX11_stepOn_90 : decode cX11_stepOn 90 = .ok (.aload_n 0, 1) := by decide +kernel
theorem dX11_stepOn_91 : decode cX11_stepOn 91 = .ok (.dup, 1) := by decide +kernel
theorem dX11_stepOn_92 : decode cX11_stepOn 92 = .ok (.getfield 178, 3) := by decide +kernel
theorem dX11_stepOn_95 : decode cX11_stepOn 95 = .ok (.iconst 1, 1) := by decide +kernel
theorem dX11_stepOn_96 : decode cX11_stepOn 96 = .ok (.iadd, 1) := by decide +kernel
theorem dX11_stepOn_97 : decode cX11_stepOn 97 = .ok (.putfield 178, 3) := by decide +kernel
theorem dX11_stepOn_100 : decode cX11_stepOn 100 = .ok (.goto (-24), 3) := by decide +kernel
theorem dX11_stepOn_103 : decode cX11_stepOn 103 = .ok (.aload_n 0, 1) := by decide +kernel
theorem dX11_stepOn_104 : decode cX11_stepOn 104 = .ok (.iconst 1, 1) := by decide +kernel
theorem dX11_stepOn_105 : decode cX11_stepOn 105 = .ok (.putfield 188, 3) := by decide +kernel
theorem dX11_stepOn_108 : decode cX11_stepOn 108 = .ok (.goto 104, 3) := by decide +kernel
theorem dX11_stepOn_111 : decode cX11_stepOn 111 = .ok (.iload_n 1, 1) := by decide +kernel
theorem dX11_stepOn_112 : decode cX11_stepOn 112 = .ok (.invokestatic 194, 3) := by decide +kernel
theorem dX11_stepOn_115 : decode cX11_stepOn 115 = .ok (.ifCond .eq 71, 3) := by decide +kernel
theorem dX11_stepOn_118 : decode cX11_stepOn 118 = .ok (.aload_n 0, 1) := by decide +kernel
theorem dX11_stepOn_119 : decode cX11_stepOn 119 = .ok (.iconst 0, 1) := by decide +kernel
theorem dX11_stepOn_120 : decode cX11_stepOn 120 = .ok (.putfield 197, 3) := by decide +kernel
theorem dX11_stepOn_123 : decode cX11_stepOn 123 = .ok (.aload_n 0, 1) := by decide +kernel
theorem dX11_stepOn_124 : decode cX11_stepOn 124 = .ok (.aload_n 0, 1) := by decide +kernel
theorem dX11_stepOn_125 : decode cX11_stepOn 125 = .ok (.getfield 178, 3) := by decide +kernel
theorem dX11_stepOn_128 : decode cX11_stepOn 128 = .ok (.invokevirtual 181, 3) := by decide +kernel
theorem dX11_stepOn_131 : decode cX11_stepOn 131 = .ok (.invokestatic 194, 3) := by decide +kernel
theorem dX11_stepOn_134 : decode cX11_stepOn 134 = .ok (.ifCond .eq 44, 3) := by decide +kernel
theorem dX11_stepOn_137 : decode cX11_stepOn 137 = .ok (.aload_n 0, 1) := by decide +kernel
theorem dX11_stepOn_138 : decode cX11_stepOn 138 = .ok (.ldc 200, 2) := by decide +kernel
theorem dX11_stepOn_140 : decode cX11_stepOn 140 = .ok (.bipush 10, 2) := by decide +kernel
theorem dX11_stepOn_142 : decode cX11_stepOn 142 = .ok (.aload_n 0, 1) := by decide +kernel
theorem dX11_stepOn_143 : decode cX11_stepOn 143 = .ok (.getfield 197, 3) := by decide +kernel
theorem dX11_stepOn_146 : decode cX11_stepOn 146 = .ok (.imul, 1) := by decide +kernel
theorem dX11_stepOn_147 : decode cX11_stepOn 147 = .ok (.aload_n 0, 1) := by decide +kernel
theorem dX11_stepOn_148 : decode cX11_stepOn 148 = .ok (.aload_n 0, 1) := by decide +kernel
theorem dX11_stepOn_149 : decode cX11_stepOn 149 = .ok (.getfield 178, 3) := by decide +kernel
theorem dX11_stepOn_152 : decode cX11_stepOn 152 = .ok (.invokevirtual 181, 3) := by decide +kernel
theorem dX11_stepOn_155 : decode cX11_stepOn 155 = .ok (.iadd, 1) := by decide +kernel
theorem dX11_stepOn_156 : decode cX11_stepOn 156 = .ok (.bipush 48, 2) := by decide +kernel
theorem dX11_stepOn_158 : decode cX11_stepOn 158 = .ok (.isub, 1) := by decide +kernel
theorem dX11_stepOn_159 : decode cX11_stepOn 159 = .ok (.invokestatic 201, 3) := by decide +kernel
theorem dX11_stepOn_162 : decode cX11_stepOn 162 = .ok (.putfield 197, 3) := by decide +kernel
theorem dX11_stepOn_165 : decode cX11_stepOn 165 = .ok (.aload_n 0, 1) := by decide +kernel
theorem dX11_stepOn_166 : decode cX11_stepOn 166 = .ok (.dup, 1) := by decide +kernel
theorem dX11_stepOn_167 : decode cX11_stepOn 167 = .ok (.getfield 178, 3) := by decide +kernel
theorem dX11_stepOn_170 : decode cX11_stepOn 170 = .ok (.iconst 1, 1) := by decide +kernel
theorem dX11_stepOn_171 : decode cX11_stepOn 171 = .ok (.iadd, 1) := by decide +kernel
theorem dX11_stepOn_172 : decode cX11_stepOn 172 = .ok (.putfield 178, 3) := by decide +kernel
theorem dX11_stepOn_175 : decode cX11_stepOn 175 = .ok (.goto (-52), 3) := by decide +kernel
theorem dX11_stepOn_178 : decode cX11_stepOn 178 = .ok (.aload_n 0, 1) := by decide +kernel
theorem dX11_stepOn_179 : decode cX11_stepOn 179 = .ok (.iconst 2, 1) := by decide +kernel
theorem dX11_stepOn_180 : decode cX11_stepOn 180 = .ok (.putfield 188, 3) := by decide +kernel
theorem dX11_stepOn_183 : decode cX11_stepOn 183 = .ok (.goto 29, 3) := by decide +kernel
theorem dX11_stepOn_186 : decode cX11_stepOn 186 = .ok (.aload_n 0, 1) := by decide +kernel
theorem dX11_stepOn_187 : decode cX11_stepOn 187 = .ok (.dup, 1) := by decide +kernel
theorem dX11_stepOn_188 : decode cX11_stepOn 188 = .ok (.getfield 178, 3) := by decide +kernel
theorem dX11_stepOn_191 : decode cX11_stepOn 191 = .ok (.iconst 1, 1) := by decide +kernel
theorem dX11_stepOn_192 : decode cX11_stepOn 192 = .ok (.iadd, 1) := by decide +kernel
theorem dX11_stepOn_193 : decode cX11_stepOn 193 = .ok (.putfield 178, 3) := by decide +kernel
theorem dX11_stepOn_196 : decode cX11_stepOn 196 = .ok (.aload_n 0, 1) := by decide +kernel
theorem dX11_stepOn_197 : decode cX11_stepOn 197 = .ok (.iload_n 1, 1) := by decide +kernel
theorem dX11_stepOn_198 : decode cX11_stepOn 198 = .ok (.invokestatic 207, 3) := by decide +kernel
theorem dX11_stepOn_201 : decode cX11_stepOn 201 = .ok (.ifCond .eq 7, 3) := by decide +kernel
theorem dX11_stepOn_204 : decode cX11_stepOn 204 = .ok (.iconst 3, 1) := by decide +kernel
theorem dX11_stepOn_205 : decode cX11_stepOn 205 = .ok (.goto 4, 3) := by decide +kernel
theorem dX11_stepOn_208 : decode cX11_stepOn 208 = .ok (.iconst 4, 1) := by decide +kernel
theorem dX11_stepOn_209 : decode cX11_stepOn 209 = .ok (.putfield 188, 3) := by decide +kernel
theorem dX11_stepOn_212 : decode cX11_stepOn 212 = .ok (.aload_n 0, 1) := by decide +kernel
theorem dX11_stepOn_213 : decode cX11_stepOn 213 = .ok (.aload_n 0, 1) := by decide +kernel
theorem dX11_stepOn_214 : decode cX11_stepOn 214 = .ok (.getfield 178, 3) := by decide +kernel
theorem dX11_stepOn_217 : decode cX11_stepOn 217 = .ok (.putfield 210, 3) := by decide +kernel
theorem dX11_stepOn_220 : decode cX11_stepOn 220 = .ok (.return_, 1) := by decide +kernel
theorem dX11_wrong_0 : decode cX11_wrong 0 = .ok (.aload_n 0, 1) := by decide +kernel
theorem dX11_wrong_1 : decode cX11_wrong 1 = .ok (.getfield 213, 3) := by decide +kernel
theorem dX11_wrong_4 : decode cX11_wrong 4 = .ok (.ifCond .eq 4, 3) := by decide +kernel
theorem dX11_wrong_7 : decode cX11_wrong 7 = .ok (.return_, 1) := by decide +kernel
theorem dX11_wrong_8 : decode cX11_wrong 8 = .ok (.aload_n 0, 1) := by decide +kernel
theorem dX11_wrong_9 : decode cX11_wrong 9 = .ok (.iload_n 1, 1) := by decide +kernel
theorem dX11_wrong_10 : decode cX11_wrong 10 = .ok (.putfield 213, 3) := by decide +kernel
theorem dX11_wrong_13 : decode cX11_wrong 13 = .ok (.aload_n 0, 1) := by decide +kernel
theorem dX11_wrong_14 : decode cX11_wrong 14 = .ok (.aload_n 0, 1) := by decide +kernel
theorem dX11_wrong_15 : decode cX11_wrong 15 = .ok (.getfield 185, 3) := by decide +kernel
theorem dX11_wrong_18 : decode cX11_wrong 18 = .ok (.putfield 216, 3) := by decide +kernel
theorem dX11_wrong_21 : decode cX11_wrong 21 = .ok (.return_, 1) := by decide +kernel
theorem dX11_is_0 : decode cX11_is 0 = .ok (.aload_n 0, 1) := by decide +kernel
theorem dX11_is_1 : decode cX11_is 1 = .ok (.getfield 213, 3) := by decide +kernel
theorem dX11_is_4 : decode cX11_is 4 = .ok (.ifCond .ne 31, 3) := by decide +kernel
theorem dX11_is_7 : decode cX11_is 7 = .ok (.aload_n 0, 1) := by decide +kernel
theorem dX11_is_8 : decode cX11_is 8 = .ok (.getfield 188, 3) := by decide +kernel
theorem dX11_is_11 : decode cX11_is 11 = .ok (.iconst 1, 1) := by decide +kernel
theorem dX11_is_12 : decode cX11_is 12 = .ok (.if_icmp .ne 23, 3) := by decide +kernel
theorem dX11_is_15 : decode cX11_is 15 = .ok (.aload_n 1, 1) := by decide +kernel
theorem dX11_is_16 : decode cX11_is 16 = .ok (.invokevirtual 219, 3) := by decide +kernel
theorem dX11_is_19 : decode cX11_is 19 = .ok (.aload_n 0, 1) := by decide +kernel
theorem dX11_is_20 : decode cX11_is 20 = .ok (.getfield 210, 3) := by decide +kernel
theorem dX11_is_23 : decode cX11_is 23 = .ok (.aload_n 0, 1) := by decide +kernel
theorem dX11_is_24 : decode cX11_is 24 = .ok (.getfield 185, 3) := by decide +kernel
theorem dX11_is_27 : decode cX11_is 27 = .ok (.isub, 1) := by decide +kernel
theorem dX11_is_28 : decode cX11_is 28 = .ok (.if_icmp .ne 7, 3) := by decide +kernel
theorem dX11_is_31 : decode cX11_is 31 = .ok (.iconst 1, 1) := by decide +kernel
theorem dX11_is_32 : decode cX11_is 32 = .ok (.goto 4, 3) := by decide +kernel
theorem dX11_is_35 : decode cX11_is 35 = .ok (.iconst 0, 1) := by decide +kernel
theorem dX11_is_36 : decode cX11_is 36 = .ok (.istore_n 2, 1) := by decide +kernel
theorem dX11_is_37 : decode cX11_is 37 = .ok (.iconst 0, 1) := by decide +kernel
theorem dX11_is_38 : decode cX11_is 38 = .ok (.istore_n 3, 1) := by decide +kernel
theorem dX11_is_39 : decode cX11_is 39 = .ok (.iload_n 2, 1) := by decide +kernel
theorem dX11_is_40 : decode cX11_is 40 = .ok (.ifCond .eq 42, 3) := by decide +kernel
theorem dX11_is_43 : decode cX11_is 43 = .ok (.iload_n 3, 1) := by decide +kernel
theorem dX11_is_44 : decode cX11_is 44 = .ok (.aload_n 1, 1) := by decide +kernel
theorem dX11_is_45 : decode cX11_is 45 = .ok (.invokevirtual 219, 3) := by decide +kernel
theorem dX11_is_48 : decode cX11_is 48 = .ok (.if_icmp .ge 34, 3) := by decide +kernel
theorem dX11_is_51 : decode cX11_is 51 = .ok (.aload_n 1, 1) := by decide +kernel
theorem dX11_is_52 : decode cX11_is 52 = .ok (.iload_n 3, 1) := by decide +kernel
theorem dX11_is_53 : decode cX11_is 53 = .ok (.invokevirtual 223, 3) := by decide +kernel
theorem dX11_is_56 : decode cX11_is 56 = .ok (.aload_n 0, 1) := by decide +kernel
theorem dX11_is_57 : decode cX11_is 57 = .ok (.getfield 80, 3) := by decide +kernel
theorem dX11_is_60 : decode cX11_is 60 = .ok (.aload_n 0, 1) := by decide +kernel
theorem dX11_is_61 : decode cX11_is 61 = .ok (.getfield 185, 3) := by decide +kernel
theorem dX11_is_64 : decode cX11_is 64 = .ok (.iload_n 3, 1) := by decide +kernel
theorem dX11_is_65 : decode cX11_is 65 = .ok (.iadd, 1) := by decide +kernel
theorem dX11_is_66 : decode cX11_is 66 = .ok (.iaload, 1) := by decide +kernel
theorem dX11_is_67 : decode cX11_is 67 = .ok (.if_icmp .ne 7, 3) := by decide +kernel
theorem dX11_is_70 : decode cX11_is 70 = .ok (.iconst 1, 1) := by decide +kernel
theorem dX11_is_71 : decode cX11_is 71 = .ok (.goto 4, 3) := by decide +kernel
theorem dX11_is_74 : decode cX11_is 74 = .ok (.iconst 0, 1) := by decide +kernel
theorem dX11_is_75 : decode cX11_is 75 = .ok (.istore_n 2, 1) := by decide +kernel
theorem dX11_is_76 : decode cX11_is 76 = .ok (.iinc 3 1, 3) := by decide +kernel
theorem dX11_is_79 : decode cX11_is 79 = .ok (.goto (-40), 3) := by decide +kernel
theorem dX11_is_82 : decode cX11_is 82 = .ok (.iload_n 2, 1) := by decide +kernel
theorem dX11_is_83 : decode cX11_is 83 = .ok (.ireturn, 1) := by decide +kernel
theorem dX11_which_0 : decode cX11_which 0 = .ok (.iconst 0, 1) := by decide +kernel
theorem dX11_which_1 : decode cX11_which 1 = .ok (.istore_n 2, 1) := by decide +kernel
theorem dX11_which_2 : decode cX11_which 2 = .ok (.iload_n 2, 1) := by decide +kernel
theorem dX11_which_3 : decode cX11_which 3 = .ok (.aload_n 1, 1) := by decide +kernel
theorem dX11_which_4 : decode cX11_which 4 = .ok (.arraylength, 1) := by decide +kernel
theorem dX11_which_5 : decode cX11_which 5 = .ok (.if_icmp .ge 21, 3) := by decide +kernel
theorem dX11_which_8 : decode cX11_which 8 = .ok (.aload_n 0, 1) := by decide +kernel
theorem dX11_which_9 : decode cX11_which 9 = .ok (.aload_n 1, 1) := by decide +kernel
theorem dX11_which_10 : decode cX11_which 10 = .ok (.iload_n 2, 1) := by decide +kernel
theorem dX11_which_11 : decode cX11_which 11 = .ok (.aaload, 1) := by decide +kernel
theorem dX11_which_12 : decode cX11_which 12 = .ok (.invokevirtual 227, 3) := by decide +kernel
theorem dX11_which_15 : decode cX11_which 15 = .ok (.ifCond .eq 5, 3) := by decide +kernel
theorem dX11_which_18 : decode cX11_which 18 = .ok (.iload_n 2, 1) := by decide +kernel
theorem dX11_which_19 : decode cX11_which 19 = .ok (.ireturn, 1) := by decide +kernel
theorem dX11_which_20 : decode cX11_which 20 = .ok (.iinc 2 1, 3) := by decide +kernel
theorem dX11_which_23 : decode cX11_which 23 = .ok (.goto (-21), 3) := by decide +kernel
theorem dX11_which_26 : decode cX11_which 26 = .ok (.iconst (-1), 1) := by decide +kernel
theorem dX11_which_27 : decode cX11_which 27 = .ok (.ireturn, 1) := by decide +kernel
theorem dX11_isMarked_0 : decode cX11_isMarked 0 = .ok (.aload_n 0, 1) := by decide +kernel
theorem dX11_isMarked_1 : decode cX11_isMarked 1 = .ok (.getfield 213, 3) := by decide +kernel
theorem dX11_isMarked_4 : decode cX11_isMarked 4 = .ok (.ifCond .ne 28, 3) := by decide +kernel
theorem dX11_isMarked_7 : decode cX11_isMarked 7 = .ok (.aload_n 0, 1) := by decide +kernel
theorem dX11_isMarked_8 : decode cX11_isMarked 8 = .ok (.getfield 188, 3) := by decide +kernel
theorem dX11_isMarked_11 : decode cX11_isMarked 11 = .ok (.iconst 3, 1) := by decide +kernel
theorem dX11_isMarked_12 : decode cX11_isMarked 12 = .ok (.if_icmp .ne 20, 3) := by decide +kernel
theorem dX11_isMarked_15 : decode cX11_isMarked 15 = .ok (.aload_n 0, 1) := by decide +kernel
theorem dX11_isMarked_16 : decode cX11_isMarked 16 = .ok (.getfield 80, 3) := by decide +kernel
theorem dX11_isMarked_19 : decode cX11_isMarked 19 = .ok (.aload_n 0, 1) := by decide +kernel
theorem dX11_isMarked_20 : decode cX11_isMarked 20 = .ok (.getfield 185, 3) := by decide +kernel
theorem dX11_isMarked_23 : decode cX11_isMarked 23 = .ok (.iaload, 1) := by decide +kernel
theorem dX11_isMarked_24 : decode cX11_isMarked 24 = .ok (.iload_n 1, 1) := by decide +kernel
theorem dX11_isMarked_25 : decode cX11_isMarked 25 = .ok (.if_icmp .ne 7, 3) := by decide +kernel
theorem dX11_isMarked_28 : decode cX11_isMarked 28 = .ok (.iconst 1, 1) := by decide +kernel
theorem dX11_isMarked_29 : decode cX11_isMarked 29 = .ok (.goto 4, 3) := by decide +kernel
theorem dX11_isMarked_32 : decode cX11_isMarked 32 = .ok (.iconst 0, 1) := by decide +kernel
theorem dX11_isMarked_33 : decode cX11_isMarked 33 = .ok (.ireturn, 1) := by decide +kernel
theorem dX11_mark_0 : decode cX11_mark 0 = .ok (.aload_n 0, 1) := by decide +kernel
theorem dX11_mark_1 : decode cX11_mark 1 = .ok (.getfield 213, 3) := by decide +kernel
theorem dX11_mark_4 : decode cX11_mark 4 = .ok (.ifCond .ne 16, 3) := by decide +kernel
theorem dX11_mark_7 : decode cX11_mark 7 = .ok (.aload_n 0, 1) := by decide +kernel
theorem dX11_mark_8 : decode cX11_mark 8 = .ok (.iload_n 1, 1) := by decide +kernel
theorem dX11_mark_9 : decode cX11_mark 9 = .ok (.invokevirtual 231, 3) := by decide +kernel
theorem dX11_mark_12 : decode cX11_mark 12 = .ok (.ifCond .ne 8, 3) := by decide +kernel
theorem dX11_mark_15 : decode cX11_mark 15 = .ok (.aload_n 0, 1) := by decide +kernel
theorem dX11_mark_16 : decode cX11_mark 16 = .ok (.iconst 1, 1) := by decide +kernel
theorem dX11_mark_17 : decode cX11_mark 17 = .ok (.invokevirtual 234, 3) := by decide +kernel
theorem dX11_mark_20 : decode cX11_mark 20 = .ok (.aload_n 0, 1) := by decide +kernel
theorem dX11_mark_21 : decode cX11_mark 21 = .ok (.getfield 213, 3) := by decide +kernel
theorem dX11_mark_24 : decode cX11_mark 24 = .ok (.ifCond .ne 7, 3) := by decide +kernel
theorem dX11_mark_27 : decode cX11_mark 27 = .ok (.aload_n 0, 1) := by decide +kernel
theorem dX11_mark_28 : decode cX11_mark 28 = .ok (.invokevirtual 238, 3) := by decide +kernel
theorem dX11_mark_31 : decode cX11_mark 31 = .ok (.return_, 1) := by decide +kernel
theorem dX11_numberNow_0 : decode cX11_numberNow 0 = .ok (.aload_n 0, 1) := by decide +kernel
theorem dX11_numberNow_1 : decode cX11_numberNow 1 = .ok (.getfield 213, 3) := by decide +kernel
theorem dX11_numberNow_4 : decode cX11_numberNow 4 = .ok (.ifCond .eq 5, 3) := by decide +kernel
theorem dX11_numberNow_7 : decode cX11_numberNow 7 = .ok (.iconst 0, 1) := by decide +kernel
theorem dX11_numberNow_8 : decode cX11_numberNow 8 = .ok (.ireturn, 1) := by decide +kernel
theorem dX11_numberNow_9 : decode cX11_numberNow 9 = .ok (.aload_n 0, 1) := by decide +kernel
theorem dX11_numberNow_10 : decode cX11_numberNow 10 = .ok (.getfield 188, 3) := by decide +kernel
theorem dX11_numberNow_13 : decode cX11_numberNow 13 = .ok (.iconst 2, 1) := by decide +kernel
theorem dX11_numberNow_14 : decode cX11_numberNow 14 = .ok (.if_icmp .eq 11, 3) := by decide +kernel
theorem dX11_numberNow_17 : decode cX11_numberNow 17 = .ok (.aload_n 0, 1) := by decide +kernel
theorem dX11_numberNow_18 : decode cX11_numberNow 18 = .ok (.iconst 1, 1) := by decide +kernel
theorem dX11_numberNow_19 : decode cX11_numberNow 19 = .ok (.invokevirtual 234, 3) := by decide +kernel
theorem dX11_numberNow_22 : decode cX11_numberNow 22 = .ok (.goto 37, 3) := by decide +kernel
theorem dX11_numberNow_25 : decode cX11_numberNow 25 = .ok (.aload_n 0, 1) := by decide +kernel
theorem dX11_numberNow_26 : decode cX11_numberNow 26 = .ok (.getfield 210, 3) := by decide +kernel
theorem dX11_numberNow_29 : decode cX11_numberNow 29 = .ok (.aload_n 0, 1) := by decide +kernel
theorem dX11_numberNow_30 : decode cX11_numberNow 30 = .ok (.getfield 185, 3) := by decide +kernel
theorem dX11_numberNow_33 : decode cX11_numberNow 33 = .ok (.isub, 1) := by decide +kernel
theorem dX11_numberNow_34 : decode cX11_numberNow 34 = .ok (.iconst 4, 1) := by decide +kernel
theorem dX11_numberNow_35 : decode cX11_numberNow 35 = .ok (.if_icmp .gt 19, 3) := by decide +kernel
theorem dX11_numberNow_38 : decode cX11_numberNow 38 = .ok (.aload_n 0, 1) := by decide +kernel
theorem dX11_numberNow_39 : decode cX11_numberNow 39 = .ok (.getfield 197, 3) := by decide +kernel
theorem dX11_numberNow_42 : decode cX11_numberNow 42 = .ok (.iload_n 1, 1) := by decide +kernel
theorem dX11_numberNow_43 : decode cX11_numberNow 43 = .ok (.if_icmp .lt 11, 3) := by decide +kernel
theorem dX11_numberNow_46 : decode cX11_numberNow 46 = .ok (.aload_n 0, 1) := by decide +kernel
theorem dX11_numberNow_47 : decode cX11_numberNow 47 = .ok (.getfield 197, 3) := by decide +kernel
