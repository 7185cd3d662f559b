theorem dX11_numberNow_50 : decode cX11_numberNow 50 = .ok (.iload_n 2, 1) := by decide +kernel
theorem dX11_numberNow_51 : decode cX11_numberNow 51 = .ok (.if_icmp .le 8, 3) := by decide +kernel
theorem dX11_numberNow_54 : decode cX11_numberNow 54 = .ok (.aload_n 0, 1) := by decide +kernel
theorem dX11_numberNow_55 : decode cX11_numberNow 55 = .ok (.iconst 2, 1) := by decide +kernel
theorem dX11_numberNow_56 : decode cX11_numberNow 56 = .ok (.invokevirtual 234, 3) := by decide +kernel
theorem dX11_numberNow_59 : decode cX11_numberNow 59 = .ok (.aload_n 0, 1) := by decide +kernel
theorem dX11_numberNow_60 : decode cX11_numberNow 60 = .ok (.getfield 213, 3) := by decide +kernel
theorem dX11_numberNow_63 : decode cX11_numberNow 63 = .ok (.ifCond .ne 10, 3) := by decide +kernel
theorem dX11_numberNow_66 : decode cX11_numberNow 66 = .ok (.aload_n 0, 1) := by decide +kernel
theorem dX11_numberNow_67 : decode cX11_numberNow 67 = .ok (.getfield 197, 3) := by decide +kernel
theorem dX11_numberNow_70 : decode cX11_numberNow 70 = .ok (.goto 4, 3) := by decide +kernel
theorem dX11_numberNow_73 : decode cX11_numberNow 73 = .ok (.iconst 0, 1) := by decide +kernel
theorem dX11_numberNow_74 : decode cX11_numberNow 74 = .ok (.ireturn, 1) := by decide +kernel
theorem dX11_readNumber_0 : decode cX11_readNumber 0 = .ok (.aload_n 0, 1) := by decide +kernel
theorem dX11_readNumber_1 : decode cX11_readNumber 1 = .ok (.iload_n 1, 1) := by decide +kernel
theorem dX11_readNumber_2 : decode cX11_readNumber 2 = .ok (.iload_n 2, 1) := by decide +kernel
theorem dX11_readNumber_3 : decode cX11_readNumber 3 = .ok (.invokevirtual 241, 3) := by decide +kernel
theorem dX11_readNumber_6 : decode cX11_readNumber 6 = .ok (.istore_n 3, 1) := by decide +kernel
theorem dX11_readNumber_7 : decode cX11_readNumber 7 = .ok (.aload_n 0, 1) := by decide +kernel
theorem dX11_readNumber_8 : decode cX11_readNumber 8 = .ok (.getfield 213, 3) := by decide +kernel
theorem dX11_readNumber_11 : decode cX11_readNumber 11 = .ok (.ifCond .ne 7, 3) := by decide +kernel
theorem dX11_readNumber_14 : decode cX11_readNumber 14 = .ok (.aload_n 0, 1) := by decide +kernel
theorem dX11_readNumber_15 : decode cX11_readNumber 15 = .ok (.invokevirtual 238, 3) := by decide +kernel
theorem dX11_readNumber_18 : decode cX11_readNumber 18 = .ok (.iload_n 3, 1) := by decide +kernel
theorem dX11_readNumber_19 : decode cX11_readNumber 19 = .ok (.ireturn, 1) := by decide +kernel
theorem dX11_valleyNow_0 : decode cX11_valleyNow 0 = .ok (.aload_n 0, 1) := by decide +kernel
theorem dX11_valleyNow_1 : decode cX11_valleyNow 1 = .ok (.iconst 0, 1) := by decide +kernel
theorem dX11_valleyNow_2 : decode cX11_valleyNow 2 = .ok (.sipush 9999, 3) := by decide +kernel
theorem dX11_valleyNow_5 : decode cX11_valleyNow 5 = .ok (.invokevirtual 241, 3) := by decide +kernel
theorem dX11_valleyNow_8 : decode cX11_valleyNow 8 = .ok (.istore_n 1, 1) := by decide +kernel
theorem dX11_valleyNow_9 : decode cX11_valleyNow 9 = .ok (.aload_n 0, 1) := by decide +kernel
theorem dX11_valleyNow_10 : decode cX11_valleyNow 10 = .ok (.getfield 213, 3) := by decide +kernel
theorem dX11_valleyNow_13 : decode cX11_valleyNow 13 = .ok (.ifCond .ne 18, 3) := by decide +kernel
theorem dX11_valleyNow_16 : decode cX11_valleyNow 16 = .ok (.iload_n 1, 1) := by decide +kernel
theorem dX11_valleyNow_17 : decode cX11_valleyNow 17 = .ok (.aload_n 0, 1) := by decide +kernel
theorem dX11_valleyNow_18 : decode cX11_valleyNow 18 = .ok (.getfield 45, 3) := by decide +kernel
theorem dX11_valleyNow_21 : decode cX11_valleyNow 21 = .ok (.iconst 4, 1) := by decide +kernel
theorem dX11_valleyNow_22 : decode cX11_valleyNow 22 = .ok (.iaload, 1) := by decide +kernel
theorem dX11_valleyNow_23 : decode cX11_valleyNow 23 = .ok (.if_icmp .lt 8, 3) := by decide +kernel
theorem dX11_valleyNow_26 : decode cX11_valleyNow 26 = .ok (.aload_n 0, 1) := by decide +kernel
theorem dX11_valleyNow_27 : decode cX11_valleyNow 27 = .ok (.iconst 3, 1) := by decide +kernel
theorem dX11_valleyNow_28 : decode cX11_valleyNow 28 = .ok (.invokevirtual 234, 3) := by decide +kernel
theorem dX11_valleyNow_31 : decode cX11_valleyNow 31 = .ok (.aload_n 0, 1) := by decide +kernel
theorem dX11_valleyNow_32 : decode cX11_valleyNow 32 = .ok (.getfield 213, 3) := by decide +kernel
theorem dX11_valleyNow_35 : decode cX11_valleyNow 35 = .ok (.ifCond .ne 7, 3) := by decide +kernel
theorem dX11_valleyNow_38 : decode cX11_valleyNow 38 = .ok (.iload_n 1, 1) := by decide +kernel
theorem dX11_valleyNow_39 : decode cX11_valleyNow 39 = .ok (.goto 4, 3) := by decide +kernel
theorem dX11_valleyNow_42 : decode cX11_valleyNow 42 = .ok (.iconst 0, 1) := by decide +kernel
theorem dX11_valleyNow_43 : decode cX11_valleyNow 43 = .ok (.ireturn, 1) := by decide +kernel
theorem dX11_lay_0 : decode cX11_lay 0 = .ok (.aload_n 0, 1) := by decide +kernel
theorem dX11_lay_1 : decode cX11_lay 1 = .ok (.getfield 213, 3) := by decide +kernel
theorem dX11_lay_4 : decode cX11_lay 4 = .ok (.ifCond .eq 4, 3) := by decide +kernel
theorem dX11_lay_7 : decode cX11_lay 7 = .ok (.return_, 1) := by decide +kernel
theorem dX11_lay_8 : decode cX11_lay 8 = .ok (.aload_n 0, 1) := by decide +kernel
theorem dX11_lay_9 : decode cX11_lay 9 = .ok (.getfield 74, 3) := by decide +kernel
theorem dX11_lay_12 : decode cX11_lay 12 = .ok (.sipush 700, 3) := by decide +kernel
theorem dX11_lay_15 : decode cX11_lay 15 = .ok (.aload_n 0, 1) := by decide +kernel
theorem dX11_lay_16 : decode cX11_lay 16 = .ok (.getfield 45, 3) := by decide +kernel
theorem dX11_lay_19 : decode cX11_lay 19 = .ok (.bipush 7, 2) := by decide +kernel
theorem dX11_lay_21 : decode cX11_lay 21 = .ok (.iaload, 1) := by decide +kernel
theorem dX11_lay_22 : decode cX11_lay 22 = .ok (.iadd, 1) := by decide +kernel
theorem dX11_lay_23 : decode cX11_lay 23 = .ok (.iload_n 1, 1) := by decide +kernel
theorem dX11_lay_24 : decode cX11_lay 24 = .ok (.iastore, 1) := by decide +kernel
theorem dX11_lay_25 : decode cX11_lay 25 = .ok (.aload_n 0, 1) := by decide +kernel
theorem dX11_lay_26 : decode cX11_lay 26 = .ok (.getfield 45, 3) := by decide +kernel
theorem dX11_lay_29 : decode cX11_lay 29 = .ok (.bipush 7, 2) := by decide +kernel
theorem dX11_lay_31 : decode cX11_lay 31 = .ok (.dup2, 1) := by decide +kernel
theorem dX11_lay_32 : decode cX11_lay 32 = .ok (.iaload, 1) := by decide +kernel
theorem dX11_lay_33 : decode cX11_lay 33 = .ok (.iconst 1, 1) := by decide +kernel
theorem dX11_lay_34 : decode cX11_lay 34 = .ok (.iadd, 1) := by decide +kernel
theorem dX11_lay_35 : decode cX11_lay 35 = .ok (.iastore, 1) := by decide +kernel
theorem dX11_lay_36 : decode cX11_lay 36 = .ok (.return_, 1) := by decide +kernel
theorem dX11_readPart_0 : decode cX11_readPart 0 = .ok (.aload_n 0, 1) := by decide +kernel
theorem dX11_readPart_1 : decode cX11_readPart 1 = .ok (.getfield 213, 3) := by decide +kernel
theorem dX11_readPart_4 : decode cX11_readPart 4 = .ok (.ifCond .eq 4, 3) := by decide +kernel
theorem dX11_readPart_7 : decode cX11_readPart 7 = .ok (.return_, 1) := by decide +kernel
theorem dX11_readPart_8 : decode cX11_readPart 8 = .ok (.aload_n 0, 1) := by decide +kernel
theorem dX11_readPart_9 : decode cX11_readPart 9 = .ok (.getfield 188, 3) := by decide +kernel
theorem dX11_readPart_12 : decode cX11_readPart 12 = .ok (.iconst 2, 1) := by decide +kernel
theorem dX11_readPart_13 : decode cX11_readPart 13 = .ok (.if_icmp .ne 16, 3) := by decide +kernel
theorem dX11_readPart_16 : decode cX11_readPart 16 = .ok (.aload_n 0, 1) := by decide +kernel
theorem dX11_readPart_17 : decode cX11_readPart 17 = .ok (.aload_n 0, 1) := by decide +kernel
theorem dX11_readPart_18 : decode cX11_readPart 18 = .ok (.iconst 0, 1) := by decide +kernel
theorem dX11_readPart_19 : decode cX11_readPart 19 = .ok (.sipush 9999, 3) := by decide +kernel
theorem dX11_readPart_22 : decode cX11_readPart 22 = .ok (.invokevirtual 244, 3) := by decide +kernel
theorem dX11_readPart_25 : decode cX11_readPart 25 = .ok (.invokevirtual 247, 3) := by decide +kernel
theorem dX11_readPart_28 : decode cX11_readPart 28 = .ok (.return_, 1) := by decide +kernel
theorem dX11_readPart_29 : decode cX11_readPart 29 = .ok (.aload_n 0, 1) := by decide +kernel
theorem dX11_readPart_30 : decode cX11_readPart 30 = .ok (.getfield 188, 3) := by decide +kernel
theorem dX11_readPart_33 : decode cX11_readPart 33 = .ok (.iconst 1, 1) := by decide +kernel
theorem dX11_readPart_34 : decode cX11_readPart 34 = .ok (.if_icmp .ne 41, 3) := by decide +kernel
theorem dX11_readPart_37 : decode cX11_readPart 37 = .ok (.aload_n 0, 1) := by decide +kernel
theorem dX11_readPart_38 : decode cX11_readPart 38 = .ok (.aload_n 0, 1) := by decide +kernel
theorem dX11_readPart_39 : decode cX11_readPart 39 = .ok (.getfield 35, 3) := by decide +kernel
theorem dX11_readPart_42 : decode cX11_readPart 42 = .ok (.invokevirtual 250, 3) := by decide +kernel
theorem dX11_readPart_45 : decode cX11_readPart 45 = .ok (.istore_n 2, 1) := by decide +kernel
theorem dX11_readPart_46 : decode cX11_readPart 46 = .ok (.iload_n 2, 1) := by decide +kernel
theorem dX11_readPart_47 : decode cX11_readPart 47 = .ok (.iconst (-1), 1) := by decide +kernel
theorem dX11_readPart_48 : decode cX11_readPart 48 = .ok (.if_icmp .ne 8, 3) := by decide +kernel
theorem dX11_readPart_51 : decode cX11_readPart 51 = .ok (.aload_n 0, 1) := by decide +kernel
theorem dX11_readPart_52 : decode cX11_readPart 52 = .ok (.iconst 3, 1) := by decide +kernel
theorem dX11_readPart_53 : decode cX11_readPart 53 = .ok (.invokevirtual 234, 3) := by decide +kernel
theorem dX11_readPart_56 : decode cX11_readPart 56 = .ok (.aload_n 0, 1) := by decide +kernel
theorem dX11_readPart_57 : decode cX11_readPart 57 = .ok (.iconst (-1), 1) := by decide +kernel
theorem dX11_readPart_58 : decode cX11_readPart 58 = .ok (.iload_n 2, 1) := by decide +kernel
theorem dX11_readPart_59 : decode cX11_readPart 59 = .ok (.isub, 1) := by decide +kernel
theorem dX11_readPart_60 : decode cX11_readPart 60 = .ok (.invokevirtual 247, 3) := by decide +kernel
theorem dX11_readPart_63 : decode cX11_readPart 63 = .ok (.aload_n 0, 1) := by decide +kernel
theorem dX11_readPart_64 : decode cX11_readPart 64 = .ok (.getfield 213, 3) := by decide +kernel
theorem dX11_readPart_67 : decode cX11_readPart 67 = .ok (.ifCond .ne 7, 3) := by decide +kernel
theorem dX11_readPart_70 : decode cX11_readPart 70 = .ok (.aload_n 0, 1) := by decide +kernel
theorem dX11_readPart_71 : decode cX11_readPart 71 = .ok (.invokevirtual 238, 3) := by decide +kernel
theorem dX11_readPart_74 : decode cX11_readPart 74 = .ok (.return_, 1) := by decide +kernel
theorem dX11_readPart_75 : decode cX11_readPart 75 = .ok (.aload_n 0, 1) := by decide +kernel
theorem dX11_readPart_76 : decode cX11_readPart 76 = .ok (.bipush 40, 2) := by decide +kernel
theorem dX11_readPart_78 : decode cX11_readPart 78 = .ok (.invokevirtual 254, 3) := by decide +kernel
theorem dX11_readPart_81 : decode cX11_readPart 81 = .ok (.aload_n 0, 1) := by decide +kernel
theorem dX11_readPart_82 : decode cX11_readPart 82 = .ok (.iload_n 1, 1) := by decide +kernel
theorem dX11_readPart_83 : decode cX11_readPart 83 = .ok (.iconst 1, 1) := by decide +kernel
theorem dX11_readPart_84 : decode cX11_readPart 84 = .ok (.iadd, 1) := by decide +kernel
theorem dX11_readPart_85 : decode cX11_readPart 85 = .ok (.invokevirtual 257, 3) := by decide +kernel
theorem dX11_readPart_88 : decode cX11_readPart 88 = .ok (.aload_n 0, 1) := by decide +kernel
theorem dX11_readPart_89 : decode cX11_readPart 89 = .ok (.bipush 41, 2) := by decide +kernel
theorem dX11_readPart_91 : decode cX11_readPart 91 = .ok (.invokevirtual 254, 3) := by decide +kernel
theorem dX11_readPart_94 : decode cX11_readPart 94 = .ok (.return_, 1) := by decide +kernel
theorem dX11_readProduct_0 : decode cX11_readProduct 0 = .ok (.aload_n 0, 1) := by decide +kernel
theorem dX11_readProduct_1 : decode cX11_readProduct 1 = .ok (.iload_n 1, 1) := by decide +kernel
theorem dX11_readProduct_2 : decode cX11_readProduct 2 = .ok (.invokevirtual 260, 3) := by decide +kernel
theorem dX11_readProduct_5 : decode cX11_readProduct 5 = .ok (.aload_n 0, 1) := by decide +kernel
theorem dX11_readProduct_6 : decode cX11_readProduct 6 = .ok (.bipush 42, 2) := by decide +kernel
theorem dX11_readProduct_8 : decode cX11_readProduct 8 = .ok (.invokevirtual 231, 3) := by decide +kernel
theorem dX11_readProduct_11 : decode cX11_readProduct 11 = .ok (.ifCond .ne 12, 3) := by decide +kernel
theorem dX11_readProduct_14 : decode cX11_readProduct 14 = .ok (.aload_n 0, 1) := by decide +kernel
theorem dX11_readProduct_15 : decode cX11_readProduct 15 = .ok (.bipush 47, 2) := by decide +kernel
theorem dX11_readProduct_17 : decode cX11_readProduct 17 = .ok (.invokevirtual 231, 3) := by decide +kernel
theorem dX11_readProduct_20 : decode cX11_readProduct 20 = .ok (.ifCond .eq 37, 3) := by decide +kernel
theorem dX11_readProduct_23 : decode cX11_readProduct 23 = .ok (.aload_n 0, 1) := by decide +kernel
theorem dX11_readProduct_24 : decode cX11_readProduct 24 = .ok (.bipush 42, 2) := by decide +kernel
theorem dX11_readProduct_26 : decode cX11_readProduct 26 = .ok (.invokevirtual 231, 3) := by decide +kernel
theorem dX11_readProduct_29 : decode cX11_readProduct 29 = .ok (.ifCond .eq 8, 3) := by decide +kernel
theorem dX11_readProduct_32 : decode cX11_readProduct 32 = .ok (.bipush (-22), 2) := by decide +kernel
theorem dX11_readProduct_34 : decode cX11_readProduct 34 = .ok (.goto 5, 3) := by decide +kernel
theorem dX11_readProduct_37 : decode cX11_readProduct 37 = .ok (.bipush (-23), 2) := by decide +kernel
theorem dX11_readProduct_39 : decode cX11_readProduct 39 = .ok (.istore_n 2, 1) := by decide +kernel
theorem dX11_readProduct_40 : decode cX11_readProduct 40 = .ok (.aload_n 0, 1) := by decide +kernel
theorem dX11_readProduct_41 : decode cX11_readProduct 41 = .ok (.invokevirtual 238, 3) := by decide +kernel
theorem dX11_readProduct_44 : decode cX11_readProduct 44 = .ok (.aload_n 0, 1) := by decide +kernel
theorem dX11_readProduct_45 : decode cX11_readProduct 45 = .ok (.iload_n 1, 1) := by decide +kernel
theorem dX11_readProduct_46 : decode cX11_readProduct 46 = .ok (.invokevirtual 260, 3) := by decide +kernel
theorem dX11_readProduct_49 : decode cX11_readProduct 49 = .ok (.aload_n 0, 1) := by decide +kernel
theorem dX11_readProduct_50 : decode cX11_readProduct 50 = .ok (.iload_n 2, 1) := by decide +kernel
theorem dX11_readProduct_51 : decode cX11_readProduct 51 = .ok (.invokevirtual 247, 3) := by decide +kernel
theorem dX11_readProduct_54 : decode cX11_readProduct 54 = .ok (.goto (-49), 3) := by decide +kernel
theorem dX11_readProduct_57 : decode cX11_readProduct 57 = .ok (.return_, 1) := by decide +kernel
theorem dX11_readSum_0 : decode cX11_readSum 0 = .ok (.aload_n 0, 1) := by decide +kernel
theorem dX11_readSum_1 : decode cX11_readSum 1 = .ok (.iload_n 1, 1) := by decide +kernel
theorem dX11_readSum_2 : decode cX11_readSum 2 = .ok (.invokevirtual 263, 3) := by decide +kernel
theorem dX11_readSum_5 : decode cX11_readSum 5 = .ok (.aload_n 0, 1) := by decide +kernel
theorem dX11_readSum_6 : decode cX11_readSum 6 = .ok (.bipush 43, 2) := by decide +kernel
theorem dX11_readSum_8 : decode cX11_readSum 8 = .ok (.invokevirtual 231, 3) := by decide +kernel
theorem dX11_readSum_11 : decode cX11_readSum 11 = .ok (.ifCond .ne 12, 3) := by decide +kernel
theorem dX11_readSum_14 : decode cX11_readSum 14 = .ok (.aload_n 0, 1) := by decide +kernel
theorem dX11_readSum_15 : decode cX11_readSum 15 = .ok (.bipush 45, 2) := by decide +kernel
theorem dX11_readSum_17 : decode cX11_readSum 17 = .ok (.invokevirtual 231, 3) := by decide +kernel
theorem dX11_readSum_20 : decode cX11_readSum 20 = .ok (.ifCond .eq 37, 3) := by decide +kernel
theorem dX11_readSum_23 : decode cX11_readSum 23 = .ok (.aload_n 0, 1) := by decide +kernel
theorem dX11_readSum_24 : decode cX11_readSum 24 = .ok (.bipush 43, 2) := by decide +kernel
theorem dX11_readSum_26 : decode cX11_readSum 26 = .ok (.invokevirtual 231, 3) := by decide +kernel
theorem dX11_readSum_29 : decode cX11_readSum 29 = .ok (.ifCond .eq 8, 3) := by decide +kernel
theorem dX11_readSum_32 : decode cX11_readSum 32 = .ok (.bipush (-20), 2) := by decide +kernel
theorem dX11_readSum_34 : decode cX11_readSum 34 = .ok (.goto 5, 3) := by decide +kernel
theorem dX11_readSum_37 : decode cX11_readSum 37 = .ok (.bipush (-21), 2) := by decide +kernel
theorem dX11_readSum_39 : decode cX11_readSum 39 = .ok (.istore_n 2, 1) := by decide +kernel
theorem dX11_readSum_40 : decode cX11_readSum 40 = .ok (.aload_n 0, 1) := by decide +kernel
theorem dX11_readSum_41 : decode cX11_readSum 41 = .ok (.invokevirtual 238, 3) := by decide +kernel
theorem dX11_readSum_44 : decode cX11_readSum 44 = .ok (.aload_n 0, 1) := by decide +kernel
theorem dX11_readSum_45 : decode cX11_readSum 45 = .ok (.iload_n 1, 1) := by decide +kernel
theorem dX11_readSum_46 : decode cX11_readSum 46 = .ok (.invokevirtual 263, 3) := by decide +kernel
theorem dX11_readSum_49 : decode cX11_readSum 49 = .ok (.aload_n 0, 1) := by decide +kernel
theorem dX11_readSum_50 : decode cX11_readSum 50 = .ok (.iload_n 2, 1) := by decide +kernel
theorem dX11_readSum_51 : decode cX11_readSum 51 = .ok (.invokevirtual 247, 3) := by decide +kernel
theorem dX11_readSum_54 : decode cX11_readSum 54 = .ok (.goto (-49), 3) := by decide +kernel
theorem dX11_readSum_57 : decode cX11_readSum 57 = .ok (.return_, 1) := by decide +kernel
theorem dX11_readNot_0 : decode cX11_readNot 0 = .ok (.iconst 0, 1) := by decide +kernel
theorem dX11_readNot_1 : decode cX11_readNot 1 = .ok (.istore_n 2, 1) := by decide +kernel
theorem dX11_readNot_2 : decode cX11_readNot 2 = .ok (.aload_n 0, 1) := by decide +kernel
theorem dX11_readNot_3 : decode cX11_readNot 3 = .ok (.ldc_w 266, 3) := by decide +kernel
theorem dX11_readNot_6 : decode cX11_readNot 6 = .ok (.invokevirtual 227, 3) := by decide +kernel
theorem dX11_readNot_9 : decode cX11_readNot 9 = .ok (.ifCond .eq 31, 3) := by decide +kernel
theorem dX11_readNot_12 : decode cX11_readNot 12 = .ok (.iload_n 2, 1) := by decide +kernel
theorem dX11_readNot_13 : decode cX11_readNot 13 = .ok (.bipush 6, 2) := by decide +kernel
theorem dX11_readNot_15 : decode cX11_readNot 15 = .ok (.if_icmp .ne 8, 3) := by decide +kernel
theorem dX11_readNot_18 : decode cX11_readNot 18 = .ok (.aload_n 0, 1) := by decide +kernel
theorem dX11_readNot_19 : decode cX11_readNot 19 = .ok (.iconst 2, 1) := by decide +kernel
theorem dX11_readNot_20 : decode cX11_readNot 20 = .ok (.invokevirtual 234, 3) := by decide +kernel
theorem dX11_readNot_23 : decode cX11_readNot 23 = .ok (.iinc 2 1, 3) := by decide +kernel
theorem dX11_readNot_26 : decode cX11_readNot 26 = .ok (.aload_n 0, 1) := by decide +kernel
theorem dX11_readNot_27 : decode cX11_readNot 27 = .ok (.getfield 213, 3) := by decide +kernel
theorem dX11_readNot_30 : decode cX11_readNot 30 = .ok (.ifCond .ne (-28), 3) := by decide +kernel
theorem dX11_readNot_33 : decode cX11_readNot 33 = .ok (.aload_n 0, 1) := by decide +kernel
theorem dX11_readNot_34 : decode cX11_readNot 34 = .ok (.invokevirtual 238, 3) := by decide +kernel
theorem dX11_readNot_37 : decode cX11_readNot 37 = .ok (.goto (-35), 3) := by decide +kernel
theorem dX11_readNot_40 : decode cX11_readNot 40 = .ok (.aload_n 0, 1) := by decide +kernel
theorem dX11_readNot_41 : decode cX11_readNot 41 = .ok (.iload_n 1, 1) := by decide +kernel
theorem dX11_readNot_42 : decode cX11_readNot 42 = .ok (.invokevirtual 268, 3) := by decide +kernel
theorem dX11_readNot_45 : decode cX11_readNot 45 = .ok (.aload_n 0, 1) := by decide +kernel
theorem dX11_readNot_46 : decode cX11_readNot 46 = .ok (.bipush 60, 2) := by decide +kernel
theorem dX11_readNot_48 : decode cX11_readNot 48 = .ok (.invokevirtual 231, 3) := by decide +kernel
theorem dX11_readNot_51 : decode cX11_readNot 51 = .ok (.ifCond .ne 12, 3) := by decide +kernel
theorem dX11_readNot_54 : decode cX11_readNot 54 = .ok (.aload_n 0, 1) := by decide +kernel
theorem dX11_readNot_55 : decode cX11_readNot 55 = .ok (.bipush 61, 2) := by decide +kernel
theorem dX11_readNot_57 : decode cX11_readNot 57 = .ok (.invokevirtual 231, 3) := by decide +kernel
theorem dX11_readNot_60 : decode cX11_readNot 60 = .ok (.ifCond .eq 34, 3) := by decide +kernel
theorem dX11_readNot_63 : decode cX11_readNot 63 = .ok (.aload_n 0, 1) := by decide +kernel
theorem dX11_readNot_64 : decode cX11_readNot 64 = .ok (.bipush 60, 2) := by decide +kernel
theorem dX11_readNot_66 : decode cX11_readNot 66 = .ok (.invokevirtual 231, 3) := by decide +kernel
theorem dX11_readNot_69 : decode cX11_readNot 69 = .ok (.ifCond .eq 8, 3) := by decide +kernel
theorem dX11_readNot_72 : decode cX11_readNot 72 = .ok (.bipush (-24), 2) := by decide +kernel
theorem dX11_readNot_74 : decode cX11_readNot 74 = .ok (.goto 5, 3) := by decide +kernel
theorem dX11_readNot_77 : decode cX11_readNot 77 = .ok (.bipush (-25), 2) := by decide +kernel
theorem dX11_readNot_79 : decode cX11_readNot 79 = .ok (.istore_n 3, 1) := by decide +kernel
theorem dX11_readNot_80 : decode cX11_readNot 80 = .ok (.aload_n 0, 1) := by decide +kernel
theorem dX11_readNot_81 : decode cX11_readNot 81 = .ok (.invokevirtual 238, 3) := by decide +kernel
theorem dX11_readNot_84 : decode cX11_readNot 84 = .ok (.aload_n 0, 1) := by decide +kernel
theorem dX11_readNot_85 : decode cX11_readNot 85 = .ok (.iload_n 1, 1) := by decide +kernel
theorem dX11_readNot_86 : decode cX11_readNot 86 = .ok (.invokevirtual 268, 3) := by decide +kernel
theorem dX11_readNot_89 : decode cX11_readNot 89 = .ok (.aload_n 0, 1) := by decide +kernel
theorem dX11_readNot_90 : decode cX11_readNot 90 = .ok (.iload_n 3, 1) := by decide +kernel
theorem dX11_readNot_91 : decode cX11_readNot 91 = .ok (.invokevirtual 247, 3) := by decide +kernel
theorem dX11_readNot_94 : decode cX11_readNot 94 = .ok (.iconst 0, 1) := by decide +kernel
theorem dX11_readNot_95 : decode cX11_readNot 95 = .ok (.istore_n 3, 1) := by decide +kernel
theorem dX11_readNot_96 : decode cX11_readNot 96 = .ok (.iload_n 3, 1) := by decide +kernel
theorem dX11_readNot_97 : decode cX11_readNot 97 = .ok (.iload_n 2, 1) := by decide +kernel
theorem dX11_readNot_98 : decode cX11_readNot 98 = .ok (.if_icmp .ge 15, 3) := by decide +kernel
theorem dX11_readNot_101 : decode cX11_readNot 101 = .ok (.aload_n 0, 1) := by decide +kernel
theorem dX11_readNot_102 : decode cX11_readNot 102 = .ok (.bipush (-28), 2) := by decide +kernel
theorem dX11_readNot_104 : decode cX11_readNot 104 = .ok (.invokevirtual 247, 3) := by decide +kernel
theorem dX11_readNot_107 : decode cX11_readNot 107 = .ok (.iinc 3 1, 3) := by decide +kernel
theorem dX11_readNot_110 : decode cX11_readNot 110 = .ok (.goto (-14), 3) := by decide +kernel
theorem dX11_readNot_113 : decode cX11_readNot 113 = .ok (.return_, 1) := by decide +kernel
theorem dX11_readAnd_0 : decode cX11_readAnd 0 = .ok (.aload_n 0, 1) := by decide +kernel
theorem dX11_readAnd_1 : decode cX11_readAnd 1 = .ok (.iload_n 1, 1) := by decide +kernel
theorem dX11_readAnd_2 : decode cX11_readAnd 2 = .ok (.invokevirtual 271, 3) := by decide +kernel
theorem dX11_readAnd_5 : decode cX11_readAnd 5 = .ok (.aload_n 0, 1) := by decide +kernel
theorem dX11_readAnd_6 : decode cX11_readAnd 6 = .ok (.ldc_w 274, 3) := by decide +kernel
theorem dX11_readAnd_9 : decode cX11_readAnd 9 = .ok (.invokevirtual 227, 3) := by decide +kernel
theorem dX11_readAnd_12 : decode cX11_readAnd 12 = .ok (.ifCond .eq 21, 3) := by decide +kernel
theorem dX11_readAnd_15 : decode cX11_readAnd 15 = .ok (.aload_n 0, 1) := by decide +kernel
theorem dX11_readAnd_16 : decode cX11_readAnd 16 = .ok (.invokevirtual 238, 3) := by decide +kernel
theorem dX11_readAnd_19 : decode cX11_readAnd 19 = .ok (.aload_n 0, 1) := by decide +kernel
theorem dX11_readAnd_20 : decode cX11_readAnd 20 = .ok (.iload_n 1, 1) := by decide +kernel
theorem dX11_readAnd_21 : decode cX11_readAnd 21 = .ok (.invokevirtual 271, 3) := by decide +kernel
theorem dX11_readAnd_24 : decode cX11_readAnd 24 = .ok (.aload_n 0, 1) := by decide +kernel
theorem dX11_readAnd_25 : decode cX11_readAnd 25 = .ok (.bipush (-26), 2) := by decide +kernel
theorem dX11_readAnd_27 : decode cX11_readAnd 27 = .ok (.invokevirtual 247, 3) := by decide +kernel
theorem dX11_readAnd_30 : decode cX11_readAnd 30 = .ok (.goto (-25), 3) := by decide +kernel
theorem dX11_readAnd_33 : decode cX11_readAnd 33 = .ok (.return_, 1) := by decide +kernel
theorem dX11_readExpression_0 : decode cX11_readExpression 0 = .ok (.aload_n 0, 1) := by decide +kernel
theorem dX11_readExpression_1 : decode cX11_readExpression 1 = .ok (.getfield 213, 3) := by decide +kernel
theorem dX11_readExpression_4 : decode cX11_readExpression 4 = .ok (.ifCond .eq 4, 3) := by decide +kernel
theorem dX11_readExpression_7 : decode cX11_readExpression 7 = .ok (.return_, 1) := by decide +kernel
theorem dX11_readExpression_8 : decode cX11_readExpression 8 = .ok (.aload_n 0, 1) := by decide +kernel
theorem dX11_readExpression_9 : decode cX11_readExpression 9 = .ok (.getfield 188, 3) := by decide +kernel
theorem dX11_readExpression_12 : decode cX11_readExpression 12 = .ok (.iconst 2, 1) := by decide +kernel
theorem dX11_readExpression_13 : decode cX11_readExpression 13 = .ok (.if_icmp .eq 20, 3) := by decide +kernel
theorem dX11_readExpression_16 : decode cX11_readExpression 16 = .ok (.aload_n 0, 1) := by decide +kernel
theorem dX11_readExpression_17 : decode cX11_readExpression 17 = .ok (.getfield 188, 3) := by decide +kernel
theorem dX11_readExpression_20 : decode cX11_readExpression 20 = .ok (.iconst 1, 1) := by decide +kernel
theorem dX11_readExpression_21 : decode cX11_readExpression 21 = .ok (.if_icmp .eq 12, 3) := by decide +kernel
theorem dX11_readExpression_24 : decode cX11_readExpression 24 = .ok (.aload_n 0, 1) := by decide +kernel
theorem dX11_readExpression_25 : decode cX11_readExpression 25 = .ok (.bipush 40, 2) := by decide +kernel
theorem dX11_readExpression_27 : decode cX11_readExpression 27 = .ok (.invokevirtual 231, 3) := by decide +kernel
theorem dX11_readExpression_30 : decode cX11_readExpression 30 = .ok (.ifCond .eq 7, 3) := by decide +kernel
theorem dX11_readExpression_33 : decode cX11_readExpression 33 = .ok (.iconst 1, 1) := by decide +kernel
theorem dX11_readExpression_34 : decode cX11_readExpression 34 = .ok (.goto 4, 3) := by decide +kernel
theorem dX11_readExpression_37 : decode cX11_readExpression 37 = .ok (.iconst 0, 1) := by decide +kernel
theorem dX11_readExpression_38 : decode cX11_readExpression 38 = .ok (.istore_n 2, 1) := by decide +kernel
theorem dX11_readExpression_39 : decode cX11_readExpression 39 = .ok (.iload_n 2, 1) := by decide +kernel
theorem dX11_readExpression_40 : decode cX11_readExpression 40 = .ok (.ifCond .ne 11, 3) := by decide +kernel
theorem dX11_readExpression_43 : decode cX11_readExpression 43 = .ok (.aload_n 0, 1) := by decide +kernel
theorem dX11_readExpression_44 : decode cX11_readExpression 44 = .ok (.iconst 1, 1) := by decide +kernel
theorem dX11_readExpression_45 : decode cX11_readExpression 45 = .ok (.invokevirtual 234, 3) := by decide +kernel
theorem dX11_readExpression_48 : decode cX11_readExpression 48 = .ok (.goto 14, 3) := by decide +kernel
theorem dX11_readExpression_51 : decode cX11_readExpression 51 = .ok (.iload_n 1, 1) := by decide +kernel
theorem dX11_readExpression_52 : decode cX11_readExpression 52 = .ok (.bipush 6, 2) := by decide +kernel
theorem dX11_readExpression_54 : decode cX11_readExpression 54 = .ok (.if_icmp .ne 8, 3) := by decide +kernel
theorem dX11_readExpression_57 : decode cX11_readExpression 57 = .ok (.aload_n 0, 1) := by decide +kernel
theorem dX11_readExpression_58 : decode cX11_readExpression 58 = .ok (.iconst 2, 1) := by decide +kernel
theorem dX11_readExpression_59 : decode cX11_readExpression 59 = .ok (.invokevirtual 234, 3) := by decide +kernel
theorem dX11_readExpression_62 : decode cX11_readExpression 62 = .ok (.aload_n 0, 1) := by decide +kernel
theorem dX11_readExpression_63 : decode cX11_readExpression 63 = .ok (.iload_n 1, 1) := by decide +kernel
theorem dX11_readExpression_64 : decode cX11_readExpression 64 = .ok (.invokevirtual 276, 3) := by decide +kernel
theorem dX11_readExpression_67 : decode cX11_readExpression 67 = .ok (.aload_n 0, 1) := by decide +kernel
theorem dX11_readExpression_68 : decode cX11_readExpression 68 = .ok (.ldc_w 279, 3) := by decide +kernel
theorem dX11_readExpression_71 : decode cX11_readExpression 71 = .ok (.invokevirtual 227, 3) := by decide +kernel
theorem dX11_readExpression_74 : decode cX11_readExpression 74 = .ok (.ifCond .eq 21, 3) := by decide +kernel
theorem dX11_readExpression_77 : decode cX11_readExpression 77 = .ok (.aload_n 0, 1) := by decide +kernel
theorem dX11_readExpression_78 : decode cX11_readExpression 78 = .ok (.invokevirtual 238, 3) := by decide +kernel
theorem dX11_readExpression_81 : decode cX11_readExpression 81 = .ok (.aload_n 0, 1) := by decide +kernel
theorem dX11_readExpression_82 : decode cX11_readExpression 82 = .ok (.iload_n 1, 1) := by decide +kernel
theorem dX11_readExpression_83 : decode cX11_readExpression 83 = .ok (.invokevirtual 276, 3) := by decide +kernel
theorem dX11_readExpression_86 : decode cX11_readExpression 86 = .ok (.aload_n 0, 1) := by decide +kernel
theorem dX11_readExpression_87 : decode cX11_readExpression 87 = .ok (.bipush (-27), 2) := by decide +kernel
theorem dX11_readExpression_89 : decode cX11_readExpression 89 = .ok (.invokevirtual 247, 3) := by decide +kernel
theorem dX11_readExpression_92 : decode cX11_readExpression 92 = .ok (.goto (-25), 3) := by decide +kernel
theorem dX11_readExpression_95 : decode cX11_readExpression 95 = .ok (.return_, 1) := by decide +kernel
theorem dX11_readValley_0 : decode cX11_readValley 0 = .ok (.aload_n 0, 1) := by decide +kernel
theorem dX11_readValley_1 : decode cX11_readValley 1 = .ok (.getfield 45, 3) := by decide +kernel
theorem dX11_readValley_4 : decode cX11_readValley 4 = .ok (.iconst 4, 1) := by decide +kernel
theorem dX11_readValley_5 : decode cX11_readValley 5 = .ok (.iaload, 1) := by decide +kernel
theorem dX11_readValley_6 : decode cX11_readValley 6 = .ok (.bipush 6, 2) := by decide +kernel
theorem dX11_readValley_8 : decode cX11_readValley 8 = .ok (.if_icmp .ne 8, 3) := by decide +kernel
theorem dX11_readValley_11 : decode cX11_readValley 11 = .ok (.aload_n 0, 1) := by decide +kernel
theorem dX11_readValley_12 : decode cX11_readValley 12 = .ok (.iconst 2, 1) := by decide +kernel
theorem dX11_readValley_13 : decode cX11_readValley 13 = .ok (.invokevirtual 234, 3) := by decide +kernel
theorem dX11_readValley_16 : decode cX11_readValley 16 = .ok (.aload_n 0, 1) := by decide +kernel
theorem dX11_readValley_17 : decode cX11_readValley 17 = .ok (.getfield 213, 3) := by decide +kernel
theorem dX11_readValley_20 : decode cX11_readValley 20 = .ok (.ifCond .eq 4, 3) := by decide +kernel
theorem dX11_readValley_23 : decode cX11_readValley 23 = .ok (.return_, 1) := by decide +kernel
theorem dX11_readValley_24 : decode cX11_readValley 24 = .ok (.aload_n 0, 1) := by decide +kernel
theorem dX11_readValley_25 : decode cX11_readValley 25 = .ok (.invokevirtual 238, 3) := by decide +kernel
theorem dX11_readValley_28 : decode cX11_readValley 28 = .ok (.aload_n 0, 1) := by decide +kernel
theorem dX11_readValley_29 : decode cX11_readValley 29 = .ok (.getfield 48, 3) := by decide +kernel
theorem dX11_readValley_32 : decode cX11_readValley 32 = .ok (.bipush 6, 2) := by decide +kernel
theorem dX11_readValley_34 : decode cX11_readValley 34 = .ok (.aload_n 0, 1) := by decide +kernel
theorem dX11_readValley_35 : decode cX11_readValley 35 = .ok (.getfield 45, 3) := by decide +kernel
theorem dX11_readValley_38 : decode cX11_readValley 38 = .ok (.iconst 4, 1) := by decide +kernel
theorem dX11_readValley_39 : decode cX11_readValley 39 = .ok (.iaload, 1) := by decide +kernel
theorem dX11_readValley_40 : decode cX11_readValley 40 = .ok (.iadd, 1) := by decide +kernel
theorem dX11_readValley_41 : decode cX11_readValley 41 = .ok (.aload_n 0, 1) := by decide +kernel
theorem dX11_readValley_42 : decode cX11_readValley 42 = .ok (.iconst 0, 1) := by decide +kernel
theorem dX11_readValley_43 : decode cX11_readValley 43 = .ok (.bipush 9, 2) := by decide +kernel
theorem dX11_readValley_45 : decode cX11_readValley 45 = .ok (.invokevirtual 244, 3) := by decide +kernel
theorem dX11_readValley_48 : decode cX11_readValley 48 = .ok (.iastore, 1) := by decide +kernel
theorem dX11_readValley_49 : decode cX11_readValley 49 = .ok (.aload_n 0, 1) := by decide +kernel
theorem dX11_readValley_50 : decode cX11_readValley 50 = .ok (.getfield 45, 3) := by decide +kernel
theorem dX11_readValley_53 : decode cX11_readValley 53 = .ok (.iconst 4, 1) := by decide +kernel
theorem dX11_readValley_54 : decode cX11_readValley 54 = .ok (.dup2, 1) := by decide +kernel
theorem dX11_readValley_55 : decode cX11_readValley 55 = .ok (.iaload, 1) := by decide +kernel
theorem dX11_readValley_56 : decode cX11_readValley 56 = .ok (.iconst 1, 1) := by decide +kernel
theorem dX11_readValley_57 : decode cX11_readValley 57 = .ok (.iadd, 1) := by decide +kernel
theorem dX11_readValley_58 : decode cX11_readValley 58 = .ok (.iastore, 1) := by decide +kernel
theorem dX11_readValley_59 : decode cX11_readValley 59 = .ok (.return_, 1) := by decide +kernel
theorem dX11_readDance_0 : decode cX11_readDance 0 = .ok (.aload_n 0, 1) := by decide +kernel
theorem dX11_readDance_1 : decode cX11_readDance 1 = .ok (.getfield 45, 3) := by decide +kernel
theorem dX11_readDance_4 : decode cX11_readDance 4 = .ok (.iconst 5, 1) := by decide +kernel
theorem dX11_readDance_5 : decode cX11_readDance 5 = .ok (.iaload, 1) := by decide +kernel
theorem dX11_readDance_6 : decode cX11_readDance 6 = .ok (.bipush 8, 2) := by decide +kernel
theorem dX11_readDance_8 : decode cX11_readDance 8 = .ok (.if_icmp .ne 8, 3) := by decide +kernel
theorem dX11_readDance_11 : decode cX11_readDance 11 = .ok (.aload_n 0, 1) := by decide +kernel
theorem dX11_readDance_12 : decode cX11_readDance 12 = .ok (.iconst 2, 1) := by decide +kernel
theorem dX11_readDance_13 : decode cX11_readDance 13 = .ok (.invokevirtual 234, 3) := by decide +kernel
theorem dX11_readDance_16 : decode cX11_readDance 16 = .ok (.aload_n 0, 1) := by decide +kernel
theorem dX11_readDance_17 : decode cX11_readDance 17 = .ok (.getfield 213, 3) := by decide +kernel
theorem dX11_readDance_20 : decode cX11_readDance 20 = .ok (.ifCond .eq 4, 3) := by decide +kernel
theorem dX11_readDance_23 : decode cX11_readDance 23 = .ok (.return_, 1) := by decide +kernel
theorem dX11_readDance_24 : decode cX11_readDance 24 = .ok (.aload_n 0, 1) := by decide +kernel
theorem dX11_readDance_25 : decode cX11_readDance 25 = .ok (.invokevirtual 238, 3) := by decide +kernel
theorem dX11_readDance_28 : decode cX11_readDance 28 = .ok (.aload_n 0, 1) := by decide +kernel
theorem dX11_readDance_29 : decode cX11_readDance 29 = .ok (.invokevirtual 281, 3) := by decide +kernel
theorem dX11_readDance_32 : decode cX11_readDance 32 = .ok (.istore_n 1, 1) := by decide +kernel
theorem dX11_readDance_33 : decode cX11_readDance 33 = .ok (.aload_n 0, 1) := by decide +kernel
theorem dX11_readDance_34 : decode cX11_readDance 34 = .ok (.getfield 213, 3) := by decide +kernel
theorem dX11_readDance_37 : decode cX11_readDance 37 = .ok (.ifCond .ne 7, 3) := by decide +kernel
theorem dX11_readDance_40 : decode cX11_readDance 40 = .ok (.aload_n 0, 1) := by decide +kernel
theorem dX11_readDance_41 : decode cX11_readDance 41 = .ok (.invokevirtual 238, 3) := by decide +kernel
theorem dX11_readDance_44 : decode cX11_readDance 44 = .ok (.aload_n 0, 1) := by decide +kernel
theorem dX11_readDance_45 : decode cX11_readDance 45 = .ok (.invokevirtual 281, 3) := by decide +kernel
theorem dX11_readDance_48 : decode cX11_readDance 48 = .ok (.istore_n 2, 1) := by decide +kernel
theorem dX11_readDance_49 : decode cX11_readDance 49 = .ok (.iload_n 1, 1) := by decide +kernel
theorem dX11_readDance_50 : decode cX11_readDance 50 = .ok (.iload_n 2, 1) := by decide +kernel
theorem dX11_readDance_51 : decode cX11_readDance 51 = .ok (.if_icmp .ne 7, 3) := by decide +kernel
theorem dX11_readDance_54 : decode cX11_readDance 54 = .ok (.iconst 1, 1) := by decide +kernel
theorem dX11_readDance_55 : decode cX11_readDance 55 = .ok (.goto 4, 3) := by decide +kernel
theorem dX11_readDance_58 : decode cX11_readDance 58 = .ok (.iconst 0, 1) := by decide +kernel
theorem dX11_readDance_59 : decode cX11_readDance 59 = .ok (.istore_n 3, 1) := by decide +kernel
theorem dX11_readDance_60 : decode cX11_readDance 60 = .ok (.bipush 8, 2) := by decide +kernel
theorem dX11_readDance_62 : decode cX11_readDance 62 = .ok (.istore 4, 2) := by decide +kernel
theorem dX11_readDance_64 : decode cX11_readDance 64 = .ok (.iload 4, 2) := by decide +kernel
theorem dX11_readDance_66 : decode cX11_readDance 66 = .ok (.bipush 8, 2) := by decide +kernel
theorem dX11_readDance_68 : decode cX11_readDance 68 = .ok (.aload_n 0, 1) := by decide +kernel
theorem dX11_readDance_69 : decode cX11_readDance 69 = .ok (.getfield 45, 3) := by decide +kernel
theorem dX11_readDance_72 : decode cX11_readDance 72 = .ok (.iconst 5, 1) := by decide +kernel
theorem dX11_readDance_73 : decode cX11_readDance 73 = .ok (.iaload, 1) := by decide +kernel
theorem dX11_readDance_74 : decode cX11_readDance 74 = .ok (.iadd, 1) := by decide +kernel
theorem dX11_readDance_75 : decode cX11_readDance 75 = .ok (.if_icmp .ge 63, 3) := by decide +kernel
theorem dX11_readDance_78 : decode cX11_readDance 78 = .ok (.iload_n 3, 1) := by decide +kernel
theorem dX11_readDance_79 : decode cX11_readDance 79 = .ok (.ifCond .ne 47, 3) := by decide +kernel
theorem dX11_readDance_82 : decode cX11_readDance 82 = .ok (.aload_n 0, 1) := by decide +kernel
theorem dX11_readDance_83 : decode cX11_readDance 83 = .ok (.getfield 51, 3) := by decide +kernel
theorem dX11_readDance_86 : decode cX11_readDance 86 = .ok (.iload 4, 2) := by decide +kernel
theorem dX11_readDance_88 : decode cX11_readDance 88 = .ok (.iaload, 1) := by decide +kernel
theorem dX11_readDance_89 : decode cX11_readDance 89 = .ok (.iload_n 1, 1) := by decide +kernel
theorem dX11_readDance_90 : decode cX11_readDance 90 = .ok (.if_icmp .ne 14, 3) := by decide +kernel
theorem dX11_readDance_93 : decode cX11_readDance 93 = .ok (.aload_n 0, 1) := by decide +kernel
theorem dX11_readDance_94 : decode cX11_readDance 94 = .ok (.getfield 54, 3) := by decide +kernel
theorem dX11_readDance_97 : decode cX11_readDance 97 = .ok (.iload 4, 2) := by decide +kernel
theorem dX11_readDance_99 : decode cX11_readDance 99 = .ok (.iaload, 1) := by decide +kernel
theorem dX11_readDance_100 : decode cX11_readDance 100 = .ok (.iload_n 2, 1) := by decide +kernel
theorem dX11_readDance_101 : decode cX11_readDance 101 = .ok (.if_icmp .eq 25, 3) := by decide +kernel
theorem dX11_readDance_104 : decode cX11_readDance 104 = .ok (.aload_n 0, 1) := by decide +kernel
theorem dX11_readDance_105 : decode cX11_readDance 105 = .ok (.getfield 51, 3) := by decide +kernel
theorem dX11_readDance_108 : decode cX11_readDance 108 = .ok (.iload 4, 2) := by decide +kernel
theorem dX11_readDance_110 : decode cX11_readDance 110 = .ok (.iaload, 1) := by decide +kernel
theorem dX11_readDance_111 : decode cX11_readDance 111 = .ok (.iload_n 2, 1) := by decide +kernel
theorem dX11_readDance_112 : decode cX11_readDance 112 = .ok (.if_icmp .ne 18, 3) := by decide +kernel
theorem dX11_readDance_115 : decode cX11_readDance 115 = .ok (.aload_n 0, 1) := by decide +kernel
theorem dX11_readDance_116 : decode cX11_readDance 116 = .ok (.getfield 54, 3) := by decide +kernel
theorem dX11_readDance_119 : decode cX11_readDance 119 = .ok (.iload 4, 2) := by decide +kernel
theorem dX11_readDance_121 : decode cX11_readDance 121 = .ok (.iaload, 1) := by decide +kernel
theorem dX11_readDance_122 : decode cX11_readDance 122 = .ok (.iload_n 1, 1) := by decide +kernel
theorem dX11_readDance_123 : decode cX11_readDance 123 = .ok (.if_icmp .ne 7, 3) := by decide +kernel
theorem dX11_readDance_126 : decode cX11_readDance 126 = .ok (.iconst 1, 1) := by decide +kernel
theorem dX11_readDance_127 : decode cX11_readDance 127 = .ok (.goto 4, 3) := by decide +kernel
theorem dX11_readDance_130 : decode cX11_readDance 130 = .ok (.iconst 0, 1) := by decide +kernel
theorem dX11_readDance_131 : decode cX11_readDance 131 = .ok (.istore_n 3, 1) := by decide +kernel
theorem dX11_readDance_132 : decode cX11_readDance 132 = .ok (.iinc 4 1, 3) := by decide +kernel
theorem dX11_readDance_135 : decode cX11_readDance 135 = .ok (.goto (-71), 3) := by decide +kernel
theorem dX11_readDance_138 : decode cX11_readDance 138 = .ok (.aload_n 0, 1) := by decide +kernel
theorem dX11_readDance_139 : decode cX11_readDance 139 = .ok (.getfield 213, 3) := by decide +kernel
theorem dX11_readDance_142 : decode cX11_readDance 142 = .ok (.ifCond .ne 12, 3) := by decide +kernel
theorem dX11_readDance_145 : decode cX11_readDance 145 = .ok (.iload_n 3, 1) := by decide +kernel
theorem dX11_readDance_146 : decode cX11_readDance 146 = .ok (.ifCond .eq 8, 3) := by decide +kernel
theorem dX11_readDance_149 : decode cX11_readDance 149 = .ok (.aload_n 0, 1) := by decide +kernel
theorem dX11_readDance_150 : decode cX11_readDance 150 = .ok (.iconst 4, 1) := by decide +kernel
theorem dX11_readDance_151 : decode cX11_readDance 151 = .ok (.invokevirtual 234, 3) := by decide +kernel
theorem dX11_readDance_154 : decode cX11_readDance 154 = .ok (.aload_n 0, 1) := by decide +kernel
theorem dX11_readDance_155 : decode cX11_readDance 155 = .ok (.getfield 213, 3) := by decide +kernel
theorem dX11_readDance_158 : decode cX11_readDance 158 = .ok (.ifCond .ne 7, 3) := by decide +kernel
theorem dX11_readDance_161 : decode cX11_readDance 161 = .ok (.aload_n 0, 1) := by decide +kernel
theorem dX11_readDance_162 : decode cX11_readDance 162 = .ok (.invokevirtual 238, 3) := by decide +kernel
theorem dX11_readDance_165 : decode cX11_readDance 165 = .ok (.bipush 8, 2) := by decide +kernel
theorem dX11_readDance_167 : decode cX11_readDance 167 = .ok (.aload_n 0, 1) := by decide +kernel
theorem dX11_readDance_168 : decode cX11_readDance 168 = .ok (.getfield 45, 3) := by decide +kernel
theorem dX11_readDance_171 : decode cX11_readDance 171 = .ok (.iconst 5, 1) := by decide +kernel
theorem dX11_readDance_172 : decode cX11_readDance 172 = .ok (.iaload, 1) := by decide +kernel
theorem dX11_readDance_173 : decode cX11_readDance 173 = .ok (.iadd, 1) := by decide +kernel
theorem dX11_readDance_174 : decode cX11_readDance 174 = .ok (.istore 4, 2) := by decide +kernel
theorem dX11_readDance_176 : decode cX11_readDance 176 = .ok (.aload_n 0, 1) := by decide +kernel
theorem dX11_readDance_177 : decode cX11_readDance 177 = .ok (.getfield 51, 3) := by decide +kernel
theorem dX11_readDance_180 : decode cX11_readDance 180 = .ok (.iload 4, 2) := by decide +kernel
theorem dX11_readDance_182 : decode cX11_readDance 182 = .ok (.iload_n 1, 1) := by decide +kernel
theorem dX11_readDance_183 : decode cX11_readDance 183 = .ok (.iastore, 1) := by decide +kernel
theorem dX11_readDance_184 : decode cX11_readDance 184 = .ok (.aload_n 0, 1) := by decide +kernel
theorem dX11_readDance_185 : decode cX11_readDance 185 = .ok (.getfield 54, 3) := by decide +kernel
theorem dX11_readDance_188 : decode cX11_readDance 188 = .ok (.iload 4, 2) := by decide +kernel
theorem dX11_readDance_190 : decode cX11_readDance 190 = .ok (.iload_n 2, 1) := by decide +kernel
theorem dX11_readDance_191 : decode cX11_readDance 191 = .ok (.iastore, 1) := by decide +kernel
theorem dX11_readDance_192 : decode cX11_readDance 192 = .ok (.aload_n 0, 1) := by decide +kernel
theorem dX11_readDance_193 : decode cX11_readDance 193 = .ok (.getfield 57, 3) := by decide +kernel
theorem dX11_readDance_196 : decode cX11_readDance 196 = .ok (.iload 4, 2) := by decide +kernel
theorem dX11_readDance_198 : decode cX11_readDance 198 = .ok (.aload_n 0, 1) := by decide +kernel
theorem dX11_readDance_199 : decode cX11_readDance 199 = .ok (.iconst 1, 1) := by decide +kernel
theorem dX11_readDance_200 : decode cX11_readDance 200 = .ok (.iconst 4, 1) := by decide +kernel
theorem dX11_readDance_201 : decode cX11_readDance 201 = .ok (.invokevirtual 244, 3) := by decide +kernel
theorem dX11_readDance_204 : decode cX11_readDance 204 = .ok (.iastore, 1) := by decide +kernel
theorem dX11_readDance_205 : decode cX11_readDance 205 = .ok (.aload_n 0, 1) := by decide +kernel
theorem dX11_readDance_206 : decode cX11_readDance 206 = .ok (.getfield 59, 3) := by decide +kernel
theorem dX11_readDance_209 : decode cX11_readDance 209 = .ok (.iload 4, 2) := by decide +kernel
theorem dX11_readDance_211 : decode cX11_readDance 211 = .ok (.iconst 0, 1) := by decide +kernel
theorem dX11_readDance_212 : decode cX11_readDance 212 = .ok (.iastore, 1) := by decide +kernel
theorem dX11_readDance_213 : decode cX11_readDance 213 = .ok (.aload_n 0, 1) := by decide +kernel
theorem dX11_readDance_214 : decode cX11_readDance 214 = .ok (.getfield 45, 3) := by decide +kernel
theorem dX11_readDance_217 : decode cX11_readDance 217 = .ok (.iconst 5, 1) := by decide +kernel
theorem dX11_readDance_218 : decode cX11_readDance 218 = .ok (.dup2, 1) := by decide +kernel
theorem dX11_readDance_219 : decode cX11_readDance 219 = .ok (.iaload, 1) := by decide +kernel
theorem dX11_readDance_220 : decode cX11_readDance 220 = .ok (.iconst 1, 1) := by decide +kernel
theorem dX11_readDance_221 : decode cX11_readDance 221 = .ok (.iadd, 1) := by decide +kernel
theorem dX11_readDance_222 : decode cX11_readDance 222 = .ok (.iastore, 1) := by decide +kernel
theorem dX11_readDance_223 : decode cX11_readDance 223 = .ok (.return_, 1) := by decide +kernel
theorem dX11_readStep_0 : decode cX11_readStep 0 = .ok (.aload_n 0, 1) := by decide +kernel
theorem dX11_readStep_1 : decode cX11_readStep 1 = .ok (.getfield 45, 3) := by decide +kernel
theorem dX11_readStep_4 : decode cX11_readStep 4 = .ok (.iconst 5, 1) := by decide +kernel
theorem dX11_readStep_5 : decode cX11_readStep 5 = .ok (.iaload, 1) := by decide +kernel
theorem dX11_readStep_6 : decode cX11_readStep 6 = .ok (.ifCond .ne 8, 3) := by decide +kernel
theorem dX11_readStep_9 : decode cX11_readStep 9 = .ok (.aload_n 0, 1) := by decide +kernel
theorem dX11_readStep_10 : decode cX11_readStep 10 = .ok (.iconst 1, 1) := by decide +kernel
theorem dX11_readStep_11 : decode cX11_readStep 11 = .ok (.invokevirtual 234, 3) := by decide +kernel
theorem dX11_readStep_14 : decode cX11_readStep 14 = .ok (.bipush 8, 2) := by decide +kernel
theorem dX11_readStep_16 : decode cX11_readStep 16 = .ok (.iconst 1, 1) := by decide +kernel
theorem dX11_readStep_17 : decode cX11_readStep 17 = .ok (.aload_n 0, 1) := by decide +kernel
theorem dX11_readStep_18 : decode cX11_readStep 18 = .ok (.getfield 45, 3) := by decide +kernel
theorem dX11_readStep_21 : decode cX11_readStep 21 = .ok (.iconst 5, 1) := by decide +kernel
theorem dX11_readStep_22 : decode cX11_readStep 22 = .ok (.iaload, 1) := by decide +kernel
theorem dX11_readStep_23 : decode cX11_readStep 23 = .ok (.invokestatic 284, 3) := by decide +kernel
theorem dX11_readStep_26 : decode cX11_readStep 26 = .ok (.iadd, 1) := by decide +kernel
theorem dX11_readStep_27 : decode cX11_readStep 27 = .ok (.iconst 1, 1) := by decide +kernel
theorem dX11_readStep_28 : decode cX11_readStep 28 = .ok (.isub, 1) := by decide +kernel
theorem dX11_readStep_29 : decode cX11_readStep 29 = .ok (.istore_n 2, 1) := by decide +kernel
theorem dX11_readStep_30 : decode cX11_readStep 30 = .ok (.aload_n 0, 1) := by decide +kernel
theorem dX11_readStep_31 : decode cX11_readStep 31 = .ok (.getfield 213, 3) := by decide +kernel
theorem dX11_readStep_34 : decode cX11_readStep 34 = .ok (.ifCond .ne 19, 3) := by decide +kernel
theorem dX11_readStep_37 : decode cX11_readStep 37 = .ok (.aload_n 0, 1) := by decide +kernel
theorem dX11_readStep_38 : decode cX11_readStep 38 = .ok (.getfield 59, 3) := by decide +kernel
theorem dX11_readStep_41 : decode cX11_readStep 41 = .ok (.iload_n 2, 1) := by decide +kernel
theorem dX11_readStep_42 : decode cX11_readStep 42 = .ok (.iaload, 1) := by decide +kernel
theorem dX11_readStep_43 : decode cX11_readStep 43 = .ok (.bipush 10, 2) := by decide +kernel
theorem dX11_readStep_45 : decode cX11_readStep 45 = .ok (.if_icmp .ne 8, 3) := by decide +kernel
theorem dX11_readStep_48 : decode cX11_readStep 48 = .ok (.aload_n 0, 1) := by decide +kernel
theorem dX11_readStep_49 : decode cX11_readStep 49 = .ok (.iconst 2, 1) := by decide +kernel
theorem dX11_readStep_50 : decode cX11_readStep 50 = .ok (.invokevirtual 234, 3) := by decide +kernel
theorem dX11_readStep_53 : decode cX11_readStep 53 = .ok (.aload_n 0, 1) := by decide +kernel
theorem dX11_readStep_54 : decode cX11_readStep 54 = .ok (.getfield 213, 3) := by decide +kernel
theorem dX11_readStep_57 : decode cX11_readStep 57 = .ok (.ifCond .eq 4, 3) := by decide +kernel
theorem dX11_readStep_60 : decode cX11_readStep 60 = .ok (.return_, 1) := by decide +kernel
theorem dX11_readStep_61 : decode cX11_readStep 61 = .ok (.aload_n 0, 1) := by decide +kernel
theorem dX11_readStep_62 : decode cX11_readStep 62 = .ok (.invokevirtual 238, 3) := by decide +kernel
theorem dX11_readStep_65 : decode cX11_readStep 65 = .ok (.bipush 10, 2) := by decide +kernel
theorem dX11_readStep_67 : decode cX11_readStep 67 = .ok (.iload_n 2, 1) := by decide +kernel
theorem dX11_readStep_68 : decode cX11_readStep 68 = .ok (.imul, 1) := by decide +kernel
theorem dX11_readStep_69 : decode cX11_readStep 69 = .ok (.aload_n 0, 1) := by decide +kernel
theorem dX11_readStep_70 : decode cX11_readStep 70 = .ok (.getfield 59, 3) := by decide +kernel
theorem dX11_readStep_73 : decode cX11_readStep 73 = .ok (.iload_n 2, 1) := by decide +kernel
theorem dX11_readStep_74 : decode cX11_readStep 74 = .ok (.iaload, 1) := by decide +kernel
theorem dX11_readStep_75 : decode cX11_readStep 75 = .ok (.iadd, 1) := by decide +kernel
theorem dX11_readStep_76 : decode cX11_readStep 76 = .ok (.istore_n 3, 1) := by decide +kernel
theorem dX11_readStep_77 : decode cX11_readStep 77 = .ok (.aload_n 0, 1) := by decide +kernel
theorem dX11_readStep_78 : decode cX11_readStep 78 = .ok (.getfield 62, 3) := by decide +kernel
theorem dX11_readStep_81 : decode cX11_readStep 81 = .ok (.iload_n 3, 1) := by decide +kernel
theorem dX11_readStep_82 : decode cX11_readStep 82 = .ok (.iload_n 1, 1) := by decide +kernel
theorem dX11_readStep_83 : decode cX11_readStep 83 = .ok (.iastore, 1) := by decide +kernel
theorem dX11_readStep_84 : decode cX11_readStep 84 = .ok (.aload_n 0, 1) := by decide +kernel
theorem dX11_readStep_85 : decode cX11_readStep 85 = .ok (.getfield 65, 3) := by decide +kernel
theorem dX11_readStep_88 : decode cX11_readStep 88 = .ok (.iload_n 3, 1) := by decide +kernel
theorem dX11_readStep_89 : decode cX11_readStep 89 = .ok (.iload_n 1, 1) := by decide +kernel
theorem dX11_readStep_90 : decode cX11_readStep 90 = .ok (.iconst 4, 1) := by decide +kernel
theorem dX11_readStep_91 : decode cX11_readStep 91 = .ok (.if_icmp .ne 7, 3) := by decide +kernel
theorem dX11_readStep_94 : decode cX11_readStep 94 = .ok (.iconst 2, 1) := by decide +kernel
theorem dX11_readStep_95 : decode cX11_readStep 95 = .ok (.goto 9, 3) := by decide +kernel
theorem dX11_readStep_98 : decode cX11_readStep 98 = .ok (.aload_n 0, 1) := by decide +kernel
theorem dX11_readStep_99 : decode cX11_readStep 99 = .ok (.iconst 0, 1) := by decide +kernel
theorem dX11_readStep_100 : decode cX11_readStep 100 = .ok (.iconst 2, 1) := by decide +kernel
theorem dX11_readStep_101 : decode cX11_readStep 101 = .ok (.invokevirtual 244, 3) := by decide +kernel
theorem dX11_readStep_104 : decode cX11_readStep 104 = .ok (.iastore, 1) := by decide +kernel
theorem dX11_readStep_105 : decode cX11_readStep 105 = .ok (.aload_n 0, 1) := by decide +kernel
theorem dX11_readStep_106 : decode cX11_readStep 106 = .ok (.getfield 68, 3) := by decide +kernel
theorem dX11_readStep_109 : decode cX11_readStep 109 = .ok (.iload_n 3, 1) := by decide +kernel
theorem dX11_readStep_110 : decode cX11_readStep 110 = .ok (.iload_n 1, 1) := by decide +kernel
theorem dX11_readStep_111 : decode cX11_readStep 111 = .ok (.iconst 3, 1) := by decide +kernel
theorem dX11_readStep_112 : decode cX11_readStep 112 = .ok (.if_icmp .eq 8, 3) := by decide +kernel
theorem dX11_readStep_115 : decode cX11_readStep 115 = .ok (.iload_n 1, 1) := by decide +kernel
theorem dX11_readStep_116 : decode cX11_readStep 116 = .ok (.iconst 4, 1) := by decide +kernel
theorem dX11_readStep_117 : decode cX11_readStep 117 = .ok (.if_icmp .ne 7, 3) := by decide +kernel
theorem dX11_readStep_120 : decode cX11_readStep 120 = .ok (.iconst 0, 1) := by decide +kernel
theorem dX11_readStep_121 : decode cX11_readStep 121 = .ok (.goto 10, 3) := by decide +kernel
theorem dX11_readStep_124 : decode cX11_readStep 124 = .ok (.aload_n 0, 1) := by decide +kernel
theorem dX11_readStep_125 : decode cX11_readStep 125 = .ok (.iconst 0, 1) := by decide +kernel
theorem dX11_readStep_126 : decode cX11_readStep 126 = .ok (.bipush 9, 2) := by decide +kernel
theorem dX11_readStep_128 : decode cX11_readStep 128 = .ok (.invokevirtual 244, 3) := by decide +kernel
theorem dX11_readStep_131 : decode cX11_readStep 131 = .ok (.iastore, 1) := by decide +kernel
theorem dX11_readStep_132 : decode cX11_readStep 132 = .ok (.aload_n 0, 1) := by decide +kernel
theorem dX11_readStep_133 : decode cX11_readStep 133 = .ok (.getfield 71, 3) := by decide +kernel
theorem dX11_readStep_136 : decode cX11_readStep 136 = .ok (.iload_n 3, 1) := by decide +kernel
theorem dX11_readStep_137 : decode cX11_readStep 137 = .ok (.iload_n 1, 1) := by decide +kernel
theorem dX11_readStep_138 : decode cX11_readStep 138 = .ok (.iconst 1, 1) := by decide +kernel
theorem dX11_readStep_139 : decode cX11_readStep 139 = .ok (.if_icmp .eq 8, 3) := by decide +kernel
theorem dX11_readStep_142 : decode cX11_readStep 142 = .ok (.iload_n 1, 1) := by decide +kernel
theorem dX11_readStep_143 : decode cX11_readStep 143 = .ok (.iconst 4, 1) := by decide +kernel
theorem dX11_readStep_144 : decode cX11_readStep 144 = .ok (.if_icmp .ne 7, 3) := by decide +kernel
theorem dX11_readStep_147 : decode cX11_readStep 147 = .ok (.iconst 0, 1) := by decide +kernel
theorem dX11_readStep_148 : decode cX11_readStep 148 = .ok (.goto 10, 3) := by decide +kernel
theorem dX11_readStep_151 : decode cX11_readStep 151 = .ok (.aload_n 0, 1) := by decide +kernel
theorem dX11_readStep_152 : decode cX11_readStep 152 = .ok (.iconst 0, 1) := by decide +kernel
theorem dX11_readStep_153 : decode cX11_readStep 153 = .ok (.bipush 7, 2) := by decide +kernel
theorem dX11_readStep_155 : decode cX11_readStep 155 = .ok (.invokevirtual 244, 3) := by decide +kernel
theorem dX11_readStep_158 : decode cX11_readStep 158 = .ok (.iastore, 1) := by decide +kernel
theorem dX11_readStep_159 : decode cX11_readStep 159 = .ok (.aload_n 0, 1) := by decide +kernel
theorem dX11_readStep_160 : decode cX11_readStep 160 = .ok (.getfield 59, 3) := by decide +kernel
theorem dX11_readStep_163 : decode cX11_readStep 163 = .ok (.iload_n 2, 1) := by decide +kernel
theorem dX11_readStep_164 : decode cX11_readStep 164 = .ok (.dup2, 1) := by decide +kernel
theorem dX11_readStep_165 : decode cX11_readStep 165 = .ok (.iaload, 1) := by decide +kernel
theorem dX11_readStep_166 : decode cX11_readStep 166 = .ok (.iconst 1, 1) := by decide +kernel
theorem dX11_readStep_167 : decode cX11_readStep 167 = .ok (.iadd, 1) := by decide +kernel
theorem dX11_readStep_168 : decode cX11_readStep 168 = .ok (.iastore, 1) := by decide +kernel
theorem dX11_readStep_169 : decode cX11_readStep 169 = .ok (.return_, 1) := by decide +kernel
theorem dX11_readLine_0 : decode cX11_readLine 0 = .ok (.aload_n 0, 1) := by decide +kernel
theorem dX11_readLine_1 : decode cX11_readLine 1 = .ok (.ldc_w 287, 3) := by decide +kernel
theorem dX11_readLine_4 : decode cX11_readLine 4 = .ok (.invokevirtual 227, 3) := by decide +kernel
theorem dX11_readLine_7 : decode cX11_readLine 7 = .ok (.ifCond .eq 7, 3) := by decide +kernel
theorem dX11_readLine_10 : decode cX11_readLine 10 = .ok (.iconst 1, 1) := by decide +kernel
theorem dX11_readLine_11 : decode cX11_readLine 11 = .ok (.goto 18, 3) := by decide +kernel
theorem dX11_readLine_14 : decode cX11_readLine 14 = .ok (.aload_n 0, 1) := by decide +kernel
theorem dX11_readLine_15 : decode cX11_readLine 15 = .ok (.ldc_w 289, 3) := by decide +kernel
theorem dX11_readLine_18 : decode cX11_readLine 18 = .ok (.invokevirtual 227, 3) := by decide +kernel
theorem dX11_readLine_21 : decode cX11_readLine 21 = .ok (.ifCond .eq 7, 3) := by decide +kernel
theorem dX11_readLine_24 : decode cX11_readLine 24 = .ok (.iconst 2, 1) := by decide +kernel
theorem dX11_readLine_25 : decode cX11_readLine 25 = .ok (.goto 4, 3) := by decide +kernel
theorem dX11_readLine_28 : decode cX11_readLine 28 = .ok (.iconst 0, 1) := by decide +kernel
theorem dX11_readLine_29 : decode cX11_readLine 29 = .ok (.istore_n 2, 1) := by decide +kernel
theorem dX11_readLine_30 : decode cX11_readLine 30 = .ok (.aload_n 0, 1) := by decide +kernel
theorem dX11_readLine_31 : decode cX11_readLine 31 = .ok (.aload_n 0, 1) := by decide +kernel
theorem dX11_readLine_32 : decode cX11_readLine 32 = .ok (.getfield 21, 3) := by decide +kernel
theorem dX11_readLine_35 : decode cX11_readLine 35 = .ok (.invokevirtual 250, 3) := by decide +kernel
theorem dX11_readLine_38 : decode cX11_readLine 38 = .ok (.istore_n 3, 1) := by decide +kernel
theorem dX11_readLine_39 : decode cX11_readLine 39 = .ok (.iload_n 2, 1) := by decide +kernel
theorem dX11_readLine_40 : decode cX11_readLine 40 = .ok (.iload_n 1, 1) := by decide +kernel
theorem dX11_readLine_41 : decode cX11_readLine 41 = .ok (.iand, 1) := by decide +kernel
theorem dX11_readLine_42 : decode cX11_readLine 42 = .ok (.ifCond .eq 8, 3) := by decide +kernel
theorem dX11_readLine_45 : decode cX11_readLine 45 = .ok (.aload_n 0, 1) := by decide +kernel
theorem dX11_readLine_46 : decode cX11_readLine 46 = .ok (.iconst 5, 1) := by decide +kernel
theorem dX11_readLine_47 : decode cX11_readLine 47 = .ok (.invokevirtual 234, 3) := by decide +kernel
theorem dX11_readLine_50 : decode cX11_readLine 50 = .ok (.iload_n 2, 1) := by decide +kernel
theorem dX11_readLine_51 : decode cX11_readLine 51 = .ok (.ifCond .le 44, 3) := by decide +kernel
theorem dX11_readLine_54 : decode cX11_readLine 54 = .ok (.aload_n 0, 1) := by decide +kernel
theorem dX11_readLine_55 : decode cX11_readLine 55 = .ok (.getfield 213, 3) := by decide +kernel
theorem dX11_readLine_58 : decode cX11_readLine 58 = .ok (.ifCond .ne 7, 3) := by decide +kernel
theorem dX11_readLine_61 : decode cX11_readLine 61 = .ok (.aload_n 0, 1) := by decide +kernel
theorem dX11_readLine_62 : decode cX11_readLine 62 = .ok (.invokevirtual 238, 3) := by decide +kernel
theorem dX11_readLine_65 : decode cX11_readLine 65 = .ok (.iload_n 2, 1) := by decide +kernel
theorem dX11_readLine_66 : decode cX11_readLine 66 = .ok (.iconst 1, 1) := by decide +kernel
theorem dX11_readLine_67 : decode cX11_readLine 67 = .ok (.if_icmp .ne 20, 3) := by decide +kernel
theorem dX11_readLine_70 : decode cX11_readLine 70 = .ok (.aload_n 0, 1) := by decide +kernel
theorem dX11_readLine_71 : decode cX11_readLine 71 = .ok (.getfield 45, 3) := by decide +kernel
theorem dX11_readLine_74 : decode cX11_readLine 74 = .ok (.bipush 6, 2) := by decide +kernel
theorem dX11_readLine_76 : decode cX11_readLine 76 = .ok (.aload_n 0, 1) := by decide +kernel
theorem dX11_readLine_77 : decode cX11_readLine 77 = .ok (.iconst 4, 1) := by decide +kernel
theorem dX11_readLine_78 : decode cX11_readLine 78 = .ok (.bipush 20, 2) := by decide +kernel
theorem dX11_readLine_80 : decode cX11_readLine 80 = .ok (.invokevirtual 244, 3) := by decide +kernel
theorem dX11_readLine_83 : decode cX11_readLine 83 = .ok (.iastore, 1) := by decide +kernel
theorem dX11_readLine_84 : decode cX11_readLine 84 = .ok (.goto 63, 3) := by decide +kernel
theorem dX11_readLine_87 : decode cX11_readLine 87 = .ok (.aload_n 0, 1) := by decide +kernel
theorem dX11_readLine_88 : decode cX11_readLine 88 = .ok (.iconst 0, 1) := by decide +kernel
theorem dX11_readLine_89 : decode cX11_readLine 89 = .ok (.invokevirtual 257, 3) := by decide +kernel
theorem dX11_readLine_92 : decode cX11_readLine 92 = .ok (.goto 55, 3) := by decide +kernel
theorem dX11_readLine_95 : decode cX11_readLine 95 = .ok (.iload_n 3, 1) := by decide +kernel
theorem dX11_readLine_96 : decode cX11_readLine 96 = .ok (.iconst (-1), 1) := by decide +kernel
theorem dX11_readLine_97 : decode cX11_readLine 97 = .ok (.if_icmp .eq 11, 3) := by decide +kernel
theorem dX11_readLine_100 : decode cX11_readLine 100 = .ok (.aload_n 0, 1) := by decide +kernel
theorem dX11_readLine_101 : decode cX11_readLine 101 = .ok (.iload_n 3, 1) := by decide +kernel
theorem dX11_readLine_102 : decode cX11_readLine 102 = .ok (.invokevirtual 291, 3) := by decide +kernel
theorem dX11_readLine_105 : decode cX11_readLine 105 = .ok (.goto 42, 3) := by decide +kernel
theorem dX11_readLine_108 : decode cX11_readLine 108 = .ok (.aload_n 0, 1) := by decide +kernel
theorem dX11_readLine_109 : decode cX11_readLine 109 = .ok (.ldc_w 294, 3) := by decide +kernel
theorem dX11_readLine_112 : decode cX11_readLine 112 = .ok (.invokevirtual 227, 3) := by decide +kernel
theorem dX11_readLine_115 : decode cX11_readLine 115 = .ok (.ifCond .eq 10, 3) := by decide +kernel
theorem dX11_readLine_118 : decode cX11_readLine 118 = .ok (.aload_n 0, 1) := by decide +kernel
theorem dX11_readLine_119 : decode cX11_readLine 119 = .ok (.invokevirtual 296, 3) := by decide +kernel
theorem dX11_readLine_122 : decode cX11_readLine 122 = .ok (.goto 25, 3) := by decide +kernel
theorem dX11_readLine_125 : decode cX11_readLine 125 = .ok (.aload_n 0, 1) := by decide +kernel
theorem dX11_readLine_126 : decode cX11_readLine 126 = .ok (.ldc_w 299, 3) := by decide +kernel
theorem dX11_readLine_129 : decode cX11_readLine 129 = .ok (.invokevirtual 227, 3) := by decide +kernel
theorem dX11_readLine_132 : decode cX11_readLine 132 = .ok (.ifCond .eq 10, 3) := by decide +kernel
theorem dX11_readLine_135 : decode cX11_readLine 135 = .ok (.aload_n 0, 1) := by decide +kernel
theorem dX11_readLine_136 : decode cX11_readLine 136 = .ok (.invokevirtual 301, 3) := by decide +kernel
theorem dX11_readLine_139 : decode cX11_readLine 139 = .ok (.goto 8, 3) := by decide +kernel
theorem dX11_readLine_142 : decode cX11_readLine 142 = .ok (.aload_n 0, 1) := by decide +kernel
theorem dX11_readLine_143 : decode cX11_readLine 143 = .ok (.iconst 1, 1) := by decide +kernel
theorem dX11_readLine_144 : decode cX11_readLine 144 = .ok (.invokevirtual 234, 3) := by decide +kernel
theorem dX11_readLine_147 : decode cX11_readLine 147 = .ok (.aload_n 0, 1) := by decide +kernel
theorem dX11_readLine_148 : decode cX11_readLine 148 = .ok (.bipush 59, 2) := by decide +kernel
theorem dX11_readLine_150 : decode cX11_readLine 150 = .ok (.invokevirtual 254, 3) := by decide +kernel
theorem dX11_readLine_153 : decode cX11_readLine 153 = .ok (.iload_n 1, 1) := by decide +kernel
theorem dX11_readLine_154 : decode cX11_readLine 154 = .ok (.iload_n 2, 1) := by decide +kernel
theorem dX11_readLine_155 : decode cX11_readLine 155 = .ok (.ior, 1) := by decide +kernel
theorem dX11_readLine_156 : decode cX11_readLine 156 = .ok (.ireturn, 1) := by decide +kernel
theorem dX11_ball_0 : decode cX11_ball 0 = .ok (.aload_n 0, 1) := by decide +kernel
theorem dX11_ball_1 : decode cX11_ball 1 = .ok (.iconst 0, 1) := by decide +kernel
theorem dX11_ball_2 : decode cX11_ball 2 = .ok (.putfield 159, 3) := by decide +kernel
theorem dX11_ball_5 : decode cX11_ball 5 = .ok (.iload_n 1, 1) := by decide +kernel
theorem dX11_ball_6 : decode cX11_ball 6 = .ok (.ifCond .lt 11, 3) := by decide +kernel
theorem dX11_ball_9 : decode cX11_ball 9 = .ok (.iload_n 1, 1) := by decide +kernel
theorem dX11_ball_10 : decode cX11_ball 10 = .ok (.aload_n 0, 1) := by decide +kernel
theorem dX11_ball_11 : decode cX11_ball 11 = .ok (.getfield 172, 3) := by decide +kernel
theorem dX11_ball_14 : decode cX11_ball 14 = .ok (.if_icmp .le 9, 3) := by decide +kernel
theorem dX11_ball_17 : decode cX11_ball 17 = .ok (.aload_n 0, 1) := by decide +kernel
theorem dX11_ball_18 : decode cX11_ball 18 = .ok (.iconst 1, 1) := by decide +kernel
theorem dX11_ball_19 : decode cX11_ball 19 = .ok (.invokevirtual 304, 3) := by decide +kernel
theorem dX11_ball_22 : decode cX11_ball 22 = .ok (.ireturn, 1) := by decide +kernel
theorem dX11_ball_23 : decode cX11_ball 23 = .ok (.aload_n 0, 1) := by decide +kernel
theorem dX11_ball_24 : decode cX11_ball 24 = .ok (.iconst 0, 1) := by decide +kernel
theorem dX11_ball_25 : decode cX11_ball 25 = .ok (.putfield 172, 3) := by decide +kernel
theorem dX11_ball_28 : decode cX11_ball 28 = .ok (.aload_n 0, 1) := by decide +kernel
theorem dX11_ball_29 : decode cX11_ball 29 = .ok (.iload_n 1, 1) := by decide +kernel
theorem dX11_ball_30 : decode cX11_ball 30 = .ok (.putfield 175, 3) := by decide +kernel
theorem dX11_ball_33 : decode cX11_ball 33 = .ok (.aload_n 0, 1) := by decide +kernel
theorem dX11_ball_34 : decode cX11_ball 34 = .ok (.iconst 0, 1) := by decide +kernel
theorem dX11_ball_35 : decode cX11_ball 35 = .ok (.putfield 178, 3) := by decide +kernel
theorem dX11_ball_38 : decode cX11_ball 38 = .ok (.aload_n 0, 1) := by decide +kernel
theorem dX11_ball_39 : decode cX11_ball 39 = .ok (.iconst 0, 1) := by decide +kernel
theorem dX11_ball_40 : decode cX11_ball 40 = .ok (.putfield 213, 3) := by decide +kernel
theorem dX11_ball_43 : decode cX11_ball 43 = .ok (.aload_n 0, 1) := by decide +kernel
theorem dX11_ball_44 : decode cX11_ball 44 = .ok (.iconst (-1), 1) := by decide +kernel
theorem dX11_ball_45 : decode cX11_ball 45 = .ok (.putfield 83, 3) := by decide +kernel
theorem dX11_ball_48 : decode cX11_ball 48 = .ok (.iconst 0, 1) := by decide +kernel
theorem dX11_ball_49 : decode cX11_ball 49 = .ok (.istore_n 2, 1) := by decide +kernel
theorem dX11_ball_50 : decode cX11_ball 50 = .ok (.iload_n 2, 1) := by decide +kernel
theorem dX11_ball_51 : decode cX11_ball 51 = .ok (.iconst 4, 1) := by decide +kernel
theorem dX11_ball_52 : decode cX11_ball 52 = .ok (.if_icmp .ge 28, 3) := by decide +kernel
theorem dX11_ball_55 : decode cX11_ball 55 = .ok (.aload_n 0, 1) := by decide +kernel
theorem dX11_ball_56 : decode cX11_ball 56 = .ok (.getfield 45, 3) := by decide +kernel
theorem dX11_ball_59 : decode cX11_ball 59 = .ok (.iconst 4, 1) := by decide +kernel
theorem dX11_ball_60 : decode cX11_ball 60 = .ok (.iload_n 2, 1) := by decide +kernel
theorem dX11_ball_61 : decode cX11_ball 61 = .ok (.iadd, 1) := by decide +kernel
theorem dX11_ball_62 : decode cX11_ball 62 = .ok (.iload_n 2, 1) := by decide +kernel
theorem dX11_ball_63 : decode cX11_ball 63 = .ok (.iconst 2, 1) := by decide +kernel
theorem dX11_ball_64 : decode cX11_ball 64 = .ok (.if_icmp .ne 8, 3) := by decide +kernel
theorem dX11_ball_67 : decode cX11_ball 67 = .ok (.bipush 12, 2) := by decide +kernel
theorem dX11_ball_69 : decode cX11_ball 69 = .ok (.goto 4, 3) := by decide +kernel
theorem dX11_ball_72 : decode cX11_ball 72 = .ok (.iconst 0, 1) := by decide +kernel
theorem dX11_ball_73 : decode cX11_ball 73 = .ok (.iastore, 1) := by decide +kernel
theorem dX11_ball_74 : decode cX11_ball 74 = .ok (.iinc 2 1, 3) := by decide +kernel
theorem dX11_ball_77 : decode cX11_ball 77 = .ok (.goto (-27), 3) := by decide +kernel
theorem dX11_ball_80 : decode cX11_ball 80 = .ok (.aload_n 0, 1) := by decide +kernel
theorem dX11_ball_81 : decode cX11_ball 81 = .ok (.invokevirtual 238, 3) := by decide +kernel
theorem dX11_ball_84 : decode cX11_ball 84 = .ok (.iconst 0, 1) := by decide +kernel
theorem dX11_ball_85 : decode cX11_ball 85 = .ok (.istore_n 2, 1) := by decide +kernel
theorem dX11_ball_86 : decode cX11_ball 86 = .ok (.aload_n 0, 1) := by decide +kernel
theorem dX11_ball_87 : decode cX11_ball 87 = .ok (.getfield 213, 3) := by decide +kernel
theorem dX11_ball_90 : decode cX11_ball 90 = .ok (.ifCond .ne 19, 3) := by decide +kernel
theorem dX11_ball_93 : decode cX11_ball 93 = .ok (.aload_n 0, 1) := by decide +kernel
theorem dX11_ball_94 : decode cX11_ball 94 = .ok (.getfield 188, 3) := by decide +kernel
theorem dX11_ball_97 : decode cX11_ball 97 = .ok (.ifCond .eq 12, 3) := by decide +kernel
theorem dX11_ball_100 : decode cX11_ball 100 = .ok (.aload_n 0, 1) := by decide +kernel
theorem dX11_ball_101 : decode cX11_ball 101 = .ok (.iload_n 2, 1) := by decide +kernel
theorem dX11_ball_102 : decode cX11_ball 102 = .ok (.invokevirtual 307, 3) := by decide +kernel
theorem dX11_ball_105 : decode cX11_ball 105 = .ok (.istore_n 2, 1) := by decide +kernel
theorem dX11_ball_106 : decode cX11_ball 106 = .ok (.goto (-20), 3) := by decide +kernel
theorem dX11_ball_109 : decode cX11_ball 109 = .ok (.aload_n 0, 1) := by decide +kernel
theorem dX11_ball_110 : decode cX11_ball 110 = .ok (.getfield 213, 3) := by decide +kernel
theorem dX11_ball_113 : decode cX11_ball 113 = .ok (.ifCond .eq 26, 3) := by decide +kernel
theorem dX11_ball_116 : decode cX11_ball 116 = .ok (.aload_n 0, 1) := by decide +kernel
theorem dX11_ball_117 : decode cX11_ball 117 = .ok (.aload_n 0, 1) := by decide +kernel
theorem dX11_ball_118 : decode cX11_ball 118 = .ok (.getfield 216, 3) := by decide +kernel
theorem dX11_ball_121 : decode cX11_ball 121 = .ok (.putfield 83, 3) := by decide +kernel
theorem dX11_ball_124 : decode cX11_ball 124 = .ok (.aload_n 0, 1) := by decide +kernel
theorem dX11_ball_125 : decode cX11_ball 125 = .ok (.getfield 77, 3) := by decide +kernel
theorem dX11_ball_128 : decode cX11_ball 128 = .ok (.iconst 0, 1) := by decide +kernel
theorem dX11_ball_129 : decode cX11_ball 129 = .ok (.dup2, 1) := by decide +kernel
theorem dX11_ball_130 : decode cX11_ball 130 = .ok (.iaload, 1) := by decide +kernel
theorem dX11_ball_131 : decode cX11_ball 131 = .ok (.iconst 1, 1) := by decide +kernel
theorem dX11_ball_132 : decode cX11_ball 132 = .ok (.iadd, 1) := by decide +kernel
theorem dX11_ball_133 : decode cX11_ball 133 = .ok (.iastore, 1) := by decide +kernel
theorem dX11_ball_134 : decode cX11_ball 134 = .ok (.aload_n 0, 1) := by decide +kernel
theorem dX11_ball_135 : decode cX11_ball 135 = .ok (.getfield 213, 3) := by decide +kernel
theorem dX11_ball_138 : decode cX11_ball 138 = .ok (.ireturn, 1) := by decide +kernel
theorem dX11_ball_139 : decode cX11_ball 139 = .ok (.aload_n 0, 1) := by decide +kernel
theorem dX11_ball_140 : decode cX11_ball 140 = .ok (.invokevirtual 310, 3) := by decide +kernel
theorem dX11_ball_143 : decode cX11_ball 143 = .ok (.iconst 0, 1) := by decide +kernel
theorem dX11_ball_144 : decode cX11_ball 144 = .ok (.ireturn, 1) := by decide +kernel
theorem dX11_takeHalf_0 : decode cX11_takeHalf 0 = .ok (.iconst 0, 1) := by decide +kernel
theorem dX11_takeHalf_1 : decode cX11_takeHalf 1 = .ok (.istore_n 1, 1) := by decide +kernel
theorem dX11_takeHalf_2 : decode cX11_takeHalf 2 = .ok (.iload_n 1, 1) := by decide +kernel
theorem dX11_takeHalf_3 : decode cX11_takeHalf 3 = .ok (.aload_n 0, 1) := by decide +kernel
theorem dX11_takeHalf_4 : decode cX11_takeHalf 4 = .ok (.arraylength, 1) := by decide +kernel
theorem dX11_takeHalf_5 : decode cX11_takeHalf 5 = .ok (.iconst 2, 1) := by decide +kernel
theorem dX11_takeHalf_6 : decode cX11_takeHalf 6 = .ok (.idiv, 1) := by decide +kernel
theorem dX11_takeHalf_7 : decode cX11_takeHalf 7 = .ok (.if_icmp .ge 20, 3) := by decide +kernel
theorem dX11_takeHalf_10 : decode cX11_takeHalf 10 = .ok (.aload_n 0, 1) := by decide +kernel
theorem dX11_takeHalf_11 : decode cX11_takeHalf 11 = .ok (.iload_n 1, 1) := by decide +kernel
theorem dX11_takeHalf_12 : decode cX11_takeHalf 12 = .ok (.aload_n 0, 1) := by decide +kernel
theorem dX11_takeHalf_13 : decode cX11_takeHalf 13 = .ok (.aload_n 0, 1) := by decide +kernel
theorem dX11_takeHalf_14 : decode cX11_takeHalf 14 = .ok (.arraylength, 1) := by decide +kernel
theorem dX11_takeHalf_15 : decode cX11_takeHalf 15 = .ok (.iconst 2, 1) := by decide +kernel
theorem dX11_takeHalf_16 : decode cX11_takeHalf 16 = .ok (.idiv, 1) := by decide +kernel
theorem dX11_takeHalf_17 : decode cX11_takeHalf 17 = .ok (.iload_n 1, 1) := by decide +kernel
theorem dX11_takeHalf_18 : decode cX11_takeHalf 18 = .ok (.iadd, 1) := by decide +kernel
theorem dX11_takeHalf_19 : decode cX11_takeHalf 19 = .ok (.iaload, 1) := by decide +kernel
theorem dX11_takeHalf_20 : decode cX11_takeHalf 20 = .ok (.iastore, 1) := by decide +kernel
theorem dX11_takeHalf_21 : decode cX11_takeHalf 21 = .ok (.iinc 1 1, 3) := by decide +kernel
theorem dX11_takeHalf_24 : decode cX11_takeHalf 24 = .ok (.goto (-22), 3) := by decide +kernel
theorem dX11_takeHalf_27 : decode cX11_takeHalf 27 = .ok (.return_, 1) := by decide +kernel
theorem dX11_takeOver_0 : decode cX11_takeOver 0 = .ok (.aload_n 0, 1) := by decide +kernel
theorem dX11_takeOver_1 : decode cX11_takeOver 1 = .ok (.getfield 45, 3) := by decide +kernel
theorem dX11_takeOver_4 : decode cX11_takeOver 4 = .ok (.invokestatic 313, 3) := by decide +kernel
theorem dX11_takeOver_7 : decode cX11_takeOver 7 = .ok (.aload_n 0, 1) := by decide +kernel
theorem dX11_takeOver_8 : decode cX11_takeOver 8 = .ok (.getfield 48, 3) := by decide +kernel
theorem dX11_takeOver_11 : decode cX11_takeOver 11 = .ok (.invokestatic 313, 3) := by decide +kernel
theorem dX11_takeOver_14 : decode cX11_takeOver 14 = .ok (.aload_n 0, 1) := by decide +kernel
theorem dX11_takeOver_15 : decode cX11_takeOver 15 = .ok (.getfield 51, 3) := by decide +kernel
theorem dX11_takeOver_18 : decode cX11_takeOver 18 = .ok (.invokestatic 313, 3) := by decide +kernel
theorem dX11_takeOver_21 : decode cX11_takeOver 21 = .ok (.aload_n 0, 1) := by decide +kernel
theorem dX11_takeOver_22 : decode cX11_takeOver 22 = .ok (.getfield 54, 3) := by decide +kernel
theorem dX11_takeOver_25 : decode cX11_takeOver 25 = .ok (.invokestatic 313, 3) := by decide +kernel
theorem dX11_takeOver_28 : decode cX11_takeOver 28 = .ok (.aload_n 0, 1) := by decide +kernel
theorem dX11_takeOver_29 : decode cX11_takeOver 29 = .ok (.getfield 57, 3) := by decide +kernel
theorem dX11_takeOver_32 : decode cX11_takeOver 32 = .ok (.invokestatic 313, 3) := by decide +kernel
theorem dX11_takeOver_35 : decode cX11_takeOver 35 = .ok (.aload_n 0, 1) := by decide +kernel
theorem dX11_takeOver_36 : decode cX11_takeOver 36 = .ok (.getfield 59, 3) := by decide +kernel
theorem dX11_takeOver_39 : decode cX11_takeOver 39 = .ok (.invokestatic 313, 3) := by decide +kernel
theorem dX11_takeOver_42 : decode cX11_takeOver 42 = .ok (.aload_n 0, 1) := by decide +kernel
theorem dX11_takeOver_43 : decode cX11_takeOver 43 = .ok (.getfield 62, 3) := by decide +kernel
theorem dX11_takeOver_46 : decode cX11_takeOver 46 = .ok (.invokestatic 313, 3) := by decide +kernel
theorem dX11_takeOver_49 : decode cX11_takeOver 49 = .ok (.aload_n 0, 1) := by decide +kernel
theorem dX11_takeOver_50 : decode cX11_takeOver 50 = .ok (.getfield 65, 3) := by decide +kernel
theorem dX11_takeOver_53 : decode cX11_takeOver 53 = .ok (.invokestatic 313, 3) := by decide +kernel
theorem dX11_takeOver_56 : decode cX11_takeOver 56 = .ok (.aload_n 0, 1) := by decide +kernel
theorem dX11_takeOver_57 : decode cX11_takeOver 57 = .ok (.getfield 68, 3) := by decide +kernel
theorem dX11_takeOver_60 : decode cX11_takeOver 60 = .ok (.invokestatic 313, 3) := by decide +kernel
theorem dX11_takeOver_63 : decode cX11_takeOver 63 = .ok (.aload_n 0, 1) := by decide +kernel
theorem dX11_takeOver_64 : decode cX11_takeOver 64 = .ok (.getfield 71, 3) := by decide +kernel
theorem dX11_takeOver_67 : decode cX11_takeOver 67 = .ok (.invokestatic 313, 3) := by decide +kernel
theorem dX11_takeOver_70 : decode cX11_takeOver 70 = .ok (.aload_n 0, 1) := by decide +kernel
theorem dX11_takeOver_71 : decode cX11_takeOver 71 = .ok (.getfield 74, 3) := by decide +kernel
theorem dX11_takeOver_74 : decode cX11_takeOver 74 = .ok (.invokestatic 313, 3) := by decide +kernel
theorem dX11_takeOver_77 : decode cX11_takeOver 77 = .ok (.aload_n 0, 1) := by decide +kernel
theorem dX11_takeOver_78 : decode cX11_takeOver 78 = .ok (.iconst 0, 1) := by decide +kernel
theorem dX11_takeOver_79 : decode cX11_takeOver 79 = .ok (.putfield 317, 3) := by decide +kernel
theorem dX11_takeOver_82 : decode cX11_takeOver 82 = .ok (.aload_n 0, 1) := by decide +kernel
theorem dX11_takeOver_83 : decode cX11_takeOver 83 = .ok (.iconst 0, 1) := by decide +kernel
theorem dX11_takeOver_84 : decode cX11_takeOver 84 = .ok (.putfield 320, 3) := by decide +kernel
theorem dX11_takeOver_87 : decode cX11_takeOver 87 = .ok (.iconst 0, 1) := by decide +kernel
theorem dX11_takeOver_88 : decode cX11_takeOver 88 = .ok (.istore_n 1, 1) := by decide +kernel
theorem dX11_takeOver_89 : decode cX11_takeOver 89 = .ok (.iload_n 1, 1) := by decide +kernel
theorem dX11_takeOver_90 : decode cX11_takeOver 90 = .ok (.bipush 8, 2) := by decide +kernel
theorem dX11_takeOver_92 : decode cX11_takeOver 92 = .ok (.if_icmp .ge 16, 3) := by decide +kernel
theorem dX11_takeOver_95 : decode cX11_takeOver 95 = .ok (.aload_n 0, 1) := by decide +kernel
theorem dX11_takeOver_96 : decode cX11_takeOver 96 = .ok (.getfield 87, 3) := by decide +kernel
theorem dX11_takeOver_99 : decode cX11_takeOver 99 = .ok (.iload_n 1, 1) := by decide +kernel
theorem dX11_takeOver_100 : decode cX11_takeOver 100 = .ok (.iconst 0, 1) := by decide +kernel
theorem dX11_takeOver_101 : decode cX11_takeOver 101 = .ok (.iastore, 1) := by decide +kernel
theorem dX11_takeOver_102 : decode cX11_takeOver 102 = .ok (.iinc 1 1, 3) := by decide +kernel
theorem dX11_takeOver_105 : decode cX11_takeOver 105 = .ok (.goto (-16), 3) := by decide +kernel
theorem dX11_takeOver_108 : decode cX11_takeOver 108 = .ok (.iconst 0, 1) := by decide +kernel
theorem dX11_takeOver_109 : decode cX11_takeOver 109 = .ok (.istore_n 1, 1) := by decide +kernel
theorem dX11_takeOver_110 : decode cX11_takeOver 110 = .ok (.iload_n 1, 1) := by decide +kernel
theorem dX11_takeOver_111 : decode cX11_takeOver 111 = .ok (.bipush 48, 2) := by decide +kernel
theorem dX11_takeOver_113 : decode cX11_takeOver 113 = .ok (.if_icmp .ge 16, 3) := by decide +kernel
theorem dX11_takeOver_116 : decode cX11_takeOver 116 = .ok (.aload_n 0, 1) := by decide +kernel
theorem dX11_takeOver_117 : decode cX11_takeOver 117 = .ok (.getfield 90, 3) := by decide +kernel
theorem dX11_takeOver_120 : decode cX11_takeOver 120 = .ok (.iload_n 1, 1) := by decide +kernel
theorem dX11_takeOver_121 : decode cX11_takeOver 121 = .ok (.iconst 0, 1) := by decide +kernel
theorem dX11_takeOver_122 : decode cX11_takeOver 122 = .ok (.iastore, 1) := by decide +kernel
theorem dX11_takeOver_123 : decode cX11_takeOver 123 = .ok (.iinc 1 1, 3) := by decide +kernel
theorem dX11_takeOver_126 : decode cX11_takeOver 126 = .ok (.goto (-16), 3) := by decide +kernel
theorem dX11_takeOver_129 : decode cX11_takeOver 129 = .ok (.aload_n 0, 1) := by decide +kernel
theorem dX11_takeOver_130 : decode cX11_takeOver 130 = .ok (.iconst 0, 1) := by decide +kernel
theorem dX11_takeOver_131 : decode cX11_takeOver 131 = .ok (.putfield 323, 3) := by decide +kernel
theorem dX11_takeOver_134 : decode cX11_takeOver 134 = .ok (.aload_n 0, 1) := by decide +kernel
theorem dX11_takeOver_135 : decode cX11_takeOver 135 = .ok (.iconst 0, 1) := by decide +kernel
theorem dX11_takeOver_136 : decode cX11_takeOver 136 = .ok (.putfield 326, 3) := by decide +kernel
theorem dX11_takeOver_139 : decode cX11_takeOver 139 = .ok (.aload_n 0, 1) := by decide +kernel
theorem dX11_takeOver_140 : decode cX11_takeOver 140 = .ok (.iconst 0, 1) := by decide +kernel
theorem dX11_takeOver_141 : decode cX11_takeOver 141 = .ok (.putfield 329, 3) := by decide +kernel
theorem dX11_takeOver_144 : decode cX11_takeOver 144 = .ok (.return_, 1) := by decide +kernel
theorem dX11_fault_0 : decode cX11_fault 0 = .ok (.aload_n 0, 1) := by decide +kernel
theorem dX11_fault_1 : decode cX11_fault 1 = .ok (.iconst 0, 1) := by decide +kernel
theorem dX11_fault_2 : decode cX11_fault 2 = .ok (.putfield 159, 3) := by decide +kernel
theorem dX11_fault_5 : decode cX11_fault 5 = .ok (.aload_n 0, 1) := by decide +kernel
theorem dX11_fault_6 : decode cX11_fault 6 = .ok (.getfield 83, 3) := by decide +kernel
theorem dX11_fault_9 : decode cX11_fault 9 = .ok (.ireturn, 1) := by decide +kernel
theorem dX11_pack_0 : decode cX11_pack 0 = .ok (.aload_n 1, 1) := by decide +kernel
theorem dX11_pack_1 : decode cX11_pack 1 = .ok (.iload_n 2, 1) := by decide +kernel
theorem dX11_pack_2 : decode cX11_pack 2 = .ok (.aload_n 0, 1) := by decide +kernel
theorem dX11_pack_3 : decode cX11_pack 3 = .ok (.getfield 317, 3) := by decide +kernel
theorem dX11_pack_6 : decode cX11_pack 6 = .ok (.iastore, 1) := by decide +kernel
theorem dX11_pack_7 : decode cX11_pack 7 = .ok (.aload_n 1, 1) := by decide +kernel
theorem dX11_pack_8 : decode cX11_pack 8 = .ok (.iload_n 2, 1) := by decide +kernel
theorem dX11_pack_9 : decode cX11_pack 9 = .ok (.iconst 1, 1) := by decide +kernel
theorem dX11_pack_10 : decode cX11_pack 10 = .ok (.iadd, 1) := by decide +kernel
theorem dX11_pack_11 : decode cX11_pack 11 = .ok (.aload_n 0, 1) := by decide +kernel
theorem dX11_pack_12 : decode cX11_pack 12 = .ok (.getfield 320, 3) := by decide +kernel
theorem dX11_pack_15 : decode cX11_pack 15 = .ok (.iastore, 1) := by decide +kernel
theorem dX11_pack_16 : decode cX11_pack 16 = .ok (.iload_n 2, 1) := by decide +kernel
theorem dX11_pack_17 : decode cX11_pack 17 = .ok (.iconst 2, 1) := by decide +kernel
theorem dX11_pack_18 : decode cX11_pack 18 = .ok (.iadd, 1) := by decide +kernel
theorem dX11_pack_19 : decode cX11_pack 19 = .ok (.istore_n 3, 1) := by decide +kernel
theorem dX11_pack_20 : decode cX11_pack 20 = .ok (.iconst 0, 1) := by decide +kernel
theorem dX11_pack_21 : decode cX11_pack 21 = .ok (.istore 4, 2) := by decide +kernel
theorem dX11_pack_23 : decode cX11_pack 23 = .ok (.iload 4, 2) := by decide +kernel
theorem dX11_pack_25 : decode cX11_pack 25 = .ok (.bipush 8, 2) := by decide +kernel
theorem dX11_pack_27 : decode cX11_pack 27 = .ok (.if_icmp .ge 22, 3) := by decide +kernel
theorem dX11_pack_30 : decode cX11_pack 30 = .ok (.aload_n 1, 1) := by decide +kernel
theorem dX11_pack_31 : decode cX11_pack 31 = .ok (.iload_n 3, 1) := by decide +kernel
theorem dX11_pack_32 : decode cX11_pack 32 = .ok (.iload 4, 2) := by decide +kernel
theorem dX11_pack_34 : decode cX11_pack 34 = .ok (.iadd, 1) := by decide +kernel
theorem dX11_pack_35 : decode cX11_pack 35 = .ok (.aload_n 0, 1) := by decide +kernel
theorem dX11_pack_36 : decode cX11_pack 36 = .ok (.getfield 87, 3) := by decide +kernel
theorem dX11_pack_39 : decode cX11_pack 39 = .ok (.iload 4, 2) := by decide +kernel
theorem dX11_pack_41 : decode cX11_pack 41 = .ok (.iaload, 1) := by decide +kernel
theorem dX11_pack_42 : decode cX11_pack 42 = .ok (.iastore, 1) := by decide +kernel
theorem dX11_pack_43 : decode cX11_pack 43 = .ok (.iinc 4 1, 3) := by decide +kernel
theorem dX11_pack_46 : decode cX11_pack 46 = .ok (.goto (-23), 3) := by decide +kernel
theorem dX11_pack_49 : decode cX11_pack 49 = .ok (.iinc 3 8, 3) := by decide +kernel
theorem dX11_pack_52 : decode cX11_pack 52 = .ok (.iconst 0, 1) := by decide +kernel
theorem dX11_pack_53 : decode cX11_pack 53 = .ok (.istore 4, 2) := by decide +kernel
theorem dX11_pack_55 : decode cX11_pack 55 = .ok (.iload 4, 2) := by decide +kernel
theorem dX11_pack_57 : decode cX11_pack 57 = .ok (.bipush 80, 2) := by decide +kernel
theorem dX11_pack_59 : decode cX11_pack 59 = .ok (.if_icmp .ge 22, 3) := by decide +kernel
theorem dX11_pack_62 : decode cX11_pack 62 = .ok (.aload_n 1, 1) := by decide +kernel
theorem dX11_pack_63 : decode cX11_pack 63 = .ok (.iload_n 3, 1) := by decide +kernel
theorem dX11_pack_64 : decode cX11_pack 64 = .ok (.iload 4, 2) := by decide +kernel
theorem dX11_pack_66 : decode cX11_pack 66 = .ok (.iadd, 1) := by decide +kernel
theorem dX11_pack_67 : decode cX11_pack 67 = .ok (.aload_n 0, 1) := by decide +kernel
theorem dX11_pack_68 : decode cX11_pack 68 = .ok (.getfield 68, 3) := by decide +kernel
theorem dX11_pack_71 : decode cX11_pack 71 = .ok (.iload 4, 2) := by decide +kernel
theorem dX11_pack_73 : decode cX11_pack 73 = .ok (.iaload, 1) := by decide +kernel
theorem dX11_pack_74 : decode cX11_pack 74 = .ok (.iastore, 1) := by decide +kernel
theorem dX11_pack_75 : decode cX11_pack 75 = .ok (.iinc 4 1, 3) := by decide +kernel
theorem dX11_pack_78 : decode cX11_pack 78 = .ok (.goto (-23), 3) := by decide +kernel
theorem dX11_pack_81 : decode cX11_pack 81 = .ok (.iinc 3 80, 3) := by decide +kernel
theorem dX11_pack_84 : decode cX11_pack 84 = .ok (.iconst 0, 1) := by decide +kernel
theorem dX11_pack_85 : decode cX11_pack 85 = .ok (.istore 4, 2) := by decide +kernel
theorem dX11_pack_87 : decode cX11_pack 87 = .ok (.iload 4, 2) := by decide +kernel
theorem dX11_pack_89 : decode cX11_pack 89 = .ok (.bipush 48, 2) := by decide +kernel
theorem dX11_pack_91 : decode cX11_pack 91 = .ok (.if_icmp .ge 22, 3) := by decide +kernel
theorem dX11_pack_94 : decode cX11_pack 94 = .ok (.aload_n 1, 1) := by decide +kernel
theorem dX11_pack_95 : decode cX11_pack 95 = .ok (.iload_n 3, 1) := by decide +kernel
theorem dX11_pack_96 : decode cX11_pack 96 = .ok (.iload 4, 2) := by decide +kernel
theorem dX11_pack_98 : decode cX11_pack 98 = .ok (.iadd, 1) := by decide +kernel
theorem dX11_pack_99 : decode cX11_pack 99 = .ok (.aload_n 0, 1) := by decide +kernel
theorem dX11_pack_100 : decode cX11_pack 100 = .ok (.getfield 90, 3) := by decide +kernel
theorem dX11_pack_103 : decode cX11_pack 103 = .ok (.iload 4, 2) := by decide +kernel
theorem dX11_pack_105 : decode cX11_pack 105 = .ok (.iaload, 1) := by decide +kernel
theorem dX11_pack_106 : decode cX11_pack 106 = .ok (.iastore, 1) := by decide +kernel
theorem dX11_pack_107 : decode cX11_pack 107 = .ok (.iinc 4 1, 3) := by decide +kernel
theorem dX11_pack_110 : decode cX11_pack 110 = .ok (.goto (-23), 3) := by decide +kernel
theorem dX11_pack_113 : decode cX11_pack 113 = .ok (.return_, 1) := by decide +kernel
theorem dX11_unpack_0 : decode cX11_unpack 0 = .ok (.aload_n 0, 1) := by decide +kernel
theorem dX11_unpack_1 : decode cX11_unpack 1 = .ok (.aload_n 1, 1) := by decide +kernel
theorem dX11_unpack_2 : decode cX11_unpack 2 = .ok (.iload_n 2, 1) := by decide +kernel
theorem dX11_unpack_3 : decode cX11_unpack 3 = .ok (.iaload, 1) := by decide +kernel
theorem dX11_unpack_4 : decode cX11_unpack 4 = .ok (.putfield 317, 3) := by decide +kernel
theorem dX11_unpack_7 : decode cX11_unpack 7 = .ok (.aload_n 0, 1) := by decide +kernel
theorem dX11_unpack_8 : decode cX11_unpack 8 = .ok (.aload_n 1, 1) := by decide +kernel
theorem dX11_unpack_9 : decode cX11_unpack 9 = .ok (.iload_n 2, 1) := by decide +kernel
theorem dX11_unpack_10 : decode cX11_unpack 10 = .ok (.iconst 1, 1) := by decide +kernel
theorem dX11_unpack_11 : decode cX11_unpack 11 = .ok (.iadd, 1) := by decide +kernel
theorem dX11_unpack_12 : decode cX11_unpack 12 = .ok (.iaload, 1) := by decide +kernel
theorem dX11_unpack_13 : decode cX11_unpack 13 = .ok (.putfield 320, 3) := by decide +kernel
theorem dX11_unpack_16 : decode cX11_unpack 16 = .ok (.iload_n 2, 1) := by decide +kernel
theorem dX11_unpack_17 : decode cX11_unpack 17 = .ok (.iconst 2, 1) := by decide +kernel
theorem dX11_unpack_18 : decode cX11_unpack 18 = .ok (.iadd, 1) := by decide +kernel
theorem dX11_unpack_19 : decode cX11_unpack 19 = .ok (.istore_n 3, 1) := by decide +kernel
theorem dX11_unpack_20 : decode cX11_unpack 20 = .ok (.iconst 0, 1) := by decide +kernel
theorem dX11_unpack_21 : decode cX11_unpack 21 = .ok (.istore 4, 2) := by decide +kernel
theorem dX11_unpack_23 : decode cX11_unpack 23 = .ok (.iload 4, 2) := by decide +kernel
theorem dX11_unpack_25 : decode cX11_unpack 25 = .ok (.bipush 8, 2) := by decide +kernel
theorem dX11_unpack_27 : decode cX11_unpack 27 = .ok (.if_icmp .ge 22, 3) := by decide +kernel
theorem dX11_unpack_30 : decode cX11_unpack 30 = .ok (.aload_n 0, 1) := by decide +kernel
theorem dX11_unpack_31 : decode cX11_unpack 31 = .ok (.getfield 87, 3) := by decide +kernel
theorem dX11_unpack_34 : decode cX11_unpack 34 = .ok (.iload 4, 2) := by decide +kernel
theorem dX11_unpack_36 : decode cX11_unpack 36 = .ok (.aload_n 1, 1) := by decide +kernel
theorem dX11_unpack_37 : decode cX11_unpack 37 = .ok (.iload_n 3, 1) := by decide +kernel
theorem dX11_unpack_38 : decode cX11_unpack 38 = .ok (.iload 4, 2) := by decide +kernel
theorem dX11_unpack_40 : decode cX11_unpack 40 = .ok (.iadd, 1) := by decide +kernel
theorem dX11_unpack_41 : decode cX11_unpack 41 = .ok (.iaload, 1) := by decide +kernel
theorem dX11_unpack_42 : decode cX11_unpack 42 = .ok (.iastore, 1) := by decide +kernel
theorem dX11_unpack_43 : decode cX11_unpack 43 = .ok (.iinc 4 1, 3) := by decide +kernel
theorem dX11_unpack_46 : decode cX11_unpack 46 = .ok (.goto (-23), 3) := by decide +kernel
theorem dX11_unpack_49 : decode cX11_unpack 49 = .ok (.iinc 3 8, 3) := by decide +kernel
theorem dX11_unpack_52 : decode cX11_unpack 52 = .ok (.iconst 0, 1) := by decide +kernel
theorem dX11_unpack_53 : decode cX11_unpack 53 = .ok (.istore 4, 2) := by decide +kernel
theorem dX11_unpack_55 : decode cX11_unpack 55 = .ok (.iload 4, 2) := by decide +kernel
theorem dX11_unpack_57 : decode cX11_unpack 57 = .ok (.bipush 80, 2) := by decide +kernel
theorem dX11_unpack_59 : decode cX11_unpack 59 = .ok (.if_icmp .ge 22, 3) := by decide +kernel
theorem dX11_unpack_62 : decode cX11_unpack 62 = .ok (.aload_n 0, 1) := by decide +kernel
theorem dX11_unpack_63 : decode cX11_unpack 63 = .ok (.getfield 68, 3) := by decide +kernel
theorem dX11_unpack_66 : decode cX11_unpack 66 = .ok (.iload 4, 2) := by decide +kernel
theorem dX11_unpack_68 : decode cX11_unpack 68 = .ok (.aload_n 1, 1) := by decide +kernel
theorem dX11_unpack_69 : decode cX11_unpack 69 = .ok (.iload_n 3, 1) := by decide +kernel
theorem dX11_unpack_70 : decode cX11_unpack 70 = .ok (.iload 4, 2) := by decide +kernel
theorem dX11_unpack_72 : decode cX11_unpack 72 = .ok (.iadd, 1) := by decide +kernel
theorem dX11_unpack_73 : decode cX11_unpack 73 = .ok (.iaload, 1) := by decide +kernel
theorem dX11_unpack_74 : decode cX11_unpack 74 = .ok (.iastore, 1) := by decide +kernel
theorem dX11_unpack_75 : decode cX11_unpack 75 = .ok (.iinc 4 1, 3) := by decide +kernel
theorem dX11_unpack_78 : decode cX11_unpack 78 = .ok (.goto (-23), 3) := by decide +kernel
theorem dX11_unpack_81 : decode cX11_unpack 81 = .ok (.iinc 3 80, 3) := by decide +kernel
theorem dX11_unpack_84 : decode cX11_unpack 84 = .ok (.iconst 0, 1) := by decide +kernel
theorem dX11_unpack_85 : decode cX11_unpack 85 = .ok (.istore 4, 2) := by decide +kernel
theorem dX11_unpack_87 : decode cX11_unpack 87 = .ok (.iload 4, 2) := by decide +kernel
theorem dX11_unpack_89 : decode cX11_unpack 89 = .ok (.bipush 48, 2) := by decide +kernel
theorem dX11_unpack_91 : decode cX11_unpack 91 = .ok (.if_icmp .ge 22, 3) := by decide +kernel
theorem dX11_unpack_94 : decode cX11_unpack 94 = .ok (.aload_n 0, 1) := by decide +kernel
theorem dX11_unpack_95 : decode cX11_unpack 95 = .ok (.getfield 90, 3) := by decide +kernel
theorem dX11_unpack_98 : decode cX11_unpack 98 = .ok (.iload 4, 2) := by decide +kernel
theorem dX11_unpack_100 : decode cX11_unpack 100 = .ok (.aload_n 1, 1) := by decide +kernel
theorem dX11_unpack_101 : decode cX11_unpack 101 = .ok (.iload_n 3, 1) := by decide +kernel
theorem dX11_unpack_102 : decode cX11_unpack 102 = .ok (.iload 4, 2) := by decide +kernel
theorem dX11_unpack_104 : decode cX11_unpack 104 = .ok (.iadd, 1) := by decide +kernel
theorem dX11_unpack_105 : decode cX11_unpack 105 = .ok (.iaload, 1) := by decide +kernel
theorem dX11_unpack_106 : decode cX11_unpack 106 = .ok (.iastore, 1) := by decide +kernel
theorem dX11_unpack_107 : decode cX11_unpack 107 = .ok (.iinc 4 1, 3) := by decide +kernel
theorem dX11_unpack_110 : decode cX11_unpack 110 = .ok (.goto (-23), 3) := by decide +kernel
theorem dX11_unpack_113 : decode cX11_unpack 113 = .ok (.return_, 1) := by decide +kernel
theorem dX11_stiff_0 : decode cX11_stiff 0 = .ok (.aload_n 0, 1) := by decide +kernel
theorem dX11_stiff_1 : decode cX11_stiff 1 = .ok (.getfield 48, 3) := by decide +kernel
theorem dX11_stiff_4 : decode cX11_stiff 4 = .ok (.iload_n 2, 1) := by decide +kernel
theorem dX11_stiff_5 : decode cX11_stiff 5 = .ok (.ifCond .ne 12, 3) := by decide +kernel
theorem dX11_stiff_8 : decode cX11_stiff 8 = .ok (.aload_n 0, 1) := by decide +kernel
theorem dX11_stiff_9 : decode cX11_stiff 9 = .ok (.getfield 51, 3) := by decide +kernel
theorem dX11_stiff_12 : decode cX11_stiff 12 = .ok (.iload_n 1, 1) := by decide +kernel
theorem dX11_stiff_13 : decode cX11_stiff 13 = .ok (.iaload, 1) := by decide +kernel
theorem dX11_stiff_14 : decode cX11_stiff 14 = .ok (.goto 9, 3) := by decide +kernel
theorem dX11_stiff_17 : decode cX11_stiff 17 = .ok (.aload_n 0, 1) := by decide +kernel
theorem dX11_stiff_18 : decode cX11_stiff 18 = .ok (.getfield 54, 3) := by decide +kernel
theorem dX11_stiff_21 : decode cX11_stiff 21 = .ok (.iload_n 1, 1) := by decide +kernel
theorem dX11_stiff_22 : decode cX11_stiff 22 = .ok (.iaload, 1) := by decide +kernel
theorem dX11_stiff_23 : decode cX11_stiff 23 = .ok (.iaload, 1) := by decide +kernel
theorem dX11_stiff_24 : decode cX11_stiff 24 = .ok (.aload_n 0, 1) := by decide +kernel
theorem dX11_stiff_25 : decode cX11_stiff 25 = .ok (.getfield 317, 3) := by decide +kernel
theorem dX11_stiff_28 : decode cX11_stiff 28 = .ok (.iadd, 1) := by decide +kernel
theorem dX11_stiff_29 : decode cX11_stiff 29 = .ok (.aload_n 0, 1) := by decide +kernel
theorem dX11_stiff_30 : decode cX11_stiff 30 = .ok (.getfield 87, 3) := by decide +kernel
theorem dX11_stiff_33 : decode cX11_stiff 33 = .ok (.iload_n 1, 1) := by decide +kernel
theorem dX11_stiff_34 : decode cX11_stiff 34 = .ok (.iaload, 1) := by decide +kernel
theorem dX11_stiff_35 : decode cX11_stiff 35 = .ok (.isub, 1) := by decide +kernel
theorem dX11_stiff_36 : decode cX11_stiff 36 = .ok (.aload_n 0, 1) := by decide +kernel
theorem dX11_stiff_37 : decode cX11_stiff 37 = .ok (.getfield 333, 3) := by decide +kernel
theorem dX11_stiff_40 : decode cX11_stiff 40 = .ok (.iadd, 1) := by decide +kernel
theorem dX11_stiff_41 : decode cX11_stiff 41 = .ok (.bipush 10, 2) := by decide +kernel
theorem dX11_stiff_43 : decode cX11_stiff 43 = .ok (.idiv, 1) := by decide +kernel
theorem dX11_stiff_44 : decode cX11_stiff 44 = .ok (.ireturn, 1) := by decide +kernel
theorem dX11_isOn_0 : decode cX11_isOn 0 = .ok (.iload_n 1, 1) := by decide +kernel
theorem dX11_isOn_1 : decode cX11_isOn 1 = .ok (.ifCond .lt 17, 3) := by decide +kernel
theorem dX11_isOn_4 : decode cX11_isOn 4 = .ok (.iload_n 1, 1) := by decide +kernel
theorem dX11_isOn_5 : decode cX11_isOn 5 = .ok (.aload_n 0, 1) := by decide +kernel
theorem dX11_isOn_6 : decode cX11_isOn 6 = .ok (.getfield 45, 3) := by decide +kernel
theorem dX11_isOn_9 : decode cX11_isOn 9 = .ok (.iconst 2, 1) := by decide +kernel
theorem dX11_isOn_10 : decode cX11_isOn 10 = .ok (.iaload, 1) := by decide +kernel
theorem dX11_isOn_11 : decode cX11_isOn 11 = .ok (.if_icmp .ge 7, 3) := by decide +kernel
theorem dX11_isOn_14 : decode cX11_isOn 14 = .ok (.iconst 1, 1) := by decide +kernel
theorem dX11_isOn_15 : decode cX11_isOn 15 = .ok (.goto 4, 3) := by decide +kernel
theorem dX11_isOn_18 : decode cX11_isOn 18 = .ok (.iconst 0, 1) := by decide +kernel
theorem dX11_isOn_19 : decode cX11_isOn 19 = .ok (.ireturn, 1) := by decide +kernel
theorem dX11_goes_0 : decode cX11_goes 0 = .ok (.iconst 0, 1) := by decide +kernel
theorem dX11_goes_1 : decode cX11_goes 1 = .ok (.istore_n 3, 1) := by decide +kernel
theorem dX11_goes_2 : decode cX11_goes 2 = .ok (.iload_n 3, 1) := by decide +kernel
theorem dX11_goes_3 : decode cX11_goes 3 = .ok (.iload_n 2, 1) := by decide +kernel
theorem dX11_goes_4 : decode cX11_goes 4 = .ok (.if_icmp .ge 111, 3) := by decide +kernel
theorem dX11_goes_7 : decode cX11_goes 7 = .ok (.aload_n 0, 1) := by decide +kernel
theorem dX11_goes_8 : decode cX11_goes 8 = .ok (.getfield 96, 3) := by decide +kernel
theorem dX11_goes_11 : decode cX11_goes 11 = .ok (.iload_n 1, 1) := by decide +kernel
theorem dX11_goes_12 : decode cX11_goes 12 = .ok (.iaload, 1) := by decide +kernel
theorem dX11_goes_13 : decode cX11_goes 13 = .ok (.aload_n 0, 1) := by decide +kernel
theorem dX11_goes_14 : decode cX11_goes 14 = .ok (.getfield 38, 3) := by decide +kernel
theorem dX11_goes_17 : decode cX11_goes 17 = .ok (.aload_n 0, 1) := by decide +kernel
theorem dX11_goes_18 : decode cX11_goes 18 = .ok (.getfield 102, 3) := by decide +kernel
theorem dX11_goes_21 : decode cX11_goes 21 = .ok (.iload_n 1, 1) := by decide +kernel
theorem dX11_goes_22 : decode cX11_goes 22 = .ok (.iaload, 1) := by decide +kernel
theorem dX11_goes_23 : decode cX11_goes 23 = .ok (.iaload, 1) := by decide +kernel
theorem dX11_goes_24 : decode cX11_goes 24 = .ok (.iadd, 1) := by decide +kernel
theorem dX11_goes_25 : decode cX11_goes 25 = .ok (.istore 4, 2) := by decide +kernel
theorem dX11_goes_27 : decode cX11_goes 27 = .ok (.aload_n 0, 1) := by decide +kernel
theorem dX11_goes_28 : decode cX11_goes 28 = .ok (.getfield 99, 3) := by decide +kernel
theorem dX11_goes_31 : decode cX11_goes 31 = .ok (.iload_n 1, 1) := by decide +kernel
theorem dX11_goes_32 : decode cX11_goes 32 = .ok (.iaload, 1) := by decide +kernel
theorem dX11_goes_33 : decode cX11_goes 33 = .ok (.aload_n 0, 1) := by decide +kernel
theorem dX11_goes_34 : decode cX11_goes 34 = .ok (.getfield 42, 3) := by decide +kernel
theorem dX11_goes_37 : decode cX11_goes 37 = .ok (.aload_n 0, 1) := by decide +kernel
theorem dX11_goes_38 : decode cX11_goes 38 = .ok (.getfield 102, 3) := by decide +kernel
theorem dX11_goes_41 : decode cX11_goes 41 = .ok (.iload_n 1, 1) := by decide +kernel
theorem dX11_goes_42 : decode cX11_goes 42 = .ok (.iaload, 1) := by decide +kernel
theorem dX11_goes_43 : decode cX11_goes 43 = .ok (.iaload, 1) := by decide +kernel
theorem dX11_goes_44 : decode cX11_goes 44 = .ok (.iadd, 1) := by decide +kernel
theorem dX11_goes_45 : decode cX11_goes 45 = .ok (.istore 5, 2) := by decide +kernel
theorem dX11_goes_47 : decode cX11_goes 47 = .ok (.aload_n 0, 1) := by decide +kernel
theorem dX11_goes_48 : decode cX11_goes 48 = .ok (.iload 4, 2) := by decide +kernel
theorem dX11_goes_50 : decode cX11_goes 50 = .ok (.invokevirtual 336, 3) := by decide +kernel
theorem dX11_goes_53 : decode cX11_goes 53 = .ok (.ifCond .eq 38, 3) := by decide +kernel
theorem dX11_goes_56 : decode cX11_goes 56 = .ok (.aload_n 0, 1) := by decide +kernel
theorem dX11_goes_57 : decode cX11_goes 57 = .ok (.iload 5, 2) := by decide +kernel
theorem dX11_goes_59 : decode cX11_goes 59 = .ok (.invokevirtual 336, 3) := by decide +kernel
theorem dX11_goes_62 : decode cX11_goes 62 = .ok (.ifCond .eq 29, 3) := by decide +kernel
theorem dX11_goes_65 : decode cX11_goes 65 = .ok (.iload 4, 2) := by decide +kernel
theorem dX11_goes_67 : decode cX11_goes 67 = .ok (.aload_n 0, 1) := by decide +kernel
theorem dX11_goes_68 : decode cX11_goes 68 = .ok (.getfield 96, 3) := by decide +kernel
theorem dX11_goes_71 : decode cX11_goes 71 = .ok (.iconst 1, 1) := by decide +kernel
theorem dX11_goes_72 : decode cX11_goes 72 = .ok (.iload_n 1, 1) := by decide +kernel
theorem dX11_goes_73 : decode cX11_goes 73 = .ok (.isub, 1) := by decide +kernel
theorem dX11_goes_74 : decode cX11_goes 74 = .ok (.iaload, 1) := by decide +kernel
theorem dX11_goes_75 : decode cX11_goes 75 = .ok (.if_icmp .ne 18, 3) := by decide +kernel
theorem dX11_goes_78 : decode cX11_goes 78 = .ok (.iload 5, 2) := by decide +kernel
theorem dX11_goes_80 : decode cX11_goes 80 = .ok (.aload_n 0, 1) := by decide +kernel
theorem dX11_goes_81 : decode cX11_goes 81 = .ok (.getfield 99, 3) := by decide +kernel
theorem dX11_goes_84 : decode cX11_goes 84 = .ok (.iconst 1, 1) := by decide +kernel
theorem dX11_goes_85 : decode cX11_goes 85 = .ok (.iload_n 1, 1) := by decide +kernel
theorem dX11_goes_86 : decode cX11_goes 86 = .ok (.isub, 1) := by decide +kernel
theorem dX11_goes_87 : decode cX11_goes 87 = .ok (.iaload, 1) := by decide +kernel
theorem dX11_goes_88 : decode cX11_goes 88 = .ok (.if_icmp .ne 5, 3) := by decide +kernel
theorem dX11_goes_91 : decode cX11_goes 91 = .ok (.iconst 0, 1) := by decide +kernel
theorem dX11_goes_92 : decode cX11_goes 92 = .ok (.ireturn, 1) := by decide +kernel
theorem dX11_goes_93 : decode cX11_goes 93 = .ok (.aload_n 0, 1) := by decide +kernel
theorem dX11_goes_94 : decode cX11_goes 94 = .ok (.getfield 96, 3) := by decide +kernel
theorem dX11_goes_97 : decode cX11_goes 97 = .ok (.iload_n 1, 1) := by decide +kernel
theorem dX11_goes_98 : decode cX11_goes 98 = .ok (.iload 4, 2) := by decide +kernel
theorem dX11_goes_100 : decode cX11_goes 100 = .ok (.iastore, 1) := by decide +kernel
theorem dX11_goes_101 : decode cX11_goes 101 = .ok (.aload_n 0, 1) := by decide +kernel
theorem dX11_goes_102 : decode cX11_goes 102 = .ok (.getfield 99, 3) := by decide +kernel
theorem dX11_goes_105 : decode cX11_goes 105 = .ok (.iload_n 1, 1) := by decide +kernel
theorem dX11_goes_106 : decode cX11_goes 106 = .ok (.iload 5, 2) := by decide +kernel
theorem dX11_goes_108 : decode cX11_goes 108 = .ok (.iastore, 1) := by decide +kernel
theorem dX11_goes_109 : decode cX11_goes 109 = .ok (.iinc 3 1, 3) := by decide +kernel
theorem dX11_goes_112 : decode cX11_goes 112 = .ok (.goto (-110), 3) := by decide +kernel
theorem dX11_goes_115 : decode cX11_goes 115 = .ok (.iconst 1, 1) := by decide +kernel
theorem dX11_goes_116 : decode cX11_goes 116 = .ok (.ireturn, 1) := by decide +kernel
theorem dX11_bow_0 : decode cX11_bow 0 = .ok (.aload_n 0, 1) := by decide +kernel
theorem dX11_bow_1 : decode cX11_bow 1 = .ok (.getfield 96, 3) := by decide +kernel
theorem dX11_bow_4 : decode cX11_bow 4 = .ok (.iconst 0, 1) := by decide +kernel
theorem dX11_bow_5 : decode cX11_bow 5 = .ok (.iaload, 1) := by decide +kernel
theorem dX11_bow_6 : decode cX11_bow 6 = .ok (.istore_n 1, 1) := by decide +kernel
theorem dX11_bow_7 : decode cX11_bow 7 = .ok (.aload_n 0, 1) := by decide +kernel
theorem dX11_bow_8 : decode cX11_bow 8 = .ok (.getfield 99, 3) := by decide +kernel
theorem dX11_bow_11 : decode cX11_bow 11 = .ok (.iconst 0, 1) := by decide +kernel
theorem dX11_bow_12 : decode cX11_bow 12 = .ok (.iaload, 1) := by decide +kernel
theorem dX11_bow_13 : decode cX11_bow 13 = .ok (.istore_n 2, 1) := by decide +kernel
theorem dX11_bow_14 : decode cX11_bow 14 = .ok (.aload_n 0, 1) := by decide +kernel
theorem dX11_bow_15 : decode cX11_bow 15 = .ok (.getfield 96, 3) := by decide +kernel
theorem dX11_bow_18 : decode cX11_bow 18 = .ok (.iconst 0, 1) := by decide +kernel
theorem dX11_bow_19 : decode cX11_bow 19 = .ok (.aload_n 0, 1) := by decide +kernel
theorem dX11_bow_20 : decode cX11_bow 20 = .ok (.getfield 96, 3) := by decide +kernel
theorem dX11_bow_23 : decode cX11_bow 23 = .ok (.iconst 1, 1) := by decide +kernel
theorem dX11_bow_24 : decode cX11_bow 24 = .ok (.iaload, 1) := by decide +kernel
theorem dX11_bow_25 : decode cX11_bow 25 = .ok (.iastore, 1) := by decide +kernel
theorem dX11_bow_26 : decode cX11_bow 26 = .ok (.aload_n 0, 1) := by decide +kernel
theorem dX11_bow_27 : decode cX11_bow 27 = .ok (.getfield 99, 3) := by decide +kernel
theorem dX11_bow_30 : decode cX11_bow 30 = .ok (.iconst 0, 1) := by decide +kernel
theorem dX11_bow_31 : decode cX11_bow 31 = .ok (.aload_n 0, 1) := by decide +kernel
theorem dX11_bow_32 : decode cX11_bow 32 = .ok (.getfield 99, 3) := by decide +kernel
theorem dX11_bow_35 : decode cX11_bow 35 = .ok (.iconst 1, 1) := by decide +kernel
theorem dX11_bow_36 : decode cX11_bow 36 = .ok (.iaload, 1) := by decide +kernel
theorem dX11_bow_37 : decode cX11_bow 37 = .ok (.iastore, 1) := by decide +kernel
theorem dX11_bow_38 : decode cX11_bow 38 = .ok (.aload_n 0, 1) := by decide +kernel
theorem dX11_bow_39 : decode cX11_bow 39 = .ok (.getfield 96, 3) := by decide +kernel
theorem dX11_bow_42 : decode cX11_bow 42 = .ok (.iconst 1, 1) := by decide +kernel
theorem dX11_bow_43 : decode cX11_bow 43 = .ok (.iload_n 1, 1) := by decide +kernel
theorem dX11_bow_44 : decode cX11_bow 44 = .ok (.iastore, 1) := by decide +kernel
theorem dX11_bow_45 : decode cX11_bow 45 = .ok (.aload_n 0, 1) := by decide +kernel
theorem dX11_bow_46 : decode cX11_bow 46 = .ok (.getfield 99, 3) := by decide +kernel
theorem dX11_bow_49 : decode cX11_bow 49 = .ok (.iconst 1, 1) := by decide +kernel
theorem dX11_bow_50 : decode cX11_bow 50 = .ok (.iload_n 2, 1) := by decide +kernel
theorem dX11_bow_51 : decode cX11_bow 51 = .ok (.iastore, 1) := by decide +kernel
theorem dX11_bow_52 : decode cX11_bow 52 = .ok (.return_, 1) := by decide +kernel
theorem dX11_dances_0 : decode cX11_dances 0 = .ok (.bipush 10, 2) := by decide +kernel
theorem dX11_dances_2 : decode cX11_dances 2 = .ok (.iload_n 1, 1) := by decide +kernel
theorem dX11_dances_3 : decode cX11_dances 3 = .ok (.imul, 1) := by decide +kernel
theorem dX11_dances_4 : decode cX11_dances 4 = .ok (.iload_n 2, 1) := by decide +kernel
theorem dX11_dances_5 : decode cX11_dances 5 = .ok (.iadd, 1) := by decide +kernel
theorem dX11_dances_6 : decode cX11_dances 6 = .ok (.istore_n 3, 1) := by decide +kernel
theorem dX11_dances_7 : decode cX11_dances 7 = .ok (.aload_n 0, 1) := by decide +kernel
theorem dX11_dances_8 : decode cX11_dances 8 = .ok (.getfield 96, 3) := by decide +kernel
theorem dX11_dances_11 : decode cX11_dances 11 = .ok (.iconst 0, 1) := by decide +kernel
theorem dX11_dances_12 : decode cX11_dances 12 = .ok (.iaload, 1) := by decide +kernel
theorem dX11_dances_13 : decode cX11_dances 13 = .ok (.istore 4, 2) := by decide +kernel
theorem dX11_dances_15 : decode cX11_dances 15 = .ok (.aload_n 0, 1) := by decide +kernel
theorem dX11_dances_16 : decode cX11_dances 16 = .ok (.getfield 99, 3) := by decide +kernel
theorem dX11_dances_19 : decode cX11_dances 19 = .ok (.iconst 0, 1) := by decide +kernel
theorem dX11_dances_20 : decode cX11_dances 20 = .ok (.iaload, 1) := by decide +kernel
theorem dX11_dances_21 : decode cX11_dances 21 = .ok (.istore 5, 2) := by decide +kernel
theorem dX11_dances_23 : decode cX11_dances 23 = .ok (.aload_n 0, 1) := by decide +kernel
theorem dX11_dances_24 : decode cX11_dances 24 = .ok (.getfield 96, 3) := by decide +kernel
theorem dX11_dances_27 : decode cX11_dances 27 = .ok (.iconst 1, 1) := by decide +kernel
theorem dX11_dances_28 : decode cX11_dances 28 = .ok (.iaload, 1) := by decide +kernel
theorem dX11_dances_29 : decode cX11_dances 29 = .ok (.istore 6, 2) := by decide +kernel
theorem dX11_dances_31 : decode cX11_dances 31 = .ok (.aload_n 0, 1) := by decide +kernel
theorem dX11_dances_32 : decode cX11_dances 32 = .ok (.getfield 99, 3) := by decide +kernel
theorem dX11_dances_35 : decode cX11_dances 35 = .ok (.iconst 1, 1) := by decide +kernel
theorem dX11_dances_36 : decode cX11_dances 36 = .ok (.iaload, 1) := by decide +kernel
theorem dX11_dances_37 : decode cX11_dances 37 = .ok (.istore 7, 2) := by decide +kernel
theorem dX11_dances_39 : decode cX11_dances 39 = .ok (.iconst 1, 1) := by decide +kernel
theorem dX11_dances_40 : decode cX11_dances 40 = .ok (.istore 8, 2) := by decide +kernel
theorem dX11_dances_42 : decode cX11_dances 42 = .ok (.iconst 0, 1) := by decide +kernel
theorem dX11_dances_43 : decode cX11_dances 43 = .ok (.istore 9, 2) := by decide +kernel
theorem dX11_dances_45 : decode cX11_dances 45 = .ok (.iload 9, 2) := by decide +kernel
theorem dX11_dances_47 : decode cX11_dances 47 = .ok (.iconst 2, 1) := by decide +kernel
theorem dX11_dances_48 : decode cX11_dances 48 = .ok (.if_icmp .ge 112, 3) := by decide +kernel
theorem dX11_dances_51 : decode cX11_dances 51 = .ok (.iload 8, 2) := by decide +kernel
theorem dX11_dances_53 : decode cX11_dances 53 = .ok (.ifCond .eq 107, 3) := by decide +kernel
theorem dX11_dances_56 : decode cX11_dances 56 = .ok (.aload_n 0, 1) := by decide +kernel
theorem dX11_dances_57 : decode cX11_dances 57 = .ok (.getfield 65, 3) := by decide +kernel
theorem dX11_dances_60 : decode cX11_dances 60 = .ok (.iload_n 3, 1) := by decide +kernel
theorem dX11_dances_61 : decode cX11_dances 61 = .ok (.iaload, 1) := by decide +kernel
theorem dX11_dances_62 : decode cX11_dances 62 = .ok (.iconst 2, 1) := by decide +kernel
theorem dX11_dances_63 : decode cX11_dances 63 = .ok (.if_icmp .eq 17, 3) := by decide +kernel
theorem dX11_dances_66 : decode cX11_dances 66 = .ok (.aload_n 0, 1) := by decide +kernel
theorem dX11_dances_67 : decode cX11_dances 67 = .ok (.getfield 65, 3) := by decide +kernel
theorem dX11_dances_70 : decode cX11_dances 70 = .ok (.iload_n 3, 1) := by decide +kernel
theorem dX11_dances_71 : decode cX11_dances 71 = .ok (.iaload, 1) := by decide +kernel
theorem dX11_dances_72 : decode cX11_dances 72 = .ok (.iload 9, 2) := by decide +kernel
theorem dX11_dances_74 : decode cX11_dances 74 = .ok (.if_icmp .eq 6, 3) := by decide +kernel
theorem dX11_dances_77 : decode cX11_dances 77 = .ok (.goto 77, 3) := by decide +kernel
theorem dX11_dances_80 : decode cX11_dances 80 = .ok (.aload_n 0, 1) := by decide +kernel
theorem dX11_dances_81 : decode cX11_dances 81 = .ok (.getfield 62, 3) := by decide +kernel
theorem dX11_dances_84 : decode cX11_dances 84 = .ok (.iload_n 3, 1) := by decide +kernel
theorem dX11_dances_85 : decode cX11_dances 85 = .ok (.iaload, 1) := by decide +kernel
theorem dX11_dances_86 : decode cX11_dances 86 = .ok (.iconst 1, 1) := by decide +kernel
theorem dX11_dances_87 : decode cX11_dances 87 = .ok (.if_icmp .ne 26, 3) := by decide +kernel
theorem dX11_dances_90 : decode cX11_dances 90 = .ok (.aload_n 0, 1) := by decide +kernel
theorem dX11_dances_91 : decode cX11_dances 91 = .ok (.getfield 102, 3) := by decide +kernel
theorem dX11_dances_94 : decode cX11_dances 94 = .ok (.iload 9, 2) := by decide +kernel
theorem dX11_dances_96 : decode cX11_dances 96 = .ok (.aload_n 0, 1) := by decide +kernel
theorem dX11_dances_97 : decode cX11_dances 97 = .ok (.getfield 102, 3) := by decide +kernel
theorem dX11_dances_100 : decode cX11_dances 100 = .ok (.iload 9, 2) := by decide +kernel
theorem dX11_dances_102 : decode cX11_dances 102 = .ok (.iaload, 1) := by decide +kernel
theorem dX11_dances_103 : decode cX11_dances 103 = .ok (.aload_n 0, 1) := by decide +kernel
theorem dX11_dances_104 : decode cX11_dances 104 = .ok (.getfield 68, 3) := by decide +kernel
theorem dX11_dances_107 : decode cX11_dances 107 = .ok (.iload_n 3, 1) := by decide +kernel
theorem dX11_dances_108 : decode cX11_dances 108 = .ok (.iaload, 1) := by decide +kernel
theorem dX11_dances_109 : decode cX11_dances 109 = .ok (.iadd, 1) := by decide +kernel
theorem dX11_dances_110 : decode cX11_dances 110 = .ok (.iconst 4, 1) := by decide +kernel
theorem dX11_dances_111 : decode cX11_dances 111 = .ok (.irem, 1) := by decide +kernel
theorem dX11_dances_112 : decode cX11_dances 112 = .ok (.iastore, 1) := by decide +kernel
theorem dX11_dances_113 : decode cX11_dances 113 = .ok (.aload_n 0, 1) := by decide +kernel
theorem dX11_dances_114 : decode cX11_dances 114 = .ok (.getfield 62, 3) := by decide +kernel
theorem dX11_dances_117 : decode cX11_dances 117 = .ok (.iload_n 3, 1) := by decide +kernel
theorem dX11_dances_118 : decode cX11_dances 118 = .ok (.iaload, 1) := by decide +kernel
theorem dX11_dances_119 : decode cX11_dances 119 = .ok (.ifCond .eq 13, 3) := by decide +kernel
theorem dX11_dances_122 : decode cX11_dances 122 = .ok (.aload_n 0, 1) := by decide +kernel
theorem dX11_dances_123 : decode cX11_dances 123 = .ok (.getfield 62, 3) := by decide +kernel
theorem dX11_dances_126 : decode cX11_dances 126 = .ok (.iload_n 3, 1) := by decide +kernel
theorem dX11_dances_127 : decode cX11_dances 127 = .ok (.iaload, 1) := by decide +kernel
theorem dX11_dances_128 : decode cX11_dances 128 = .ok (.iconst 2, 1) := by decide +kernel
theorem dX11_dances_129 : decode cX11_dances 129 = .ok (.if_icmp .ne 25, 3) := by decide +kernel
theorem dX11_dances_132 : decode cX11_dances 132 = .ok (.aload_n 0, 1) := by decide +kernel
theorem dX11_dances_133 : decode cX11_dances 133 = .ok (.iload 9, 2) := by decide +kernel
theorem dX11_dances_135 : decode cX11_dances 135 = .ok (.aload_n 0, 1) := by decide +kernel
theorem dX11_dances_136 : decode cX11_dances 136 = .ok (.getfield 68, 3) := by decide +kernel
theorem dX11_dances_139 : decode cX11_dances 139 = .ok (.iload_n 3, 1) := by decide +kernel
theorem dX11_dances_140 : decode cX11_dances 140 = .ok (.iaload, 1) := by decide +kernel
theorem dX11_dances_141 : decode cX11_dances 141 = .ok (.aload_n 0, 1) := by decide +kernel
theorem dX11_dances_142 : decode cX11_dances 142 = .ok (.iload_n 1, 1) := by decide +kernel
theorem dX11_dances_143 : decode cX11_dances 143 = .ok (.iload 9, 2) := by decide +kernel
theorem dX11_dances_145 : decode cX11_dances 145 = .ok (.invokevirtual 339, 3) := by decide +kernel
theorem dX11_dances_148 : decode cX11_dances 148 = .ok (.isub, 1) := by decide +kernel
theorem dX11_dances_149 : decode cX11_dances 149 = .ok (.invokevirtual 342, 3) := by decide +kernel
theorem dX11_dances_152 : decode cX11_dances 152 = .ok (.istore 8, 2) := by decide +kernel
theorem dX11_dances_154 : decode cX11_dances 154 = .ok (.iinc 9 1, 3) := by decide +kernel
theorem dX11_dances_157 : decode cX11_dances 157 = .ok (.goto (-112), 3) := by decide +kernel
theorem dX11_dances_160 : decode cX11_dances 160 = .ok (.aload_n 0, 1) := by decide +kernel
theorem dX11_dances_161 : decode cX11_dances 161 = .ok (.getfield 62, 3) := by decide +kernel
theorem dX11_dances_164 : decode cX11_dances 164 = .ok (.iload_n 3, 1) := by decide +kernel
theorem dX11_dances_165 : decode cX11_dances 165 = .ok (.iaload, 1) := by decide +kernel
theorem dX11_dances_166 : decode cX11_dances 166 = .ok (.iconst 4, 1) := by decide +kernel
theorem dX11_dances_167 : decode cX11_dances 167 = .ok (.if_icmp .ne 7, 3) := by decide +kernel
theorem dX11_dances_170 : decode cX11_dances 170 = .ok (.aload_n 0, 1) := by decide +kernel
theorem dX11_dances_171 : decode cX11_dances 171 = .ok (.invokevirtual 346, 3) := by decide +kernel
theorem dX11_dances_174 : decode cX11_dances 174 = .ok (.iload 8, 2) := by decide +kernel
theorem dX11_dances_176 : decode cX11_dances 176 = .ok (.ifCond .eq 5, 3) := by decide +kernel
theorem dX11_dances_179 : decode cX11_dances 179 = .ok (.iconst 1, 1) := by decide +kernel
theorem dX11_dances_180 : decode cX11_dances 180 = .ok (.ireturn, 1) := by decide +kernel
theorem dX11_dances_181 : decode cX11_dances 181 = .ok (.aload_n 0, 1) := by decide +kernel
theorem dX11_dances_182 : decode cX11_dances 182 = .ok (.getfield 96, 3) := by decide +kernel
theorem dX11_dances_185 : decode cX11_dances 185 = .ok (.iconst 0, 1) := by decide +kernel
theorem dX11_dances_186 : decode cX11_dances 186 = .ok (.iload 4, 2) := by decide +kernel
theorem dX11_dances_188 : decode cX11_dances 188 = .ok (.iastore, 1) := by decide +kernel
theorem dX11_dances_189 : decode cX11_dances 189 = .ok (.aload_n 0, 1) := by decide +kernel
theorem dX11_dances_190 : decode cX11_dances 190 = .ok (.getfield 99, 3) := by decide +kernel
theorem dX11_dances_193 : decode cX11_dances 193 = .ok (.iconst 0, 1) := by decide +kernel
theorem dX11_dances_194 : decode cX11_dances 194 = .ok (.iload 5, 2) := by decide +kernel
theorem dX11_dances_196 : decode cX11_dances 196 = .ok (.iastore, 1) := by decide +kernel
theorem dX11_dances_197 : decode cX11_dances 197 = .ok (.aload_n 0, 1) := by decide +kernel
theorem dX11_dances_198 : decode cX11_dances 198 = .ok (.getfield 96, 3) := by decide +kernel
theorem dX11_dances_201 : decode cX11_dances 201 = .ok (.iconst 1, 1) := by decide +kernel
theorem dX11_dances_202 : decode cX11_dances 202 = .ok (.iload 6, 2) := by decide +kernel
theorem dX11_dances_204 : decode cX11_dances 204 = .ok (.iastore, 1) := by decide +kernel
theorem dX11_dances_205 : decode cX11_dances 205 = .ok (.aload_n 0, 1) := by decide +kernel
theorem dX11_dances_206 : decode cX11_dances 206 = .ok (.getfield 99, 3) := by decide +kernel
theorem dX11_dances_209 : decode cX11_dances 209 = .ok (.iconst 1, 1) := by decide +kernel
theorem dX11_dances_210 : decode cX11_dances 210 = .ok (.iload 7, 2) := by decide +kernel
theorem dX11_dances_212 : decode cX11_dances 212 = .ok (.iastore, 1) := by decide +kernel
theorem dX11_dances_213 : decode cX11_dances 213 = .ok (.iconst 0, 1) := by decide +kernel
theorem dX11_dances_214 : decode cX11_dances 214 = .ok (.ireturn, 1) := by decide +kernel
theorem dX11_danceTo_0 : decode cX11_danceTo 0 = .ok (.aload_n 0, 1) := by decide +kernel
theorem dX11_danceTo_1 : decode cX11_danceTo 1 = .ok (.getfield 96, 3) := by decide +kernel
theorem dX11_danceTo_4 : decode cX11_danceTo 4 = .ok (.iconst 0, 1) := by decide +kernel
theorem dX11_danceTo_5 : decode cX11_danceTo 5 = .ok (.iconst 0, 1) := by decide +kernel
theorem dX11_danceTo_6 : decode cX11_danceTo 6 = .ok (.iastore, 1) := by decide +kernel
theorem dX11_danceTo_7 : decode cX11_danceTo 7 = .ok (.aload_n 0, 1) := by decide +kernel
theorem dX11_danceTo_8 : decode cX11_danceTo 8 = .ok (.getfield 96, 3) := by decide +kernel
theorem dX11_danceTo_11 : decode cX11_danceTo 11 = .ok (.iconst 1, 1) := by decide +kernel
theorem dX11_danceTo_12 : decode cX11_danceTo 12 = .ok (.aload_n 0, 1) := by decide +kernel
theorem dX11_danceTo_13 : decode cX11_danceTo 13 = .ok (.getfield 45, 3) := by decide +kernel
theorem dX11_danceTo_16 : decode cX11_danceTo 16 = .ok (.iconst 2, 1) := by decide +kernel
theorem dX11_danceTo_17 : decode cX11_danceTo 17 = .ok (.iaload, 1) := by decide +kernel
theorem dX11_danceTo_18 : decode cX11_danceTo 18 = .ok (.iconst 1, 1) := by decide +kernel
theorem dX11_danceTo_19 : decode cX11_danceTo 19 = .ok (.isub, 1) := by decide +kernel
theorem dX11_danceTo_20 : decode cX11_danceTo 20 = .ok (.iastore, 1) := by decide +kernel
theorem dX11_danceTo_21 : decode cX11_danceTo 21 = .ok (.aload_n 0, 1) := by decide +kernel
theorem dX11_danceTo_22 : decode cX11_danceTo 22 = .ok (.getfield 99, 3) := by decide +kernel
theorem dX11_danceTo_25 : decode cX11_danceTo 25 = .ok (.iconst 0, 1) := by decide +kernel
theorem dX11_danceTo_26 : decode cX11_danceTo 26 = .ok (.aload_n 0, 1) := by decide +kernel
theorem dX11_danceTo_27 : decode cX11_danceTo 27 = .ok (.getfield 45, 3) := by decide +kernel
theorem dX11_danceTo_30 : decode cX11_danceTo 30 = .ok (.iconst 2, 1) := by decide +kernel
theorem dX11_danceTo_31 : decode cX11_danceTo 31 = .ok (.iaload, 1) := by decide +kernel
theorem dX11_danceTo_32 : decode cX11_danceTo 32 = .ok (.iconst 2, 1) := by decide +kernel
theorem dX11_danceTo_33 : decode cX11_danceTo 33 = .ok (.idiv, 1) := by decide +kernel
theorem dX11_danceTo_34 : decode cX11_danceTo 34 = .ok (.iastore, 1) := by decide +kernel
theorem dX11_danceTo_35 : decode cX11_danceTo 35 = .ok (.aload_n 0, 1) := by decide +kernel
theorem dX11_danceTo_36 : decode cX11_danceTo 36 = .ok (.getfield 99, 3) := by decide +kernel
theorem dX11_danceTo_39 : decode cX11_danceTo 39 = .ok (.iconst 1, 1) := by decide +kernel
theorem dX11_danceTo_40 : decode cX11_danceTo 40 = .ok (.aload_n 0, 1) := by decide +kernel
theorem dX11_danceTo_41 : decode cX11_danceTo 41 = .ok (.getfield 99, 3) := by decide +kernel
theorem dX11_danceTo_44 : decode cX11_danceTo 44 = .ok (.iconst 0, 1) := by decide +kernel
theorem dX11_danceTo_45 : decode cX11_danceTo 45 = .ok (.iaload, 1) := by decide +kernel
theorem dX11_danceTo_46 : decode cX11_danceTo 46 = .ok (.iastore, 1) := by decide +kernel
theorem dX11_danceTo_47 : decode cX11_danceTo 47 = .ok (.aload_n 0, 1) := by decide +kernel
theorem dX11_danceTo_48 : decode cX11_danceTo 48 = .ok (.getfield 102, 3) := by decide +kernel
theorem dX11_danceTo_51 : decode cX11_danceTo 51 = .ok (.iconst 0, 1) := by decide +kernel
theorem dX11_danceTo_52 : decode cX11_danceTo 52 = .ok (.iconst 0, 1) := by decide +kernel
theorem dX11_danceTo_53 : decode cX11_danceTo 53 = .ok (.iastore, 1) := by decide +kernel
theorem dX11_danceTo_54 : decode cX11_danceTo 54 = .ok (.aload_n 0, 1) := by decide +kernel
theorem dX11_danceTo_55 : decode cX11_danceTo 55 = .ok (.getfield 102, 3) := by decide +kernel
theorem dX11_danceTo_58 : decode cX11_danceTo 58 = .ok (.iconst 1, 1) := by decide +kernel
theorem dX11_danceTo_59 : decode cX11_danceTo 59 = .ok (.iconst 2, 1) := by decide +kernel
theorem dX11_danceTo_60 : decode cX11_danceTo 60 = .ok (.iastore, 1) := by decide +kernel
theorem dX11_danceTo_61 : decode cX11_danceTo 61 = .ok (.iconst 0, 1) := by decide +kernel
theorem dX11_danceTo_62 : decode cX11_danceTo 62 = .ok (.istore_n 3, 1) := by decide +kernel
theorem dX11_danceTo_63 : decode cX11_danceTo 63 = .ok (.iload_n 3, 1) := by decide +kernel
theorem dX11_danceTo_64 : decode cX11_danceTo 64 = .ok (.iload_n 2, 1) := by decide +kernel
theorem dX11_danceTo_65 : decode cX11_danceTo 65 = .ok (.if_icmp .ge 20, 3) := by decide +kernel
theorem dX11_danceTo_68 : decode cX11_danceTo 68 = .ok (.aload_n 0, 1) := by decide +kernel
theorem dX11_danceTo_69 : decode cX11_danceTo 69 = .ok (.iload_n 1, 1) := by decide +kernel
theorem dX11_danceTo_70 : decode cX11_danceTo 70 = .ok (.iload_n 3, 1) := by decide +kernel
theorem dX11_danceTo_71 : decode cX11_danceTo 71 = .ok (.invokevirtual 348, 3) := by decide +kernel
theorem dX11_danceTo_74 : decode cX11_danceTo 74 = .ok (.ifCond .ne 5, 3) := by decide +kernel
theorem dX11_danceTo_77 : decode cX11_danceTo 77 = .ok (.iload_n 3, 1) := by decide +kernel
theorem dX11_danceTo_78 : decode cX11_danceTo 78 = .ok (.ireturn, 1) := by decide +kernel
theorem dX11_danceTo_79 : decode cX11_danceTo 79 = .ok (.iinc 3 1, 3) := by decide +kernel
theorem dX11_danceTo_82 : decode cX11_danceTo 82 = .ok (.goto (-19), 3) := by decide +kernel
theorem dX11_danceTo_85 : decode cX11_danceTo 85 = .ok (.iload_n 2, 1) := by decide +kernel
theorem dX11_danceTo_86 : decode cX11_danceTo 86 = .ok (.ireturn, 1) := by decide +kernel
theorem dX11_looks_0 : decode cX11_looks 0 = .ok (.aload_n 0, 1) := by decide +kernel
theorem dX11_looks_1 : decode cX11_looks 1 = .ok (.getfield 96, 3) := by decide +kernel
theorem dX11_looks_4 : decode cX11_looks 4 = .ok (.iconst 1, 1) := by decide +kernel
theorem dX11_looks_5 : decode cX11_looks 5 = .ok (.iload_n 1, 1) := by decide +kernel
theorem dX11_looks_6 : decode cX11_looks 6 = .ok (.isub, 1) := by decide +kernel
theorem dX11_looks_7 : decode cX11_looks 7 = .ok (.iaload, 1) := by decide +kernel
theorem dX11_looks_8 : decode cX11_looks 8 = .ok (.aload_n 0, 1) := by decide +kernel
theorem dX11_looks_9 : decode cX11_looks 9 = .ok (.getfield 96, 3) := by decide +kernel
theorem dX11_looks_12 : decode cX11_looks 12 = .ok (.iload_n 1, 1) := by decide +kernel
theorem dX11_looks_13 : decode cX11_looks 13 = .ok (.iaload, 1) := by decide +kernel
theorem dX11_looks_14 : decode cX11_looks 14 = .ok (.isub, 1) := by decide +kernel
theorem dX11_looks_15 : decode cX11_looks 15 = .ok (.istore_n 2, 1) := by decide +kernel
theorem dX11_looks_16 : decode cX11_looks 16 = .ok (.aload_n 0, 1) := by decide +kernel
theorem dX11_looks_17 : decode cX11_looks 17 = .ok (.getfield 99, 3) := by decide +kernel
theorem dX11_looks_20 : decode cX11_looks 20 = .ok (.iconst 1, 1) := by decide +kernel
theorem dX11_looks_21 : decode cX11_looks 21 = .ok (.iload_n 1, 1) := by decide +kernel
theorem dX11_looks_22 : decode cX11_looks 22 = .ok (.isub, 1) := by decide +kernel
theorem dX11_looks_23 : decode cX11_looks 23 = .ok (.iaload, 1) := by decide +kernel
theorem dX11_looks_24 : decode cX11_looks 24 = .ok (.aload_n 0, 1) := by decide +kernel
theorem dX11_looks_25 : decode cX11_looks 25 = .ok (.getfield 99, 3) := by decide +kernel
theorem dX11_looks_28 : decode cX11_looks 28 = .ok (.iload_n 1, 1) := by decide +kernel
theorem dX11_looks_29 : decode cX11_looks 29 = .ok (.iaload, 1) := by decide +kernel
theorem dX11_looks_30 : decode cX11_looks 30 = .ok (.isub, 1) := by decide +kernel
theorem dX11_looks_31 : decode cX11_looks 31 = .ok (.istore_n 3, 1) := by decide +kernel
theorem dX11_looks_32 : decode cX11_looks 32 = .ok (.aload_n 0, 1) := by decide +kernel
theorem dX11_looks_33 : decode cX11_looks 33 = .ok (.getfield 102, 3) := by decide +kernel
theorem dX11_looks_36 : decode cX11_looks 36 = .ok (.iload_n 1, 1) := by decide +kernel
theorem dX11_looks_37 : decode cX11_looks 37 = .ok (.iaload, 1) := by decide +kernel
theorem dX11_looks_38 : decode cX11_looks 38 = .ok (.istore 4, 2) := by decide +kernel
theorem dX11_looks_40 : decode cX11_looks 40 = .ok (.aload_n 0, 1) := by decide +kernel
theorem dX11_looks_41 : decode cX11_looks 41 = .ok (.getfield 38, 3) := by decide +kernel
theorem dX11_looks_44 : decode cX11_looks 44 = .ok (.iload 4, 2) := by decide +kernel
theorem dX11_looks_46 : decode cX11_looks 46 = .ok (.iaload, 1) := by decide +kernel
theorem dX11_looks_47 : decode cX11_looks 47 = .ok (.ifCond .eq 27, 3) := by decide +kernel
theorem dX11_looks_50 : decode cX11_looks 50 = .ok (.iload_n 3, 1) := by decide +kernel
theorem dX11_looks_51 : decode cX11_looks 51 = .ok (.ifCond .ne 19, 3) := by decide +kernel
theorem dX11_looks_54 : decode cX11_looks 54 = .ok (.iload_n 2, 1) := by decide +kernel
theorem dX11_looks_55 : decode cX11_looks 55 = .ok (.aload_n 0, 1) := by decide +kernel
theorem dX11_looks_56 : decode cX11_looks 56 = .ok (.getfield 38, 3) := by decide +kernel
theorem dX11_looks_59 : decode cX11_looks 59 = .ok (.iload 4, 2) := by decide +kernel
theorem dX11_looks_61 : decode cX11_looks 61 = .ok (.iaload, 1) := by decide +kernel
theorem dX11_looks_62 : decode cX11_looks 62 = .ok (.imul, 1) := by decide +kernel
theorem dX11_looks_63 : decode cX11_looks 63 = .ok (.ifCond .le 7, 3) := by decide +kernel
theorem dX11_looks_66 : decode cX11_looks 66 = .ok (.iconst 1, 1) := by decide +kernel
theorem dX11_looks_67 : decode cX11_looks 67 = .ok (.goto 28, 3) := by decide +kernel
theorem dX11_looks_70 : decode cX11_looks 70 = .ok (.iconst 0, 1) := by decide +kernel
theorem dX11_looks_71 : decode cX11_looks 71 = .ok (.goto 24, 3) := by decide +kernel
theorem dX11_looks_74 : decode cX11_looks 74 = .ok (.iload_n 2, 1) := by decide +kernel
theorem dX11_looks_75 : decode cX11_looks 75 = .ok (.ifCond .ne 19, 3) := by decide +kernel
theorem dX11_looks_78 : decode cX11_looks 78 = .ok (.iload_n 3, 1) := by decide +kernel
theorem dX11_looks_79 : decode cX11_looks 79 = .ok (.aload_n 0, 1) := by decide +kernel
theorem dX11_looks_80 : decode cX11_looks 80 = .ok (.getfield 42, 3) := by decide +kernel
theorem dX11_looks_83 : decode cX11_looks 83 = .ok (.iload 4, 2) := by decide +kernel
theorem dX11_looks_85 : decode cX11_looks 85 = .ok (.iaload, 1) := by decide +kernel
theorem dX11_looks_86 : decode cX11_looks 86 = .ok (.imul, 1) := by decide +kernel
theorem dX11_looks_87 : decode cX11_looks 87 = .ok (.ifCond .le 7, 3) := by decide +kernel
theorem dX11_looks_90 : decode cX11_looks 90 = .ok (.iconst 1, 1) := by decide +kernel
theorem dX11_looks_91 : decode cX11_looks 91 = .ok (.goto 4, 3) := by decide +kernel
theorem dX11_looks_94 : decode cX11_looks 94 = .ok (.iconst 0, 1) := by decide +kernel
theorem dX11_looks_95 : decode cX11_looks 95 = .ok (.ireturn, 1) := by decide +kernel
theorem dX11_endsWell_0 : decode cX11_endsWell 0 = .ok (.aload_n 0, 1) := by decide +kernel
theorem dX11_endsWell_1 : decode cX11_endsWell 1 = .ok (.iload_n 1, 1) := by decide +kernel
theorem dX11_endsWell_2 : decode cX11_endsWell 2 = .ok (.aload_n 0, 1) := by decide +kernel
theorem dX11_endsWell_3 : decode cX11_endsWell 3 = .ok (.getfield 59, 3) := by decide +kernel
theorem dX11_endsWell_6 : decode cX11_endsWell 6 = .ok (.iload_n 1, 1) := by decide +kernel
theorem dX11_endsWell_7 : decode cX11_endsWell 7 = .ok (.iaload, 1) := by decide +kernel
theorem dX11_endsWell_8 : decode cX11_endsWell 8 = .ok (.invokevirtual 351, 3) := by decide +kernel
theorem dX11_endsWell_11 : decode cX11_endsWell 11 = .ok (.aload_n 0, 1) := by decide +kernel
theorem dX11_endsWell_12 : decode cX11_endsWell 12 = .ok (.getfield 59, 3) := by decide +kernel
theorem dX11_endsWell_15 : decode cX11_endsWell 15 = .ok (.iload_n 1, 1) := by decide +kernel
theorem dX11_endsWell_16 : decode cX11_endsWell 16 = .ok (.iaload, 1) := by decide +kernel
theorem dX11_endsWell_17 : decode cX11_endsWell 17 = .ok (.if_icmp .ne 23, 3) := by decide +kernel
theorem dX11_endsWell_20 : decode cX11_endsWell 20 = .ok (.aload_n 0, 1) := by decide +kernel
theorem dX11_endsWell_21 : decode cX11_endsWell 21 = .ok (.iconst 0, 1) := by decide +kernel
theorem dX11_endsWell_22 : decode cX11_endsWell 22 = .ok (.invokevirtual 354, 3) := by decide +kernel
theorem dX11_endsWell_25 : decode cX11_endsWell 25 = .ok (.ifCond .eq 15, 3) := by decide +kernel
theorem dX11_endsWell_28 : decode cX11_endsWell 28 = .ok (.aload_n 0, 1) := by decide +kernel
theorem dX11_endsWell_29 : decode cX11_endsWell 29 = .ok (.iconst 1, 1) := by decide +kernel
theorem dX11_endsWell_30 : decode cX11_endsWell 30 = .ok (.invokevirtual 354, 3) := by decide +kernel
theorem dX11_endsWell_33 : decode cX11_endsWell 33 = .ok (.ifCond .eq 7, 3) := by decide +kernel
theorem dX11_endsWell_36 : decode cX11_endsWell 36 = .ok (.iconst 1, 1) := by decide +kernel
theorem dX11_endsWell_37 : decode cX11_endsWell 37 = .ok (.goto 4, 3) := by decide +kernel
theorem dX11_endsWell_40 : decode cX11_endsWell 40 = .ok (.iconst 0, 1) := by decide +kernel
theorem dX11_endsWell_41 : decode cX11_endsWell 41 = .ok (.ireturn, 1) := by decide +kernel
theorem dX11_isBinding_0 : decode cX11_isBinding 0 = .ok (.aload_n 0, 1) := by decide +kernel
theorem dX11_isBinding_1 : decode cX11_isBinding 1 = .ok (.getfield 320, 3) := by decide +kernel
theorem dX11_isBinding_4 : decode cX11_isBinding 4 = .ok (.iload_n 1, 1) := by decide +kernel
theorem dX11_isBinding_5 : decode cX11_isBinding 5 = .ok (.invokestatic 357, 3) := by decide +kernel
theorem dX11_isBinding_8 : decode cX11_isBinding 8 = .ok (.ifCond .ne 15, 3) := by decide +kernel
theorem dX11_isBinding_11 : decode cX11_isBinding 11 = .ok (.aload_n 0, 1) := by decide +kernel
theorem dX11_isBinding_12 : decode cX11_isBinding 12 = .ok (.iload_n 1, 1) := by decide +kernel
theorem dX11_isBinding_13 : decode cX11_isBinding 13 = .ok (.invokevirtual 360, 3) := by decide +kernel
theorem dX11_isBinding_16 : decode cX11_isBinding 16 = .ok (.ifCond .eq 7, 3) := by decide +kernel
theorem dX11_isBinding_19 : decode cX11_isBinding 19 = .ok (.iconst 1, 1) := by decide +kernel
theorem dX11_isBinding_20 : decode cX11_isBinding 20 = .ok (.goto 4, 3) := by decide +kernel
theorem dX11_isBinding_23 : decode cX11_isBinding 23 = .ok (.iconst 0, 1) := by decide +kernel
theorem dX11_isBinding_24 : decode cX11_isBinding 24 = .ok (.ireturn, 1) := by decide +kernel
theorem dX11_binding_0 : decode cX11_binding 0 = .ok (.iconst 0, 1) := by decide +kernel
theorem dX11_binding_1 : decode cX11_binding 1 = .ok (.istore_n 1, 1) := by decide +kernel
theorem dX11_binding_2 : decode cX11_binding 2 = .ok (.iconst 0, 1) := by decide +kernel
theorem dX11_binding_3 : decode cX11_binding 3 = .ok (.istore_n 2, 1) := by decide +kernel
theorem dX11_binding_4 : decode cX11_binding 4 = .ok (.iload_n 2, 1) := by decide +kernel
theorem dX11_binding_5 : decode cX11_binding 5 = .ok (.aload_n 0, 1) := by decide +kernel
theorem dX11_binding_6 : decode cX11_binding 6 = .ok (.getfield 45, 3) := by decide +kernel
theorem dX11_binding_9 : decode cX11_binding 9 = .ok (.iconst 1, 1) := by decide +kernel
theorem dX11_binding_10 : decode cX11_binding 10 = .ok (.iaload, 1) := by decide +kernel
theorem dX11_binding_11 : decode cX11_binding 11 = .ok (.if_icmp .ge 27, 3) := by decide +kernel
theorem dX11_binding_14 : decode cX11_binding 14 = .ok (.iload_n 1, 1) := by decide +kernel
theorem dX11_binding_15 : decode cX11_binding 15 = .ok (.aload_n 0, 1) := by decide +kernel
theorem dX11_binding_16 : decode cX11_binding 16 = .ok (.iload_n 2, 1) := by decide +kernel
theorem dX11_binding_17 : decode cX11_binding 17 = .ok (.invokevirtual 363, 3) := by decide +kernel
theorem dX11_binding_20 : decode cX11_binding 20 = .ok (.ifCond .eq 9, 3) := by decide +kernel
theorem dX11_binding_23 : decode cX11_binding 23 = .ok (.iconst 1, 1) := by decide +kernel
theorem dX11_binding_24 : decode cX11_binding 24 = .ok (.iload_n 2, 1) := by decide +kernel
theorem dX11_binding_25 : decode cX11_binding 25 = .ok (.ishl, 1) := by decide +kernel
theorem dX11_binding_26 : decode cX11_binding 26 = .ok (.goto 4, 3) := by decide +kernel
theorem dX11_binding_29 : decode cX11_binding 29 = .ok (.iconst 0, 1) := by decide +kernel
theorem dX11_binding_30 : decode cX11_binding 30 = .ok (.ior, 1) := by decide +kernel
theorem dX11_binding_31 : decode cX11_binding 31 = .ok (.istore_n 1, 1) := by decide +kernel
theorem dX11_binding_32 : decode cX11_binding 32 = .ok (.iinc 2 1, 3) := by decide +kernel
theorem dX11_binding_35 : decode cX11_binding 35 = .ok (.goto (-31), 3) := by decide +kernel
theorem dX11_binding_38 : decode cX11_binding 38 = .ok (.iload_n 1, 1) := by decide +kernel
theorem dX11_binding_39 : decode cX11_binding 39 = .ok (.ireturn, 1) := by decide +kernel
theorem dX11_reckon_0 : decode cX11_reckon 0 = .ok (.iload_n 0, 1) := by decide +kernel
theorem dX11_reckon_1 : decode cX11_reckon 1 = .ok (.tableswitch 103 (-26) (-20) #[89, 78, 67, 55, 51, 47, 43], 43) := by decide +kernel
theorem dX11_reckon_44 : decode cX11_reckon 44 = .ok (.iload_n 1, 1) := by decide +kernel
theorem dX11_reckon_45 : decode cX11_reckon 45 = .ok (.iload_n 2, 1) := by decide +kernel
theorem dX11_reckon_46 : decode cX11_reckon 46 = .ok (.iadd, 1) := by decide +kernel
theorem dX11_reckon_47 : decode cX11_reckon 47 = .ok (.ireturn, 1) := by decide +kernel
theorem dX11_reckon_48 : decode cX11_reckon 48 = .ok (.iload_n 1, 1) := by decide +kernel
theorem dX11_reckon_49 : decode cX11_reckon 49 = .ok (.iload_n 2, 1) := by decide +kernel
theorem dX11_reckon_50 : decode cX11_reckon 50 = .ok (.isub, 1) := by decide +kernel
theorem dX11_reckon_51 : decode cX11_reckon 51 = .ok (.ireturn, 1) := by decide +kernel
theorem dX11_reckon_52 : decode cX11_reckon 52 = .ok (.iload_n 1, 1) := by decide +kernel
theorem dX11_reckon_53 : decode cX11_reckon 53 = .ok (.iload_n 2, 1) := by decide +kernel
theorem dX11_reckon_54 : decode cX11_reckon 54 = .ok (.imul, 1) := by decide +kernel
theorem dX11_reckon_55 : decode cX11_reckon 55 = .ok (.ireturn, 1) := by decide +kernel
theorem dX11_reckon_56 : decode cX11_reckon 56 = .ok (.iload_n 2, 1) := by decide +kernel
theorem dX11_reckon_57 : decode cX11_reckon 57 = .ok (.ifCond .ne 7, 3) := by decide +kernel
theorem dX11_reckon_60 : decode cX11_reckon 60 = .ok (.iconst 0, 1) := by decide +kernel
theorem dX11_reckon_61 : decode cX11_reckon 61 = .ok (.goto 6, 3) := by decide +kernel
theorem dX11_reckon_64 : decode cX11_reckon 64 = .ok (.iload_n 1, 1) := by decide +kernel
theorem dX11_reckon_65 : decode cX11_reckon 65 = .ok (.iload_n 2, 1) := by decide +kernel
theorem dX11_reckon_66 : decode cX11_reckon 66 = .ok (.idiv, 1) := by decide +kernel
theorem dX11_reckon_67 : decode cX11_reckon 67 = .ok (.ireturn, 1) := by decide +kernel
theorem dX11_reckon_68 : decode cX11_reckon 68 = .ok (.iload_n 1, 1) := by decide +kernel
theorem dX11_reckon_69 : decode cX11_reckon 69 = .ok (.iload_n 2, 1) := by decide +kernel
theorem dX11_reckon_70 : decode cX11_reckon 70 = .ok (.if_icmp .ge 7, 3) := by decide +kernel
theorem dX11_reckon_73 : decode cX11_reckon 73 = .ok (.iconst 1, 1) := by decide +kernel
theorem dX11_reckon_74 : decode cX11_reckon 74 = .ok (.goto 4, 3) := by decide +kernel
theorem dX11_reckon_77 : decode cX11_reckon 77 = .ok (.iconst 0, 1) := by decide +kernel
theorem dX11_reckon_78 : decode cX11_reckon 78 = .ok (.ireturn, 1) := by decide +kernel
theorem dX11_reckon_79 : decode cX11_reckon 79 = .ok (.iload_n 1, 1) := by decide +kernel
theorem dX11_reckon_80 : decode cX11_reckon 80 = .ok (.iload_n 2, 1) := by decide +kernel
theorem dX11_reckon_81 : decode cX11_reckon 81 = .ok (.if_icmp .ne 7, 3) := by decide +kernel
theorem dX11_reckon_84 : decode cX11_reckon 84 = .ok (.iconst 1, 1) := by decide +kernel
theorem dX11_reckon_85 : decode cX11_reckon 85 = .ok (.goto 4, 3) := by decide +kernel
theorem dX11_reckon_88 : decode cX11_reckon 88 = .ok (.iconst 0, 1) := by decide +kernel
theorem dX11_reckon_89 : decode cX11_reckon 89 = .ok (.ireturn, 1) := by decide +kernel
theorem dX11_reckon_90 : decode cX11_reckon 90 = .ok (.iload_n 1, 1) := by decide +kernel
theorem dX11_reckon_91 : decode cX11_reckon 91 = .ok (.ifCond .eq 11, 3) := by decide +kernel
theorem dX11_reckon_94 : decode cX11_reckon 94 = .ok (.iload_n 2, 1) := by decide +kernel
theorem dX11_reckon_95 : decode cX11_reckon 95 = .ok (.ifCond .eq 7, 3) := by decide +kernel
theorem dX11_reckon_98 : decode cX11_reckon 98 = .ok (.iconst 1, 1) := by decide +kernel
theorem dX11_reckon_99 : decode cX11_reckon 99 = .ok (.goto 4, 3) := by decide +kernel
theorem dX11_reckon_102 : decode cX11_reckon 102 = .ok (.iconst 0, 1) := by decide +kernel
theorem dX11_reckon_103 : decode cX11_reckon 103 = .ok (.ireturn, 1) := by decide +kernel
theorem dX11_reckon_104 : decode cX11_reckon 104 = .ok (.iload_n 1, 1) := by decide +kernel
theorem dX11_reckon_105 : decode cX11_reckon 105 = .ok (.ifCond .ne 7, 3) := by decide +kernel
theorem dX11_reckon_108 : decode cX11_reckon 108 = .ok (.iload_n 2, 1) := by decide +kernel
theorem dX11_reckon_109 : decode cX11_reckon 109 = .ok (.ifCond .eq 7, 3) := by decide +kernel
theorem dX11_reckon_112 : decode cX11_reckon 112 = .ok (.iconst 1, 1) := by decide +kernel
theorem dX11_reckon_113 : decode cX11_reckon 113 = .ok (.goto 4, 3) := by decide +kernel
theorem dX11_reckon_116 : decode cX11_reckon 116 = .ok (.iconst 0, 1) := by decide +kernel
theorem dX11_reckon_117 : decode cX11_reckon 117 = .ok (.ireturn, 1) := by decide +kernel
theorem dX11_valueNow_0 : decode cX11_valueNow 0 = .ok (.iconst 0, 1) := by decide +kernel
theorem dX11_valueNow_1 : decode cX11_valueNow 1 = .ok (.istore_n 1, 1) := by decide +kernel
theorem dX11_valueNow_2 : decode cX11_valueNow 2 = .ok (.iconst 0, 1) := by decide +kernel
theorem dX11_valueNow_3 : decode cX11_valueNow 3 = .ok (.istore_n 2, 1) := by decide +kernel
theorem dX11_valueNow_4 : decode cX11_valueNow 4 = .ok (.iload_n 2, 1) := by decide +kernel
theorem dX11_valueNow_5 : decode cX11_valueNow 5 = .ok (.aload_n 0, 1) := by decide +kernel
theorem dX11_valueNow_6 : decode cX11_valueNow 6 = .ok (.getfield 45, 3) := by decide +kernel
theorem dX11_valueNow_9 : decode cX11_valueNow 9 = .ok (.iconst 3, 1) := by decide +kernel
theorem dX11_valueNow_10 : decode cX11_valueNow 10 = .ok (.iaload, 1) := by decide +kernel
theorem dX11_valueNow_11 : decode cX11_valueNow 11 = .ok (.if_icmp .ge 112, 3) := by decide +kernel
theorem dX11_valueNow_14 : decode cX11_valueNow 14 = .ok (.aload_n 0, 1) := by decide +kernel
theorem dX11_valueNow_15 : decode cX11_valueNow 15 = .ok (.getfield 74, 3) := by decide +kernel
theorem dX11_valueNow_18 : decode cX11_valueNow 18 = .ok (.iload_n 2, 1) := by decide +kernel
theorem dX11_valueNow_19 : decode cX11_valueNow 19 = .ok (.iaload, 1) := by decide +kernel
theorem dX11_valueNow_20 : decode cX11_valueNow 20 = .ok (.istore_n 3, 1) := by decide +kernel
theorem dX11_valueNow_21 : decode cX11_valueNow 21 = .ok (.iload_n 3, 1) := by decide +kernel
theorem dX11_valueNow_22 : decode cX11_valueNow 22 = .ok (.bipush (-20), 2) := by decide +kernel
theorem dX11_valueNow_24 : decode cX11_valueNow 24 = .ok (.if_icmp .le 31, 3) := by decide +kernel
theorem dX11_valueNow_27 : decode cX11_valueNow 27 = .ok (.aload_n 0, 1) := by decide +kernel
theorem dX11_valueNow_28 : decode cX11_valueNow 28 = .ok (.getfield 108, 3) := by decide +kernel
theorem dX11_valueNow_31 : decode cX11_valueNow 31 = .ok (.iload_n 1, 1) := by decide +kernel
theorem dX11_valueNow_32 : decode cX11_valueNow 32 = .ok (.iload_n 3, 1) := by decide +kernel
theorem dX11_valueNow_33 : decode cX11_valueNow 33 = .ok (.ifCond .lt 7, 3) := by decide +kernel
theorem dX11_valueNow_36 : decode cX11_valueNow 36 = .ok (.iload_n 3, 1) := by decide +kernel
theorem dX11_valueNow_37 : decode cX11_valueNow 37 = .ok (.goto 11, 3) := by decide +kernel
theorem dX11_valueNow_40 : decode cX11_valueNow 40 = .ok (.aload_n 0, 1) := by decide +kernel
theorem dX11_valueNow_41 : decode cX11_valueNow 41 = .ok (.getfield 105, 3) := by decide +kernel
theorem dX11_valueNow_44 : decode cX11_valueNow 44 = .ok (.iconst (-1), 1) := by decide +kernel
theorem dX11_valueNow_45 : decode cX11_valueNow 45 = .ok (.iload_n 3, 1) := by decide +kernel
theorem dX11_valueNow_46 : decode cX11_valueNow 46 = .ok (.isub, 1) := by decide +kernel
theorem dX11_valueNow_47 : decode cX11_valueNow 47 = .ok (.iaload, 1) := by decide +kernel
theorem dX11_valueNow_48 : decode cX11_valueNow 48 = .ok (.iastore, 1) := by decide +kernel
theorem dX11_valueNow_49 : decode cX11_valueNow 49 = .ok (.iinc 1 1, 3) := by decide +kernel
theorem dX11_valueNow_52 : decode cX11_valueNow 52 = .ok (.goto 65, 3) := by decide +kernel
theorem dX11_valueNow_55 : decode cX11_valueNow 55 = .ok (.iload_n 3, 1) := by decide +kernel
theorem dX11_valueNow_56 : decode cX11_valueNow 56 = .ok (.bipush (-28), 2) := by decide +kernel
theorem dX11_valueNow_58 : decode cX11_valueNow 58 = .ok (.if_icmp .ne 30, 3) := by decide +kernel
theorem dX11_valueNow_61 : decode cX11_valueNow 61 = .ok (.aload_n 0, 1) := by decide +kernel
theorem dX11_valueNow_62 : decode cX11_valueNow 62 = .ok (.getfield 108, 3) := by decide +kernel
theorem dX11_valueNow_65 : decode cX11_valueNow 65 = .ok (.iload_n 1, 1) := by decide +kernel
theorem dX11_valueNow_66 : decode cX11_valueNow 66 = .ok (.iconst 1, 1) := by decide +kernel
theorem dX11_valueNow_67 : decode cX11_valueNow 67 = .ok (.isub, 1) := by decide +kernel
theorem dX11_valueNow_68 : decode cX11_valueNow 68 = .ok (.aload_n 0, 1) := by decide +kernel
theorem dX11_valueNow_69 : decode cX11_valueNow 69 = .ok (.getfield 108, 3) := by decide +kernel
theorem dX11_valueNow_72 : decode cX11_valueNow 72 = .ok (.iload_n 1, 1) := by decide +kernel
theorem dX11_valueNow_73 : decode cX11_valueNow 73 = .ok (.iconst 1, 1) := by decide +kernel
theorem dX11_valueNow_74 : decode cX11_valueNow 74 = .ok (.isub, 1) := by decide +kernel
theorem dX11_valueNow_75 : decode cX11_valueNow 75 = .ok (.iaload, 1) := by decide +kernel
theorem dX11_valueNow_76 : decode cX11_valueNow 76 = .ok (.ifCond .eq 7, 3) := by decide +kernel
theorem dX11_valueNow_79 : decode cX11_valueNow 79 = .ok (.iconst 0, 1) := by decide +kernel
theorem dX11_valueNow_80 : decode cX11_valueNow 80 = .ok (.goto 4, 3) := by decide +kernel
theorem dX11_valueNow_83 : decode cX11_valueNow 83 = .ok (.iconst 1, 1) := by decide +kernel
theorem dX11_valueNow_84 : decode cX11_valueNow 84 = .ok (.iastore, 1) := by decide +kernel
theorem dX11_valueNow_85 : decode cX11_valueNow 85 = .ok (.goto 32, 3) := by decide +kernel
theorem dX11_valueNow_88 : decode cX11_valueNow 88 = .ok (.iinc 1 (-1), 3) := by decide +kernel
theorem dX11_valueNow_91 : decode cX11_valueNow 91 = .ok (.aload_n 0, 1) := by decide +kernel
theorem dX11_valueNow_92 : decode cX11_valueNow 92 = .ok (.getfield 108, 3) := by decide +kernel
theorem dX11_valueNow_95 : decode cX11_valueNow 95 = .ok (.iload_n 1, 1) := by decide +kernel
theorem dX11_valueNow_96 : decode cX11_valueNow 96 = .ok (.iconst 1, 1) := by decide +kernel
theorem dX11_valueNow_97 : decode cX11_valueNow 97 = .ok (.isub, 1) := by decide +kernel
theorem dX11_valueNow_98 : decode cX11_valueNow 98 = .ok (.iload_n 3, 1) := by decide +kernel
theorem dX11_valueNow_99 : decode cX11_valueNow 99 = .ok (.aload_n 0, 1) := by decide +kernel
theorem dX11_valueNow_100 : decode cX11_valueNow 100 = .ok (.getfield 108, 3) := by decide +kernel
theorem dX11_valueNow_103 : decode cX11_valueNow 103 = .ok (.iload_n 1, 1) := by decide +kernel
theorem dX11_valueNow_104 : decode cX11_valueNow 104 = .ok (.iconst 1, 1) := by decide +kernel
theorem dX11_valueNow_105 : decode cX11_valueNow 105 = .ok (.isub, 1) := by decide +kernel
theorem dX11_valueNow_106 : decode cX11_valueNow 106 = .ok (.iaload, 1) := by decide +kernel
theorem dX11_valueNow_107 : decode cX11_valueNow 107 = .ok (.aload_n 0, 1) := by decide +kernel
theorem dX11_valueNow_108 : decode cX11_valueNow 108 = .ok (.getfield 108, 3) := by decide +kernel
theorem dX11_valueNow_111 : decode cX11_valueNow 111 = .ok (.iload_n 1, 1) := by decide +kernel
theorem dX11_valueNow_112 : decode cX11_valueNow 112 = .ok (.iaload, 1) := by decide +kernel
theorem dX11_valueNow_113 : decode cX11_valueNow 113 = .ok (.invokestatic 366, 3) := by decide +kernel
theorem dX11_valueNow_116 : decode cX11_valueNow 116 = .ok (.iastore, 1) := by decide +kernel
theorem dX11_valueNow_117 : decode cX11_valueNow 117 = .ok (.iinc 2 1, 3) := by decide +kernel
theorem dX11_valueNow_120 : decode cX11_valueNow 120 = .ok (.goto (-116), 3) := by decide +kernel
theorem dX11_valueNow_123 : decode cX11_valueNow 123 = .ok (.aload_n 0, 1) := by decide +kernel
theorem dX11_valueNow_124 : decode cX11_valueNow 124 = .ok (.getfield 108, 3) := by decide +kernel
theorem dX11_valueNow_127 : decode cX11_valueNow 127 = .ok (.iconst 0, 1) := by decide +kernel
theorem dX11_valueNow_128 : decode cX11_valueNow 128 = .ok (.iaload, 1) := by decide +kernel
theorem dX11_valueNow_129 : decode cX11_valueNow 129 = .ok (.ireturn, 1) := by decide +kernel
theorem dX11_limitOf_0 : decode cX11_limitOf 0 = .ok (.bipush 10, 2) := by decide +kernel
theorem dX11_limitOf_2 : decode cX11_limitOf 2 = .ok (.iload_n 1, 1) := by decide +kernel
theorem dX11_limitOf_3 : decode cX11_limitOf 3 = .ok (.imul, 1) := by decide +kernel
theorem dX11_limitOf_4 : decode cX11_limitOf 4 = .ok (.iload_n 2, 1) := by decide +kernel
theorem dX11_limitOf_5 : decode cX11_limitOf 5 = .ok (.iadd, 1) := by decide +kernel
theorem dX11_limitOf_6 : decode cX11_limitOf 6 = .ok (.istore 5, 2) := by decide +kernel
theorem dX11_limitOf_8 : decode cX11_limitOf 8 = .ok (.aload_n 0, 1) := by decide +kernel
theorem dX11_limitOf_9 : decode cX11_limitOf 9 = .ok (.getfield 45, 3) := by decide +kernel
theorem dX11_limitOf_12 : decode cX11_limitOf 12 = .ok (.iconst 3, 1) := by decide +kernel
theorem dX11_limitOf_13 : decode cX11_limitOf 13 = .ok (.iaload, 1) := by decide +kernel
theorem dX11_limitOf_14 : decode cX11_limitOf 14 = .ok (.ifCond .ne 14, 3) := by decide +kernel
theorem dX11_limitOf_17 : decode cX11_limitOf 17 = .ok (.aload_n 0, 1) := by decide +kernel
theorem dX11_limitOf_18 : decode cX11_limitOf 18 = .ok (.getfield 68, 3) := by decide +kernel
theorem dX11_limitOf_21 : decode cX11_limitOf 21 = .ok (.iload 5, 2) := by decide +kernel
theorem dX11_limitOf_23 : decode cX11_limitOf 23 = .ok (.iaload, 1) := by decide +kernel
theorem dX11_limitOf_24 : decode cX11_limitOf 24 = .ok (.iload 4, 2) := by decide +kernel
theorem dX11_limitOf_26 : decode cX11_limitOf 26 = .ok (.imul, 1) := by decide +kernel
theorem dX11_limitOf_27 : decode cX11_limitOf 27 = .ok (.ireturn, 1) := by decide +kernel
theorem dX11_limitOf_28 : decode cX11_limitOf 28 = .ok (.aload_n 0, 1) := by decide +kernel
theorem dX11_limitOf_29 : decode cX11_limitOf 29 = .ok (.getfield 105, 3) := by decide +kernel
theorem dX11_limitOf_32 : decode cX11_limitOf 32 = .ok (.iconst 0, 1) := by decide +kernel
theorem dX11_limitOf_33 : decode cX11_limitOf 33 = .ok (.aload_n 0, 1) := by decide +kernel
theorem dX11_limitOf_34 : decode cX11_limitOf 34 = .ok (.getfield 68, 3) := by decide +kernel
theorem dX11_limitOf_37 : decode cX11_limitOf 37 = .ok (.iload 5, 2) := by decide +kernel
theorem dX11_limitOf_39 : decode cX11_limitOf 39 = .ok (.iaload, 1) := by decide +kernel
theorem dX11_limitOf_40 : decode cX11_limitOf 40 = .ok (.iastore, 1) := by decide +kernel
theorem dX11_limitOf_41 : decode cX11_limitOf 41 = .ok (.aload_n 0, 1) := by decide +kernel
theorem dX11_limitOf_42 : decode cX11_limitOf 42 = .ok (.getfield 105, 3) := by decide +kernel
theorem dX11_limitOf_45 : decode cX11_limitOf 45 = .ok (.iconst 1, 1) := by decide +kernel
theorem dX11_limitOf_46 : decode cX11_limitOf 46 = .ok (.aload_n 0, 1) := by decide +kernel
theorem dX11_limitOf_47 : decode cX11_limitOf 47 = .ok (.getfield 71, 3) := by decide +kernel
theorem dX11_limitOf_50 : decode cX11_limitOf 50 = .ok (.iload 5, 2) := by decide +kernel
theorem dX11_limitOf_52 : decode cX11_limitOf 52 = .ok (.iaload, 1) := by decide +kernel
theorem dX11_limitOf_53 : decode cX11_limitOf 53 = .ok (.iastore, 1) := by decide +kernel
theorem dX11_limitOf_54 : decode cX11_limitOf 54 = .ok (.aload_n 0, 1) := by decide +kernel
theorem dX11_limitOf_55 : decode cX11_limitOf 55 = .ok (.getfield 105, 3) := by decide +kernel
theorem dX11_limitOf_58 : decode cX11_limitOf 58 = .ok (.iconst 2, 1) := by decide +kernel
theorem dX11_limitOf_59 : decode cX11_limitOf 59 = .ok (.iload 4, 2) := by decide +kernel
theorem dX11_limitOf_61 : decode cX11_limitOf 61 = .ok (.iastore, 1) := by decide +kernel
theorem dX11_limitOf_62 : decode cX11_limitOf 62 = .ok (.aload_n 0, 1) := by decide +kernel
theorem dX11_limitOf_63 : decode cX11_limitOf 63 = .ok (.getfield 105, 3) := by decide +kernel
theorem dX11_limitOf_66 : decode cX11_limitOf 66 = .ok (.iconst 3, 1) := by decide +kernel
theorem dX11_limitOf_67 : decode cX11_limitOf 67 = .ok (.aload_n 0, 1) := by decide +kernel
theorem dX11_limitOf_68 : decode cX11_limitOf 68 = .ok (.getfield 62, 3) := by decide +kernel
theorem dX11_limitOf_71 : decode cX11_limitOf 71 = .ok (.iload 5, 2) := by decide +kernel
theorem dX11_limitOf_73 : decode cX11_limitOf 73 = .ok (.iaload, 1) := by decide +kernel
theorem dX11_limitOf_74 : decode cX11_limitOf 74 = .ok (.iconst 2, 1) := by decide +kernel
theorem dX11_limitOf_75 : decode cX11_limitOf 75 = .ok (.if_icmp .ne 7, 3) := by decide +kernel
theorem dX11_limitOf_78 : decode cX11_limitOf 78 = .ok (.iconst 1, 1) := by decide +kernel
theorem dX11_limitOf_79 : decode cX11_limitOf 79 = .ok (.goto 4, 3) := by decide +kernel
theorem dX11_limitOf_82 : decode cX11_limitOf 82 = .ok (.iconst 0, 1) := by decide +kernel
theorem dX11_limitOf_83 : decode cX11_limitOf 83 = .ok (.iastore, 1) := by decide +kernel
theorem dX11_limitOf_84 : decode cX11_limitOf 84 = .ok (.aload_n 0, 1) := by decide +kernel
theorem dX11_limitOf_85 : decode cX11_limitOf 85 = .ok (.getfield 105, 3) := by decide +kernel
theorem dX11_limitOf_88 : decode cX11_limitOf 88 = .ok (.iconst 4, 1) := by decide +kernel
theorem dX11_limitOf_89 : decode cX11_limitOf 89 = .ok (.iload_n 2, 1) := by decide +kernel
theorem dX11_limitOf_90 : decode cX11_limitOf 90 = .ok (.iastore, 1) := by decide +kernel
theorem dX11_limitOf_91 : decode cX11_limitOf 91 = .ok (.aload_n 0, 1) := by decide +kernel
theorem dX11_limitOf_92 : decode cX11_limitOf 92 = .ok (.getfield 105, 3) := by decide +kernel
theorem dX11_limitOf_95 : decode cX11_limitOf 95 = .ok (.iconst 5, 1) := by decide +kernel
theorem dX11_limitOf_96 : decode cX11_limitOf 96 = .ok (.iload_n 3, 1) := by decide +kernel
theorem dX11_limitOf_97 : decode cX11_limitOf 97 = .ok (.ifCond .ne 7, 3) := by decide +kernel
theorem dX11_limitOf_100 : decode cX11_limitOf 100 = .ok (.iconst 1, 1) := by decide +kernel
theorem dX11_limitOf_101 : decode cX11_limitOf 101 = .ok (.goto 4, 3) := by decide +kernel
theorem dX11_limitOf_104 : decode cX11_limitOf 104 = .ok (.iconst 0, 1) := by decide +kernel
theorem dX11_limitOf_105 : decode cX11_limitOf 105 = .ok (.iastore, 1) := by decide +kernel
theorem dX11_limitOf_106 : decode cX11_limitOf 106 = .ok (.iconst 0, 1) := by decide +kernel
theorem dX11_limitOf_107 : decode cX11_limitOf 107 = .ok (.bipush 99, 2) := by decide +kernel
theorem dX11_limitOf_109 : decode cX11_limitOf 109 = .ok (.aload_n 0, 1) := by decide +kernel
theorem dX11_limitOf_110 : decode cX11_limitOf 110 = .ok (.invokevirtual 370, 3) := by decide +kernel
theorem dX11_limitOf_113 : decode cX11_limitOf 113 = .ok (.invokestatic 201, 3) := by decide +kernel
theorem dX11_limitOf_116 : decode cX11_limitOf 116 = .ok (.invokestatic 284, 3) := by decide +kernel
theorem dX11_limitOf_119 : decode cX11_limitOf 119 = .ok (.ireturn, 1) := by decide +kernel
theorem dX11_isClause_0 : decode cX11_isClause 0 = .ok (.bipush 10, 2) := by decide +kernel
theorem dX11_isClause_2 : decode cX11_isClause 2 = .ok (.iload_n 1, 1) := by decide +kernel
theorem dX11_isClause_3 : decode cX11_isClause 3 = .ok (.imul, 1) := by decide +kernel
theorem dX11_isClause_4 : decode cX11_isClause 4 = .ok (.iload_n 2, 1) := by decide +kernel
theorem dX11_isClause_5 : decode cX11_isClause 5 = .ok (.iadd, 1) := by decide +kernel
theorem dX11_isClause_6 : decode cX11_isClause 6 = .ok (.istore_n 3, 1) := by decide +kernel
theorem dX11_isClause_7 : decode cX11_isClause 7 = .ok (.aload_n 0, 1) := by decide +kernel
theorem dX11_isClause_8 : decode cX11_isClause 8 = .ok (.getfield 62, 3) := by decide +kernel
theorem dX11_isClause_11 : decode cX11_isClause 11 = .ok (.iload_n 3, 1) := by decide +kernel
theorem dX11_isClause_12 : decode cX11_isClause 12 = .ok (.iaload, 1) := by decide +kernel
theorem dX11_isClause_13 : decode cX11_isClause 13 = .ok (.ifCond .eq 13, 3) := by decide +kernel
theorem dX11_isClause_16 : decode cX11_isClause 16 = .ok (.aload_n 0, 1) := by decide +kernel
theorem dX11_isClause_17 : decode cX11_isClause 17 = .ok (.getfield 62, 3) := by decide +kernel
theorem dX11_isClause_20 : decode cX11_isClause 20 = .ok (.iload_n 3, 1) := by decide +kernel
theorem dX11_isClause_21 : decode cX11_isClause 21 = .ok (.iaload, 1) := by decide +kernel
theorem dX11_isClause_22 : decode cX11_isClause 22 = .ok (.iconst 2, 1) := by decide +kernel
theorem dX11_isClause_23 : decode cX11_isClause 23 = .ok (.if_icmp .ne 16, 3) := by decide +kernel
theorem dX11_isClause_26 : decode cX11_isClause 26 = .ok (.aload_n 0, 1) := by decide +kernel
theorem dX11_isClause_27 : decode cX11_isClause 27 = .ok (.getfield 68, 3) := by decide +kernel
theorem dX11_isClause_30 : decode cX11_isClause 30 = .ok (.iload_n 3, 1) := by decide +kernel
theorem dX11_isClause_31 : decode cX11_isClause 31 = .ok (.iaload, 1) := by decide +kernel
theorem dX11_isClause_32 : decode cX11_isClause 32 = .ok (.ifCond .eq 7, 3) := by decide +kernel
theorem dX11_isClause_35 : decode cX11_isClause 35 = .ok (.iconst 1, 1) := by decide +kernel
theorem dX11_isClause_36 : decode cX11_isClause 36 = .ok (.goto 4, 3) := by decide +kernel
theorem dX11_isClause_39 : decode cX11_isClause 39 = .ok (.iconst 0, 1) := by decide +kernel
theorem dX11_isClause_40 : decode cX11_isClause 40 = .ok (.ireturn, 1) := by decide +kernel
theorem dX11_isOfHim_0 : decode cX11_isOfHim 0 = .ok (.bipush 10, 2) := by decide +kernel
theorem dX11_isOfHim_2 : decode cX11_isOfHim 2 = .ok (.iload_n 1, 1) := by decide +kernel
theorem dX11_isOfHim_3 : decode cX11_isOfHim 3 = .ok (.imul, 1) := by decide +kernel
theorem dX11_isOfHim_4 : decode cX11_isOfHim 4 = .ok (.iload_n 2, 1) := by decide +kernel
theorem dX11_isOfHim_5 : decode cX11_isOfHim 5 = .ok (.iadd, 1) := by decide +kernel
theorem dX11_isOfHim_6 : decode cX11_isOfHim 6 = .ok (.istore 4, 2) := by decide +kernel
theorem dX11_isOfHim_8 : decode cX11_isOfHim 8 = .ok (.aload_n 0, 1) := by decide +kernel
theorem dX11_isOfHim_9 : decode cX11_isOfHim 9 = .ok (.getfield 65, 3) := by decide +kernel
theorem dX11_isOfHim_12 : decode cX11_isOfHim 12 = .ok (.iload 4, 2) := by decide +kernel
theorem dX11_isOfHim_14 : decode cX11_isOfHim 14 = .ok (.iaload, 1) := by decide +kernel
theorem dX11_isOfHim_15 : decode cX11_isOfHim 15 = .ok (.iconst 2, 1) := by decide +kernel
theorem dX11_isOfHim_16 : decode cX11_isOfHim 16 = .ok (.if_icmp .eq 14, 3) := by decide +kernel
theorem dX11_isOfHim_19 : decode cX11_isOfHim 19 = .ok (.aload_n 0, 1) := by decide +kernel
theorem dX11_isOfHim_20 : decode cX11_isOfHim 20 = .ok (.getfield 65, 3) := by decide +kernel
theorem dX11_isOfHim_23 : decode cX11_isOfHim 23 = .ok (.iload 4, 2) := by decide +kernel
theorem dX11_isOfHim_25 : decode cX11_isOfHim 25 = .ok (.iaload, 1) := by decide +kernel
theorem dX11_isOfHim_26 : decode cX11_isOfHim 26 = .ok (.iload_n 3, 1) := by decide +kernel
theorem dX11_isOfHim_27 : decode cX11_isOfHim 27 = .ok (.if_icmp .ne 7, 3) := by decide +kernel
theorem dX11_isOfHim_30 : decode cX11_isOfHim 30 = .ok (.iconst 1, 1) := by decide +kernel
theorem dX11_isOfHim_31 : decode cX11_isOfHim 31 = .ok (.goto 4, 3) := by decide +kernel
theorem dX11_isOfHim_34 : decode cX11_isOfHim 34 = .ok (.iconst 0, 1) := by decide +kernel
theorem dX11_isOfHim_35 : decode cX11_isOfHim 35 = .ok (.ireturn, 1) := by decide +kernel
theorem dX11_hasGlove_0 : decode cX11_hasGlove 0 = .ok (.iconst 0, 1) := by decide +kernel
theorem dX11_hasGlove_1 : decode cX11_hasGlove 1 = .ok (.istore 4, 2) := by decide +kernel
theorem dX11_hasGlove_3 : decode cX11_hasGlove 3 = .ok (.iload 4, 2) := by decide +kernel
theorem dX11_hasGlove_5 : decode cX11_hasGlove 5 = .ok (.aload_n 0, 1) := by decide +kernel
theorem dX11_hasGlove_6 : decode cX11_hasGlove 6 = .ok (.getfield 59, 3) := by decide +kernel
theorem dX11_hasGlove_9 : decode cX11_hasGlove 9 = .ok (.iload_n 1, 1) := by decide +kernel
theorem dX11_hasGlove_10 : decode cX11_hasGlove 10 = .ok (.iaload, 1) := by decide +kernel
theorem dX11_hasGlove_11 : decode cX11_hasGlove 11 = .ok (.if_icmp .ge 54, 3) := by decide +kernel
theorem dX11_hasGlove_14 : decode cX11_hasGlove 14 = .ok (.aload_n 0, 1) := by decide +kernel
theorem dX11_hasGlove_15 : decode cX11_hasGlove 15 = .ok (.getfield 62, 3) := by decide +kernel
theorem dX11_hasGlove_18 : decode cX11_hasGlove 18 = .ok (.bipush 10, 2) := by decide +kernel
theorem dX11_hasGlove_20 : decode cX11_hasGlove 20 = .ok (.iload_n 1, 1) := by decide +kernel
theorem dX11_hasGlove_21 : decode cX11_hasGlove 21 = .ok (.imul, 1) := by decide +kernel
theorem dX11_hasGlove_22 : decode cX11_hasGlove 22 = .ok (.iload 4, 2) := by decide +kernel
theorem dX11_hasGlove_24 : decode cX11_hasGlove 24 = .ok (.iadd, 1) := by decide +kernel
theorem dX11_hasGlove_25 : decode cX11_hasGlove 25 = .ok (.iaload, 1) := by decide +kernel
theorem dX11_hasGlove_26 : decode cX11_hasGlove 26 = .ok (.iconst 3, 1) := by decide +kernel
theorem dX11_hasGlove_27 : decode cX11_hasGlove 27 = .ok (.if_icmp .ne 32, 3) := by decide +kernel
theorem dX11_hasGlove_30 : decode cX11_hasGlove 30 = .ok (.aload_n 0, 1) := by decide +kernel
theorem dX11_hasGlove_31 : decode cX11_hasGlove 31 = .ok (.getfield 71, 3) := by decide +kernel
theorem dX11_hasGlove_34 : decode cX11_hasGlove 34 = .ok (.bipush 10, 2) := by decide +kernel
theorem dX11_hasGlove_36 : decode cX11_hasGlove 36 = .ok (.iload_n 1, 1) := by decide +kernel
theorem dX11_hasGlove_37 : decode cX11_hasGlove 37 = .ok (.imul, 1) := by decide +kernel
theorem dX11_hasGlove_38 : decode cX11_hasGlove 38 = .ok (.iload 4, 2) := by decide +kernel
theorem dX11_hasGlove_40 : decode cX11_hasGlove 40 = .ok (.iadd, 1) := by decide +kernel
theorem dX11_hasGlove_41 : decode cX11_hasGlove 41 = .ok (.iaload, 1) := by decide +kernel
theorem dX11_hasGlove_42 : decode cX11_hasGlove 42 = .ok (.iload_n 3, 1) := by decide +kernel
theorem dX11_hasGlove_43 : decode cX11_hasGlove 43 = .ok (.if_icmp .ne 16, 3) := by decide +kernel
theorem dX11_hasGlove_46 : decode cX11_hasGlove 46 = .ok (.aload_n 0, 1) := by decide +kernel
theorem dX11_hasGlove_47 : decode cX11_hasGlove 47 = .ok (.iload_n 1, 1) := by decide +kernel
theorem dX11_hasGlove_48 : decode cX11_hasGlove 48 = .ok (.iload 4, 2) := by decide +kernel
theorem dX11_hasGlove_50 : decode cX11_hasGlove 50 = .ok (.iload_n 2, 1) := by decide +kernel
theorem dX11_hasGlove_51 : decode cX11_hasGlove 51 = .ok (.invokevirtual 373, 3) := by decide +kernel
theorem dX11_hasGlove_54 : decode cX11_hasGlove 54 = .ok (.ifCond .eq 5, 3) := by decide +kernel
theorem dX11_hasGlove_57 : decode cX11_hasGlove 57 = .ok (.iconst 1, 1) := by decide +kernel
theorem dX11_hasGlove_58 : decode cX11_hasGlove 58 = .ok (.ireturn, 1) := by decide +kernel
theorem dX11_hasGlove_59 : decode cX11_hasGlove 59 = .ok (.iinc 4 1, 3) := by decide +kernel
theorem dX11_hasGlove_62 : decode cX11_hasGlove 62 = .ok (.goto (-59), 3) := by decide +kernel
theorem dX11_hasGlove_65 : decode cX11_hasGlove 65 = .ok (.iconst 0, 1) := by decide +kernel
theorem dX11_hasGlove_66 : decode cX11_hasGlove 66 = .ok (.ireturn, 1) := by decide +kernel
theorem dX11_binds_0 : decode cX11_binds 0 = .ok (.aload_n 0, 1) := by decide +kernel
theorem dX11_binds_1 : decode cX11_binds 1 = .ok (.iload_n 1, 1) := by decide +kernel
theorem dX11_binds_2 : decode cX11_binds 2 = .ok (.iload_n 2, 1) := by decide +kernel
theorem dX11_binds_3 : decode cX11_binds 3 = .ok (.invokevirtual 377, 3) := by decide +kernel
theorem dX11_binds_6 : decode cX11_binds 6 = .ok (.ifCond .eq 37, 3) := by decide +kernel
theorem dX11_binds_9 : decode cX11_binds 9 = .ok (.aload_n 0, 1) := by decide +kernel
theorem dX11_binds_10 : decode cX11_binds 10 = .ok (.iload_n 1, 1) := by decide +kernel
theorem dX11_binds_11 : decode cX11_binds 11 = .ok (.iload_n 2, 1) := by decide +kernel
theorem dX11_binds_12 : decode cX11_binds 12 = .ok (.iload_n 3, 1) := by decide +kernel
theorem dX11_binds_13 : decode cX11_binds 13 = .ok (.invokevirtual 373, 3) := by decide +kernel
theorem dX11_binds_16 : decode cX11_binds 16 = .ok (.ifCond .eq 27, 3) := by decide +kernel
theorem dX11_binds_19 : decode cX11_binds 19 = .ok (.aload_n 0, 1) := by decide +kernel
theorem dX11_binds_20 : decode cX11_binds 20 = .ok (.iload_n 1, 1) := by decide +kernel
theorem dX11_binds_21 : decode cX11_binds 21 = .ok (.iload_n 3, 1) := by decide +kernel
theorem dX11_binds_22 : decode cX11_binds 22 = .ok (.aload_n 0, 1) := by decide +kernel
theorem dX11_binds_23 : decode cX11_binds 23 = .ok (.getfield 71, 3) := by decide +kernel
theorem dX11_binds_26 : decode cX11_binds 26 = .ok (.bipush 10, 2) := by decide +kernel
theorem dX11_binds_28 : decode cX11_binds 28 = .ok (.iload_n 1, 1) := by decide +kernel
theorem dX11_binds_29 : decode cX11_binds 29 = .ok (.imul, 1) := by decide +kernel
theorem dX11_binds_30 : decode cX11_binds 30 = .ok (.iload_n 2, 1) := by decide +kernel
theorem dX11_binds_31 : decode cX11_binds 31 = .ok (.iadd, 1) := by decide +kernel
theorem dX11_binds_32 : decode cX11_binds 32 = .ok (.iaload, 1) := by decide +kernel
theorem dX11_binds_33 : decode cX11_binds 33 = .ok (.invokevirtual 380, 3) := by decide +kernel
theorem dX11_binds_36 : decode cX11_binds 36 = .ok (.ifCond .ne 7, 3) := by decide +kernel
theorem dX11_binds_39 : decode cX11_binds 39 = .ok (.iconst 1, 1) := by decide +kernel
theorem dX11_binds_40 : decode cX11_binds 40 = .ok (.goto 4, 3) := by decide +kernel
theorem dX11_binds_43 : decode cX11_binds 43 = .ok (.iconst 0, 1) := by decide +kernel
theorem dX11_binds_44 : decode cX11_binds 44 = .ok (.ireturn, 1) := by decide +kernel
theorem dX11_roleOf_0 : decode cX11_roleOf 0 = .ok (.aload_n 0, 1) := by decide +kernel
theorem dX11_roleOf_1 : decode cX11_roleOf 1 = .ok (.getfield 51, 3) := by decide +kernel
theorem dX11_roleOf_4 : decode cX11_roleOf 4 = .ok (.iload_n 2, 1) := by decide +kernel
theorem dX11_roleOf_5 : decode cX11_roleOf 5 = .ok (.iaload, 1) := by decide +kernel
theorem dX11_roleOf_6 : decode cX11_roleOf 6 = .ok (.iload_n 1, 1) := by decide +kernel
theorem dX11_roleOf_7 : decode cX11_roleOf 7 = .ok (.if_icmp .ne 7, 3) := by decide +kernel
theorem dX11_roleOf_10 : decode cX11_roleOf 10 = .ok (.iconst 0, 1) := by decide +kernel
theorem dX11_roleOf_11 : decode cX11_roleOf 11 = .ok (.goto 18, 3) := by decide +kernel
theorem dX11_roleOf_14 : decode cX11_roleOf 14 = .ok (.aload_n 0, 1) := by decide +kernel
theorem dX11_roleOf_15 : decode cX11_roleOf 15 = .ok (.getfield 54, 3) := by decide +kernel
theorem dX11_roleOf_18 : decode cX11_roleOf 18 = .ok (.iload_n 2, 1) := by decide +kernel
theorem dX11_roleOf_19 : decode cX11_roleOf 19 = .ok (.iaload, 1) := by decide +kernel
theorem dX11_roleOf_20 : decode cX11_roleOf 20 = .ok (.iload_n 1, 1) := by decide +kernel
theorem dX11_roleOf_21 : decode cX11_roleOf 21 = .ok (.if_icmp .ne 7, 3) := by decide +kernel
theorem dX11_roleOf_24 : decode cX11_roleOf 24 = .ok (.iconst 1, 1) := by decide +kernel
theorem dX11_roleOf_25 : decode cX11_roleOf 25 = .ok (.goto 4, 3) := by decide +kernel
theorem dX11_roleOf_28 : decode cX11_roleOf 28 = .ok (.iconst (-1), 1) := by decide +kernel
theorem dX11_roleOf_29 : decode cX11_roleOf 29 = .ok (.ireturn, 1) := by decide +kernel
theorem dX11_leastBy_0 : decode cX11_leastBy 0 = .ok (.aload_n 0, 1) := by decide +kernel
theorem dX11_leastBy_1 : decode cX11_leastBy 1 = .ok (.iload_n 2, 1) := by decide +kernel
theorem dX11_leastBy_2 : decode cX11_leastBy 2 = .ok (.iload_n 1, 1) := by decide +kernel
theorem dX11_leastBy_3 : decode cX11_leastBy 3 = .ok (.invokevirtual 383, 3) := by decide +kernel
theorem dX11_leastBy_6 : decode cX11_leastBy 6 = .ok (.istore 4, 2) := by decide +kernel
theorem dX11_leastBy_8 : decode cX11_leastBy 8 = .ok (.iconst (-1), 1) := by decide +kernel
theorem dX11_leastBy_9 : decode cX11_leastBy 9 = .ok (.istore 5, 2) := by decide +kernel
theorem dX11_leastBy_11 : decode cX11_leastBy 11 = .ok (.iconst 0, 1) := by decide +kernel
theorem dX11_leastBy_12 : decode cX11_leastBy 12 = .ok (.istore 6, 2) := by decide +kernel
theorem dX11_leastBy_14 : decode cX11_leastBy 14 = .ok (.iload 6, 2) := by decide +kernel
theorem dX11_leastBy_16 : decode cX11_leastBy 16 = .ok (.aload_n 0, 1) := by decide +kernel
theorem dX11_leastBy_17 : decode cX11_leastBy 17 = .ok (.getfield 59, 3) := by decide +kernel
theorem dX11_leastBy_20 : decode cX11_leastBy 20 = .ok (.iload_n 1, 1) := by decide +kernel
theorem dX11_leastBy_21 : decode cX11_leastBy 21 = .ok (.iaload, 1) := by decide +kernel
theorem dX11_leastBy_22 : decode cX11_leastBy 22 = .ok (.if_icmp .ge 83, 3) := by decide +kernel
theorem dX11_leastBy_25 : decode cX11_leastBy 25 = .ok (.iload 4, 2) := by decide +kernel
theorem dX11_leastBy_27 : decode cX11_leastBy 27 = .ok (.iconst (-1), 1) := by decide +kernel
theorem dX11_leastBy_28 : decode cX11_leastBy 28 = .ok (.if_icmp .eq 77, 3) := by decide +kernel
theorem dX11_leastBy_31 : decode cX11_leastBy 31 = .ok (.aload_n 0, 1) := by decide +kernel
theorem dX11_leastBy_32 : decode cX11_leastBy 32 = .ok (.getfield 71, 3) := by decide +kernel
theorem dX11_leastBy_35 : decode cX11_leastBy 35 = .ok (.bipush 10, 2) := by decide +kernel
theorem dX11_leastBy_37 : decode cX11_leastBy 37 = .ok (.iload_n 1, 1) := by decide +kernel
theorem dX11_leastBy_38 : decode cX11_leastBy 38 = .ok (.imul, 1) := by decide +kernel
theorem dX11_leastBy_39 : decode cX11_leastBy 39 = .ok (.iload 6, 2) := by decide +kernel
theorem dX11_leastBy_41 : decode cX11_leastBy 41 = .ok (.iadd, 1) := by decide +kernel
theorem dX11_leastBy_42 : decode cX11_leastBy 42 = .ok (.iaload, 1) := by decide +kernel
theorem dX11_leastBy_43 : decode cX11_leastBy 43 = .ok (.iload_n 3, 1) := by decide +kernel
theorem dX11_leastBy_44 : decode cX11_leastBy 44 = .ok (.if_icmp .ne 55, 3) := by decide +kernel
theorem dX11_leastBy_47 : decode cX11_leastBy 47 = .ok (.aload_n 0, 1) := by decide +kernel
theorem dX11_leastBy_48 : decode cX11_leastBy 48 = .ok (.iload_n 1, 1) := by decide +kernel
theorem dX11_leastBy_49 : decode cX11_leastBy 49 = .ok (.iload 6, 2) := by decide +kernel
theorem dX11_leastBy_51 : decode cX11_leastBy 51 = .ok (.iload 4, 2) := by decide +kernel
theorem dX11_leastBy_53 : decode cX11_leastBy 53 = .ok (.invokevirtual 386, 3) := by decide +kernel
theorem dX11_leastBy_56 : decode cX11_leastBy 56 = .ok (.ifCond .ne 6, 3) := by decide +kernel
theorem dX11_leastBy_59 : decode cX11_leastBy 59 = .ok (.goto 40, 3) := by decide +kernel
theorem dX11_leastBy_62 : decode cX11_leastBy 62 = .ok (.aload_n 0, 1) := by decide +kernel
theorem dX11_leastBy_63 : decode cX11_leastBy 63 = .ok (.iload_n 1, 1) := by decide +kernel
theorem dX11_leastBy_64 : decode cX11_leastBy 64 = .ok (.iload 6, 2) := by decide +kernel
theorem dX11_leastBy_66 : decode cX11_leastBy 66 = .ok (.iload 4, 2) := by decide +kernel
theorem dX11_leastBy_68 : decode cX11_leastBy 68 = .ok (.aload_n 0, 1) := by decide +kernel
theorem dX11_leastBy_69 : decode cX11_leastBy 69 = .ok (.getfield 57, 3) := by decide +kernel
theorem dX11_leastBy_72 : decode cX11_leastBy 72 = .ok (.iload_n 1, 1) := by decide +kernel
theorem dX11_leastBy_73 : decode cX11_leastBy 73 = .ok (.iaload, 1) := by decide +kernel
theorem dX11_leastBy_74 : decode cX11_leastBy 74 = .ok (.invokevirtual 389, 3) := by decide +kernel
theorem dX11_leastBy_77 : decode cX11_leastBy 77 = .ok (.istore 7, 2) := by decide +kernel
theorem dX11_leastBy_79 : decode cX11_leastBy 79 = .ok (.iload 5, 2) := by decide +kernel
theorem dX11_leastBy_81 : decode cX11_leastBy 81 = .ok (.iconst (-1), 1) := by decide +kernel
theorem dX11_leastBy_82 : decode cX11_leastBy 82 = .ok (.if_icmp .ne 8, 3) := by decide +kernel
theorem dX11_leastBy_85 : decode cX11_leastBy 85 = .ok (.iload 7, 2) := by decide +kernel
theorem dX11_leastBy_87 : decode cX11_leastBy 87 = .ok (.goto 10, 3) := by decide +kernel
theorem dX11_leastBy_90 : decode cX11_leastBy 90 = .ok (.iload 5, 2) := by decide +kernel
theorem dX11_leastBy_92 : decode cX11_leastBy 92 = .ok (.iload 7, 2) := by decide +kernel
theorem dX11_leastBy_94 : decode cX11_leastBy 94 = .ok (.invokestatic 201, 3) := by decide +kernel
theorem dX11_leastBy_97 : decode cX11_leastBy 97 = .ok (.istore 5, 2) := by decide +kernel
theorem dX11_leastBy_99 : decode cX11_leastBy 99 = .ok (.iinc 6 1, 3) := by decide +kernel
theorem dX11_leastBy_102 : decode cX11_leastBy 102 = .ok (.goto (-88), 3) := by decide +kernel
theorem dX11_leastBy_105 : decode cX11_leastBy 105 = .ok (.iload 5, 2) := by decide +kernel
theorem dX11_leastBy_107 : decode cX11_leastBy 107 = .ok (.ireturn, 1) := by decide +kernel
theorem dX11_boundBy_0 : decode cX11_boundBy 0 = .ok (.iconst (-1), 1) := by decide +kernel
theorem dX11_boundBy_1 : decode cX11_boundBy 1 = .ok (.istore 4, 2) := by decide +kernel
theorem dX11_boundBy_3 : decode cX11_boundBy 3 = .ok (.iconst 0, 1) := by decide +kernel
theorem dX11_boundBy_4 : decode cX11_boundBy 4 = .ok (.istore 5, 2) := by decide +kernel
theorem dX11_boundBy_6 : decode cX11_boundBy 6 = .ok (.iload 5, 2) := by decide +kernel
theorem dX11_boundBy_8 : decode cX11_boundBy 8 = .ok (.aload_n 0, 1) := by decide +kernel
theorem dX11_boundBy_9 : decode cX11_boundBy 9 = .ok (.getfield 45, 3) := by decide +kernel
theorem dX11_boundBy_12 : decode cX11_boundBy 12 = .ok (.iconst 1, 1) := by decide +kernel
theorem dX11_boundBy_13 : decode cX11_boundBy 13 = .ok (.iaload, 1) := by decide +kernel
theorem dX11_boundBy_14 : decode cX11_boundBy 14 = .ok (.if_icmp .ge 58, 3) := by decide +kernel
theorem dX11_boundBy_17 : decode cX11_boundBy 17 = .ok (.iload_n 1, 1) := by decide +kernel
theorem dX11_boundBy_18 : decode cX11_boundBy 18 = .ok (.iload 5, 2) := by decide +kernel
theorem dX11_boundBy_20 : decode cX11_boundBy 20 = .ok (.invokestatic 357, 3) := by decide +kernel
theorem dX11_boundBy_23 : decode cX11_boundBy 23 = .ok (.ifCond .eq 14, 3) := by decide +kernel
theorem dX11_boundBy_26 : decode cX11_boundBy 26 = .ok (.aload_n 0, 1) := by decide +kernel
theorem dX11_boundBy_27 : decode cX11_boundBy 27 = .ok (.iload 5, 2) := by decide +kernel
theorem dX11_boundBy_29 : decode cX11_boundBy 29 = .ok (.iload_n 2, 1) := by decide +kernel
theorem dX11_boundBy_30 : decode cX11_boundBy 30 = .ok (.iload_n 3, 1) := by decide +kernel
theorem dX11_boundBy_31 : decode cX11_boundBy 31 = .ok (.invokevirtual 393, 3) := by decide +kernel
theorem dX11_boundBy_34 : decode cX11_boundBy 34 = .ok (.goto 4, 3) := by decide +kernel
theorem dX11_boundBy_37 : decode cX11_boundBy 37 = .ok (.iconst (-1), 1) := by decide +kernel
theorem dX11_boundBy_38 : decode cX11_boundBy 38 = .ok (.istore 6, 2) := by decide +kernel
theorem dX11_boundBy_40 : decode cX11_boundBy 40 = .ok (.iload 6, 2) := by decide +kernel
theorem dX11_boundBy_42 : decode cX11_boundBy 42 = .ok (.iconst (-1), 1) := by decide +kernel
theorem dX11_boundBy_43 : decode cX11_boundBy 43 = .ok (.if_icmp .eq 23, 3) := by decide +kernel
theorem dX11_boundBy_46 : decode cX11_boundBy 46 = .ok (.iload 4, 2) := by decide +kernel
theorem dX11_boundBy_48 : decode cX11_boundBy 48 = .ok (.iconst (-1), 1) := by decide +kernel
theorem dX11_boundBy_49 : decode cX11_boundBy 49 = .ok (.if_icmp .ne 8, 3) := by decide +kernel
theorem dX11_boundBy_52 : decode cX11_boundBy 52 = .ok (.iload 6, 2) := by decide +kernel
theorem dX11_boundBy_54 : decode cX11_boundBy 54 = .ok (.goto 10, 3) := by decide +kernel
theorem dX11_boundBy_57 : decode cX11_boundBy 57 = .ok (.iload 4, 2) := by decide +kernel
theorem dX11_boundBy_59 : decode cX11_boundBy 59 = .ok (.iload 6, 2) := by decide +kernel
theorem dX11_boundBy_61 : decode cX11_boundBy 61 = .ok (.invokestatic 201, 3) := by decide +kernel
theorem dX11_boundBy_64 : decode cX11_boundBy 64 = .ok (.istore 4, 2) := by decide +kernel
theorem dX11_boundBy_66 : decode cX11_boundBy 66 = .ok (.iinc 5 1, 3) := by decide +kernel
theorem dX11_boundBy_69 : decode cX11_boundBy 69 = .ok (.goto (-63), 3) := by decide +kernel
theorem dX11_boundBy_72 : decode cX11_boundBy 72 = .ok (.iload 4, 2) := by decide +kernel
theorem dX11_boundBy_74 : decode cX11_boundBy 74 = .ok (.ireturn, 1) := by decide +kernel
theorem dX11_hasStamped_0 : decode cX11_hasStamped 0 = .ok (.aload_n 0, 1) := by decide +kernel
theorem dX11_hasStamped_1 : decode cX11_hasStamped 1 = .ok (.iload_n 1, 1) := by decide +kernel
theorem dX11_hasStamped_2 : decode cX11_hasStamped 2 = .ok (.iload_n 2, 1) := by decide +kernel
theorem dX11_hasStamped_3 : decode cX11_hasStamped 3 = .ok (.iload_n 3, 1) := by decide +kernel
theorem dX11_hasStamped_4 : decode cX11_hasStamped 4 = .ok (.invokevirtual 396, 3) := by decide +kernel
theorem dX11_hasStamped_7 : decode cX11_hasStamped 7 = .ok (.istore 5, 2) := by decide +kernel
theorem dX11_hasStamped_9 : decode cX11_hasStamped 9 = .ok (.iload 5, 2) := by decide +kernel
theorem dX11_hasStamped_11 : decode cX11_hasStamped 11 = .ok (.iconst (-1), 1) := by decide +kernel
theorem dX11_hasStamped_12 : decode cX11_hasStamped 12 = .ok (.if_icmp .eq 14, 3) := by decide +kernel
theorem dX11_hasStamped_15 : decode cX11_hasStamped 15 = .ok (.iload 4, 2) := by decide +kernel
theorem dX11_hasStamped_17 : decode cX11_hasStamped 17 = .ok (.iload 5, 2) := by decide +kernel
theorem dX11_hasStamped_19 : decode cX11_hasStamped 19 = .ok (.if_icmp .le 7, 3) := by decide +kernel
theorem dX11_hasStamped_22 : decode cX11_hasStamped 22 = .ok (.iconst 1, 1) := by decide +kernel
theorem dX11_hasStamped_23 : decode cX11_hasStamped 23 = .ok (.goto 4, 3) := by decide +kernel
theorem dX11_hasStamped_26 : decode cX11_hasStamped 26 = .ok (.iconst 0, 1) := by decide +kernel
theorem dX11_hasStamped_27 : decode cX11_hasStamped 27 = .ok (.ireturn, 1) := by decide +kernel
theorem dX11_stamped_0 : decode cX11_stamped 0 = .ok (.aload_n 0, 1) := by decide +kernel
theorem dX11_stamped_1 : decode cX11_stamped 1 = .ok (.invokevirtual 399, 3) := by decide +kernel
theorem dX11_stamped_4 : decode cX11_stamped 4 = .ok (.istore_n 1, 1) := by decide +kernel
theorem dX11_stamped_5 : decode cX11_stamped 5 = .ok (.iconst 0, 1) := by decide +kernel
theorem dX11_stamped_6 : decode cX11_stamped 6 = .ok (.istore_n 2, 1) := by decide +kernel
theorem dX11_stamped_7 : decode cX11_stamped 7 = .ok (.iconst 0, 1) := by decide +kernel
theorem dX11_stamped_8 : decode cX11_stamped 8 = .ok (.istore_n 3, 1) := by decide +kernel
theorem dX11_stamped_9 : decode cX11_stamped 9 = .ok (.iload_n 3, 1) := by decide +kernel
theorem dX11_stamped_10 : decode cX11_stamped 10 = .ok (.aload_n 0, 1) := by decide +kernel
theorem dX11_stamped_11 : decode cX11_stamped 11 = .ok (.getfield 45, 3) := by decide +kernel
theorem dX11_stamped_14 : decode cX11_stamped 14 = .ok (.iconst 0, 1) := by decide +kernel
theorem dX11_stamped_15 : decode cX11_stamped 15 = .ok (.iaload, 1) := by decide +kernel
theorem dX11_stamped_16 : decode cX11_stamped 16 = .ok (.if_icmp .ge 76, 3) := by decide +kernel
theorem dX11_stamped_19 : decode cX11_stamped 19 = .ok (.iconst 0, 1) := by decide +kernel
theorem dX11_stamped_20 : decode cX11_stamped 20 = .ok (.istore 4, 2) := by decide +kernel
theorem dX11_stamped_22 : decode cX11_stamped 22 = .ok (.iconst 0, 1) := by decide +kernel
theorem dX11_stamped_23 : decode cX11_stamped 23 = .ok (.istore 5, 2) := by decide +kernel
theorem dX11_stamped_25 : decode cX11_stamped 25 = .ok (.iload 5, 2) := by decide +kernel
theorem dX11_stamped_27 : decode cX11_stamped 27 = .ok (.bipush 8, 2) := by decide +kernel
theorem dX11_stamped_29 : decode cX11_stamped 29 = .ok (.if_icmp .ge 44, 3) := by decide +kernel
theorem dX11_stamped_32 : decode cX11_stamped 32 = .ok (.iload 4, 2) := by decide +kernel
theorem dX11_stamped_34 : decode cX11_stamped 34 = .ok (.ifCond .ne 26, 3) := by decide +kernel
theorem dX11_stamped_37 : decode cX11_stamped 37 = .ok (.aload_n 0, 1) := by decide +kernel
theorem dX11_stamped_38 : decode cX11_stamped 38 = .ok (.iload_n 1, 1) := by decide +kernel
theorem dX11_stamped_39 : decode cX11_stamped 39 = .ok (.iload_n 3, 1) := by decide +kernel
theorem dX11_stamped_40 : decode cX11_stamped 40 = .ok (.iload 5, 2) := by decide +kernel
theorem dX11_stamped_42 : decode cX11_stamped 42 = .ok (.aload_n 0, 1) := by decide +kernel
theorem dX11_stamped_43 : decode cX11_stamped 43 = .ok (.getfield 90, 3) := by decide +kernel
theorem dX11_stamped_46 : decode cX11_stamped 46 = .ok (.bipush 8, 2) := by decide +kernel
theorem dX11_stamped_48 : decode cX11_stamped 48 = .ok (.iload_n 3, 1) := by decide +kernel
theorem dX11_stamped_49 : decode cX11_stamped 49 = .ok (.imul, 1) := by decide +kernel
theorem dX11_stamped_50 : decode cX11_stamped 50 = .ok (.iload 5, 2) := by decide +kernel
theorem dX11_stamped_52 : decode cX11_stamped 52 = .ok (.iadd, 1) := by decide +kernel
theorem dX11_stamped_53 : decode cX11_stamped 53 = .ok (.iaload, 1) := by decide +kernel
theorem dX11_stamped_54 : decode cX11_stamped 54 = .ok (.invokevirtual 402, 3) := by decide +kernel
theorem dX11_stamped_57 : decode cX11_stamped 57 = .ok (.ifCond .eq 7, 3) := by decide +kernel
theorem dX11_stamped_60 : decode cX11_stamped 60 = .ok (.iconst 1, 1) := by decide +kernel
theorem dX11_stamped_61 : decode cX11_stamped 61 = .ok (.goto 4, 3) := by decide +kernel
theorem dX11_stamped_64 : decode cX11_stamped 64 = .ok (.iconst 0, 1) := by decide +kernel
theorem dX11_stamped_65 : decode cX11_stamped 65 = .ok (.istore 4, 2) := by decide +kernel
theorem dX11_stamped_67 : decode cX11_stamped 67 = .ok (.iinc 5 1, 3) := by decide +kernel
theorem dX11_stamped_70 : decode cX11_stamped 70 = .ok (.goto (-45), 3) := by decide +kernel
theorem dX11_stamped_73 : decode cX11_stamped 73 = .ok (.iload_n 2, 1) := by decide +kernel
theorem dX11_stamped_74 : decode cX11_stamped 74 = .ok (.iload 4, 2) := by decide +kernel
theorem dX11_stamped_76 : decode cX11_stamped 76 = .ok (.ifCond .eq 7, 3) := by decide +kernel
theorem dX11_stamped_79 : decode cX11_stamped 79 = .ok (.iconst 1, 1) := by decide +kernel
theorem dX11_stamped_80 : decode cX11_stamped 80 = .ok (.goto 4, 3) := by decide +kernel
theorem dX11_stamped_83 : decode cX11_stamped 83 = .ok (.iconst 0, 1) := by decide +kernel
theorem dX11_stamped_84 : decode cX11_stamped 84 = .ok (.iadd, 1) := by decide +kernel
theorem dX11_stamped_85 : decode cX11_stamped 85 = .ok (.istore_n 2, 1) := by decide +kernel
theorem dX11_stamped_86 : decode cX11_stamped 86 = .ok (.iinc 3 1, 3) := by decide +kernel
theorem dX11_stamped_89 : decode cX11_stamped 89 = .ok (.goto (-80), 3) := by decide +kernel
theorem dX11_stamped_92 : decode cX11_stamped 92 = .ok (.iload_n 2, 1) := by decide +kernel
theorem dX11_stamped_93 : decode cX11_stamped 93 = .ok (.ireturn, 1) := by decide +kernel
theorem dX11_bitsOf_0 : decode cX11_bitsOf 0 = .ok (.iconst 0, 1) := by decide +kernel
theorem dX11_bitsOf_1 : decode cX11_bitsOf 1 = .ok (.istore_n 1, 1) := by decide +kernel
theorem dX11_bitsOf_2 : decode cX11_bitsOf 2 = .ok (.iload_n 0, 1) := by decide +kernel
theorem dX11_bitsOf_3 : decode cX11_bitsOf 3 = .ok (.istore_n 2, 1) := by decide +kernel
theorem dX11_bitsOf_4 : decode cX11_bitsOf 4 = .ok (.iload_n 2, 1) := by decide +kernel
theorem dX11_bitsOf_5 : decode cX11_bitsOf 5 = .ok (.ifCond .eq 15, 3) := by decide +kernel
theorem dX11_bitsOf_8 : decode cX11_bitsOf 8 = .ok (.iinc 1 1, 3) := by decide +kernel
theorem dX11_bitsOf_11 : decode cX11_bitsOf 11 = .ok (.iload_n 2, 1) := by decide +kernel
theorem dX11_bitsOf_12 : decode cX11_bitsOf 12 = .ok (.iload_n 2, 1) := by decide +kernel
theorem dX11_bitsOf_13 : decode cX11_bitsOf 13 = .ok (.iconst 1, 1) := by decide +kernel
theorem dX11_bitsOf_14 : decode cX11_bitsOf 14 = .ok (.isub, 1) := by decide +kernel
theorem dX11_bitsOf_15 : decode cX11_bitsOf 15 = .ok (.iand, 1) := by decide +kernel
theorem dX11_bitsOf_16 : decode cX11_bitsOf 16 = .ok (.istore_n 2, 1) := by decide +kernel
theorem dX11_bitsOf_17 : decode cX11_bitsOf 17 = .ok (.goto (-13), 3) := by decide +kernel
theorem dX11_bitsOf_20 : decode cX11_bitsOf 20 = .ok (.iload_n 1, 1) := by decide +kernel
theorem dX11_bitsOf_21 : decode cX11_bitsOf 21 = .ok (.ireturn, 1) := by decide +kernel
theorem dX11_count_0 : decode cX11_count 0 = .ok (.aload_n 0, 1) := by decide +kernel
theorem dX11_count_1 : decode cX11_count 1 = .ok (.iconst 0, 1) := by decide +kernel
theorem dX11_count_2 : decode cX11_count 2 = .ok (.putfield 159, 3) := by decide +kernel
theorem dX11_count_5 : decode cX11_count 5 = .ok (.iload_n 1, 1) := by decide +kernel
theorem dX11_count_6 : decode cX11_count 6 = .ok (.tableswitch 109 0 11 #[62, 62, 62, 69, 74, 79, 84, 89, 94, 99, 99, 99], 62) := by decide +kernel
theorem dX11_count_68 : decode cX11_count 68 = .ok (.aload_n 0, 1) := by decide +kernel
theorem dX11_count_69 : decode cX11_count 69 = .ok (.getfield 45, 3) := by decide +kernel
theorem dX11_count_72 : decode cX11_count 72 = .ok (.iload_n 1, 1) := by decide +kernel
theorem dX11_count_73 : decode cX11_count 73 = .ok (.iaload, 1) := by decide +kernel
theorem dX11_count_74 : decode cX11_count 74 = .ok (.ireturn, 1) := by decide +kernel
theorem dX11_count_75 : decode cX11_count 75 = .ok (.aload_n 0, 1) := by decide +kernel
theorem dX11_count_76 : decode cX11_count 76 = .ok (.getfield 317, 3) := by decide +kernel
theorem dX11_count_79 : decode cX11_count 79 = .ok (.ireturn, 1) := by decide +kernel
theorem dX11_count_80 : decode cX11_count 80 = .ok (.aload_n 0, 1) := by decide +kernel
theorem dX11_count_81 : decode cX11_count 81 = .ok (.invokevirtual 399, 3) := by decide +kernel
theorem dX11_count_84 : decode cX11_count 84 = .ok (.ireturn, 1) := by decide +kernel
theorem dX11_count_85 : decode cX11_count 85 = .ok (.aload_n 0, 1) := by decide +kernel
theorem dX11_count_86 : decode cX11_count 86 = .ok (.invokevirtual 406, 3) := by decide +kernel
theorem dX11_count_89 : decode cX11_count 89 = .ok (.ireturn, 1) := by decide +kernel
theorem dX11_count_90 : decode cX11_count 90 = .ok (.aload_n 0, 1) := by decide +kernel
theorem dX11_count_91 : decode cX11_count 91 = .ok (.getfield 323, 3) := by decide +kernel
theorem dX11_count_94 : decode cX11_count 94 = .ok (.ireturn, 1) := by decide +kernel
theorem dX11_count_95 : decode cX11_count 95 = .ok (.aload_n 0, 1) := by decide +kernel
theorem dX11_count_96 : decode cX11_count 96 = .ok (.getfield 326, 3) := by decide +kernel
theorem dX11_count_99 : decode cX11_count 99 = .ok (.ireturn, 1) := by decide +kernel
theorem dX11_count_100 : decode cX11_count 100 = .ok (.aload_n 0, 1) := by decide +kernel
theorem dX11_count_101 : decode cX11_count 101 = .ok (.getfield 172, 3) := by decide +kernel
theorem dX11_count_104 : decode cX11_count 104 = .ok (.ireturn, 1) := by decide +kernel
theorem dX11_count_105 : decode cX11_count 105 = .ok (.aload_n 0, 1) := by decide +kernel
theorem dX11_count_106 : decode cX11_count 106 = .ok (.getfield 77, 3) := by decide +kernel
theorem dX11_count_109 : decode cX11_count 109 = .ok (.iload_n 1, 1) := by decide +kernel
theorem dX11_count_110 : decode cX11_count 110 = .ok (.bipush 9, 2) := by decide +kernel
theorem dX11_count_112 : decode cX11_count 112 = .ok (.isub, 1) := by decide +kernel
theorem dX11_count_113 : decode cX11_count 113 = .ok (.iaload, 1) := by decide +kernel
theorem dX11_count_114 : decode cX11_count 114 = .ok (.ireturn, 1) := by decide +kernel
theorem dX11_count_115 : decode cX11_count 115 = .ok (.aload_n 0, 1) := by decide +kernel
theorem dX11_count_116 : decode cX11_count 116 = .ok (.iconst 1, 1) := by decide +kernel
theorem dX11_count_117 : decode cX11_count 117 = .ok (.invokevirtual 304, 3) := by decide +kernel
theorem dX11_count_120 : decode cX11_count 120 = .ok (.ireturn, 1) := by decide +kernel
theorem dX11_knees_0 : decode cX11_knees 0 = .ok (.aload_n 0, 1) := by decide +kernel
theorem dX11_knees_1 : decode cX11_knees 1 = .ok (.iconst 0, 1) := by decide +kernel
theorem dX11_knees_2 : decode cX11_knees 2 = .ok (.putfield 159, 3) := by decide +kernel
theorem dX11_knees_5 : decode cX11_knees 5 = .ok (.aload_n 0, 1) := by decide +kernel
theorem dX11_knees_6 : decode cX11_knees 6 = .ok (.iload_n 1, 1) := by decide +kernel
theorem dX11_knees_7 : decode cX11_knees 7 = .ok (.invokevirtual 409, 3) := by decide +kernel
theorem dX11_knees_10 : decode cX11_knees 10 = .ok (.ifCond .eq 12, 3) := by decide +kernel
theorem dX11_knees_13 : decode cX11_knees 13 = .ok (.aload_n 0, 1) := by decide +kernel
theorem dX11_knees_14 : decode cX11_knees 14 = .ok (.getfield 48, 3) := by decide +kernel
theorem dX11_knees_17 : decode cX11_knees 17 = .ok (.iload_n 1, 1) := by decide +kernel
theorem dX11_knees_18 : decode cX11_knees 18 = .ok (.iaload, 1) := by decide +kernel
theorem dX11_knees_19 : decode cX11_knees 19 = .ok (.goto 8, 3) := by decide +kernel
theorem dX11_knees_22 : decode cX11_knees 22 = .ok (.aload_n 0, 1) := by decide +kernel
theorem dX11_knees_23 : decode cX11_knees 23 = .ok (.iconst 1, 1) := by decide +kernel
theorem dX11_knees_24 : decode cX11_knees 24 = .ok (.invokevirtual 304, 3) := by decide +kernel
theorem dX11_knees_27 : decode cX11_knees 27 = .ok (.ireturn, 1) := by decide +kernel
theorem dX11_dance_0 : decode cX11_dance 0 = .ok (.aload_n 0, 1) := by decide +kernel
theorem dX11_dance_1 : decode cX11_dance 1 = .ok (.iconst 0, 1) := by decide +kernel
theorem dX11_dance_2 : decode cX11_dance 2 = .ok (.putfield 159, 3) := by decide +kernel
theorem dX11_dance_5 : decode cX11_dance 5 = .ok (.aload_n 0, 1) := by decide +kernel
theorem dX11_dance_6 : decode cX11_dance 6 = .ok (.iload_n 1, 1) := by decide +kernel
theorem dX11_dance_7 : decode cX11_dance 7 = .ok (.invokevirtual 166, 3) := by decide +kernel
theorem dX11_dance_10 : decode cX11_dance 10 = .ok (.ifCond .ne 9, 3) := by decide +kernel
theorem dX11_dance_13 : decode cX11_dance 13 = .ok (.aload_n 0, 1) := by decide +kernel
theorem dX11_dance_14 : decode cX11_dance 14 = .ok (.iconst 1, 1) := by decide +kernel
theorem dX11_dance_15 : decode cX11_dance 15 = .ok (.invokevirtual 304, 3) := by decide +kernel
theorem dX11_dance_18 : decode cX11_dance 18 = .ok (.ireturn, 1) := by decide +kernel
theorem dX11_dance_19 : decode cX11_dance 19 = .ok (.iload_n 2, 1) := by decide +kernel
theorem dX11_dance_20 : decode cX11_dance 20 = .ok (.tableswitch 147 0 7 #[48, 55, 62, 69, 76, 88, 105, 119], 48) := by decide +kernel
theorem dX11_dance_68 : decode cX11_dance 68 = .ok (.aload_n 0, 1) := by decide +kernel
theorem dX11_dance_69 : decode cX11_dance 69 = .ok (.getfield 51, 3) := by decide +kernel
theorem dX11_dance_72 : decode cX11_dance 72 = .ok (.iload_n 1, 1) := by decide +kernel
theorem dX11_dance_73 : decode cX11_dance 73 = .ok (.iaload, 1) := by decide +kernel
theorem dX11_dance_74 : decode cX11_dance 74 = .ok (.ireturn, 1) := by decide +kernel
theorem dX11_dance_75 : decode cX11_dance 75 = .ok (.aload_n 0, 1) := by decide +kernel
theorem dX11_dance_76 : decode cX11_dance 76 = .ok (.getfield 54, 3) := by decide +kernel
theorem dX11_dance_79 : decode cX11_dance 79 = .ok (.iload_n 1, 1) := by decide +kernel
theorem dX11_dance_80 : decode cX11_dance 80 = .ok (.iaload, 1) := by decide +kernel
theorem dX11_dance_81 : decode cX11_dance 81 = .ok (.ireturn, 1) := by decide +kernel
theorem dX11_dance_82 : decode cX11_dance 82 = .ok (.aload_n 0, 1) := by decide +kernel
theorem dX11_dance_83 : decode cX11_dance 83 = .ok (.getfield 57, 3) := by decide +kernel
theorem dX11_dance_86 : decode cX11_dance 86 = .ok (.iload_n 1, 1) := by decide +kernel
theorem dX11_dance_87 : decode cX11_dance 87 = .ok (.iaload, 1) := by decide +kernel
theorem dX11_dance_88 : decode cX11_dance 88 = .ok (.ireturn, 1) := by decide +kernel
theorem dX11_dance_89 : decode cX11_dance 89 = .ok (.aload_n 0, 1) := by decide +kernel
theorem dX11_dance_90 : decode cX11_dance 90 = .ok (.getfield 59, 3) := by decide +kernel
theorem dX11_dance_93 : decode cX11_dance 93 = .ok (.iload_n 1, 1) := by decide +kernel
theorem dX11_dance_94 : decode cX11_dance 94 = .ok (.iaload, 1) := by decide +kernel
theorem dX11_dance_95 : decode cX11_dance 95 = .ok (.ireturn, 1) := by decide +kernel
theorem dX11_dance_96 : decode cX11_dance 96 = .ok (.aload_n 0, 1) := by decide +kernel
theorem dX11_dance_97 : decode cX11_dance 97 = .ok (.getfield 317, 3) := by decide +kernel
theorem dX11_dance_100 : decode cX11_dance 100 = .ok (.aload_n 0, 1) := by decide +kernel
theorem dX11_dance_101 : decode cX11_dance 101 = .ok (.getfield 87, 3) := by decide +kernel
theorem dX11_dance_104 : decode cX11_dance 104 = .ok (.iload_n 1, 1) := by decide +kernel
theorem dX11_dance_105 : decode cX11_dance 105 = .ok (.iaload, 1) := by decide +kernel
theorem dX11_dance_106 : decode cX11_dance 106 = .ok (.isub, 1) := by decide +kernel
theorem dX11_dance_107 : decode cX11_dance 107 = .ok (.ireturn, 1) := by decide +kernel
theorem dX11_dance_108 : decode cX11_dance 108 = .ok (.aload_n 0, 1) := by decide +kernel
theorem dX11_dance_109 : decode cX11_dance 109 = .ok (.getfield 320, 3) := by decide +kernel
theorem dX11_dance_112 : decode cX11_dance 112 = .ok (.iload_n 1, 1) := by decide +kernel
theorem dX11_dance_113 : decode cX11_dance 113 = .ok (.invokestatic 357, 3) := by decide +kernel
theorem dX11_dance_116 : decode cX11_dance 116 = .ok (.ifCond .eq 7, 3) := by decide +kernel
theorem dX11_dance_119 : decode cX11_dance 119 = .ok (.iconst 1, 1) := by decide +kernel
theorem dX11_dance_120 : decode cX11_dance 120 = .ok (.goto 4, 3) := by decide +kernel
theorem dX11_dance_123 : decode cX11_dance 123 = .ok (.iconst 0, 1) := by decide +kernel
theorem dX11_dance_124 : decode cX11_dance 124 = .ok (.ireturn, 1) := by decide +kernel
theorem dX11_dance_125 : decode cX11_dance 125 = .ok (.aload_n 0, 1) := by decide +kernel
theorem dX11_dance_126 : decode cX11_dance 126 = .ok (.iload_n 1, 1) := by decide +kernel
theorem dX11_dance_127 : decode cX11_dance 127 = .ok (.invokevirtual 363, 3) := by decide +kernel
theorem dX11_dance_130 : decode cX11_dance 130 = .ok (.ifCond .eq 7, 3) := by decide +kernel
theorem dX11_dance_133 : decode cX11_dance 133 = .ok (.iconst 1, 1) := by decide +kernel
theorem dX11_dance_134 : decode cX11_dance 134 = .ok (.goto 4, 3) := by decide +kernel
theorem dX11_dance_137 : decode cX11_dance 137 = .ok (.iconst 0, 1) := by decide +kernel
theorem dX11_dance_138 : decode cX11_dance 138 = .ok (.ireturn, 1) := by decide +kernel
theorem dX11_dance_139 : decode cX11_dance 139 = .ok (.aload_n 0, 1) := by decide +kernel
theorem dX11_dance_140 : decode cX11_dance 140 = .ok (.iload_n 1, 1) := by decide +kernel
theorem dX11_dance_141 : decode cX11_dance 141 = .ok (.aload_n 0, 1) := by decide +kernel
theorem dX11_dance_142 : decode cX11_dance 142 = .ok (.getfield 59, 3) := by decide +kernel
theorem dX11_dance_145 : decode cX11_dance 145 = .ok (.iload_n 1, 1) := by decide +kernel
theorem dX11_dance_146 : decode cX11_dance 146 = .ok (.iaload, 1) := by decide +kernel
theorem dX11_dance_147 : decode cX11_dance 147 = .ok (.invokevirtual 351, 3) := by decide +kernel
theorem dX11_dance_150 : decode cX11_dance 150 = .ok (.istore_n 3, 1) := by decide +kernel
theorem dX11_dance_151 : decode cX11_dance 151 = .ok (.iload_n 3, 1) := by decide +kernel
theorem dX11_dance_152 : decode cX11_dance 152 = .ok (.aload_n 0, 1) := by decide +kernel
theorem dX11_dance_153 : decode cX11_dance 153 = .ok (.getfield 59, 3) := by decide +kernel
theorem dX11_dance_156 : decode cX11_dance 156 = .ok (.iload_n 1, 1) := by decide +kernel
theorem dX11_dance_157 : decode cX11_dance 157 = .ok (.iaload, 1) := by decide +kernel
theorem dX11_dance_158 : decode cX11_dance 158 = .ok (.if_icmp .ne 7, 3) := by decide +kernel
theorem dX11_dance_161 : decode cX11_dance 161 = .ok (.iconst (-1), 1) := by decide +kernel
theorem dX11_dance_162 : decode cX11_dance 162 = .ok (.goto 4, 3) := by decide +kernel
theorem dX11_dance_165 : decode cX11_dance 165 = .ok (.iload_n 3, 1) := by decide +kernel
theorem dX11_dance_166 : decode cX11_dance 166 = .ok (.ireturn, 1) := by decide +kernel
theorem dX11_dance_167 : decode cX11_dance 167 = .ok (.aload_n 0, 1) := by decide +kernel
theorem dX11_dance_168 : decode cX11_dance 168 = .ok (.iconst 1, 1) := by decide +kernel
theorem dX11_dance_169 : decode cX11_dance 169 = .ok (.invokevirtual 304, 3) := by decide +kernel
theorem dX11_dance_172 : decode cX11_dance 172 = .ok (.ireturn, 1) := by decide +kernel
theorem dX11_step_0 : decode cX11_step 0 = .ok (.aload_n 0, 1) := by decide +kernel
theorem dX11_step_1 : decode cX11_step 1 = .ok (.iconst 0, 1) := by decide +kernel
theorem dX11_step_2 : decode cX11_step 2 = .ok (.putfield 159, 3) := by decide +kernel
theorem dX11_step_5 : decode cX11_step 5 = .ok (.aload_n 0, 1) := by decide +kernel
theorem dX11_step_6 : decode cX11_step 6 = .ok (.iload_n 1, 1) := by decide +kernel
theorem dX11_step_7 : decode cX11_step 7 = .ok (.iload_n 2, 1) := by decide +kernel
theorem dX11_step_8 : decode cX11_step 8 = .ok (.invokevirtual 412, 3) := by decide +kernel
theorem dX11_step_11 : decode cX11_step 11 = .ok (.ifCond .eq 15, 3) := by decide +kernel
theorem dX11_step_14 : decode cX11_step 14 = .ok (.iload_n 3, 1) := by decide +kernel
theorem dX11_step_15 : decode cX11_step 15 = .ok (.i2l, 1) := by decide +kernel
theorem dX11_step_16 : decode cX11_step 16 = .ok (.lconst 0, 1) := by decide +kernel
theorem dX11_step_17 : decode cX11_step 17 = .ok (.ldc2_w 415, 3) := by decide +kernel
theorem dX11_step_20 : decode cX11_step 20 = .ok (.invokestatic 162, 3) := by decide +kernel
theorem dX11_step_23 : decode cX11_step 23 = .ok (.ifCond .ne 9, 3) := by decide +kernel
theorem dX11_step_26 : decode cX11_step 26 = .ok (.aload_n 0, 1) := by decide +kernel
theorem dX11_step_27 : decode cX11_step 27 = .ok (.iconst 1, 1) := by decide +kernel
theorem dX11_step_28 : decode cX11_step 28 = .ok (.invokevirtual 304, 3) := by decide +kernel
theorem dX11_step_31 : decode cX11_step 31 = .ok (.ireturn, 1) := by decide +kernel
theorem dX11_step_32 : decode cX11_step 32 = .ok (.bipush 10, 2) := by decide +kernel
theorem dX11_step_34 : decode cX11_step 34 = .ok (.iload_n 1, 1) := by decide +kernel
theorem dX11_step_35 : decode cX11_step 35 = .ok (.imul, 1) := by decide +kernel
theorem dX11_step_36 : decode cX11_step 36 = .ok (.iload_n 2, 1) := by decide +kernel
theorem dX11_step_37 : decode cX11_step 37 = .ok (.iadd, 1) := by decide +kernel
theorem dX11_step_38 : decode cX11_step 38 = .ok (.istore 4, 2) := by decide +kernel
theorem dX11_step_40 : decode cX11_step 40 = .ok (.iload_n 3, 1) := by decide +kernel
theorem dX11_step_41 : decode cX11_step 41 = .ok (.ifCond .ne 13, 3) := by decide +kernel
theorem dX11_step_44 : decode cX11_step 44 = .ok (.aload_n 0, 1) := by decide +kernel
theorem dX11_step_45 : decode cX11_step 45 = .ok (.getfield 62, 3) := by decide +kernel
theorem dX11_step_48 : decode cX11_step 48 = .ok (.iload 4, 2) := by decide +kernel
theorem dX11_step_50 : decode cX11_step 50 = .ok (.iaload, 1) := by decide +kernel
theorem dX11_step_51 : decode cX11_step 51 = .ok (.goto 40, 3) := by decide +kernel
theorem dX11_step_54 : decode cX11_step 54 = .ok (.iload_n 3, 1) := by decide +kernel
theorem dX11_step_55 : decode cX11_step 55 = .ok (.iconst 1, 1) := by decide +kernel
theorem dX11_step_56 : decode cX11_step 56 = .ok (.if_icmp .ne 13, 3) := by decide +kernel
theorem dX11_step_59 : decode cX11_step 59 = .ok (.aload_n 0, 1) := by decide +kernel
theorem dX11_step_60 : decode cX11_step 60 = .ok (.getfield 65, 3) := by decide +kernel
theorem dX11_step_63 : decode cX11_step 63 = .ok (.iload 4, 2) := by decide +kernel
theorem dX11_step_65 : decode cX11_step 65 = .ok (.iaload, 1) := by decide +kernel
theorem dX11_step_66 : decode cX11_step 66 = .ok (.goto 25, 3) := by decide +kernel
theorem dX11_step_69 : decode cX11_step 69 = .ok (.iload_n 3, 1) := by decide +kernel
theorem dX11_step_70 : decode cX11_step 70 = .ok (.iconst 2, 1) := by decide +kernel
theorem dX11_step_71 : decode cX11_step 71 = .ok (.if_icmp .ne 13, 3) := by decide +kernel
theorem dX11_step_74 : decode cX11_step 74 = .ok (.aload_n 0, 1) := by decide +kernel
theorem dX11_step_75 : decode cX11_step 75 = .ok (.getfield 68, 3) := by decide +kernel
theorem dX11_step_78 : decode cX11_step 78 = .ok (.iload 4, 2) := by decide +kernel
theorem dX11_step_80 : decode cX11_step 80 = .ok (.iaload, 1) := by decide +kernel
theorem dX11_step_81 : decode cX11_step 81 = .ok (.goto 10, 3) := by decide +kernel
theorem dX11_step_84 : decode cX11_step 84 = .ok (.aload_n 0, 1) := by decide +kernel
theorem dX11_step_85 : decode cX11_step 85 = .ok (.getfield 71, 3) := by decide +kernel
theorem dX11_step_88 : decode cX11_step 88 = .ok (.iload 4, 2) := by decide +kernel
theorem dX11_step_90 : decode cX11_step 90 = .ok (.iaload, 1) := by decide +kernel
theorem dX11_step_91 : decode cX11_step 91 = .ok (.ireturn, 1) := by decide +kernel
theorem dX11_where_0 : decode cX11_where 0 = .ok (.aload_n 0, 1) := by decide +kernel
theorem dX11_where_1 : decode cX11_where 1 = .ok (.iconst 0, 1) := by decide +kernel
theorem dX11_where_2 : decode cX11_where 2 = .ok (.putfield 159, 3) := by decide +kernel
theorem dX11_where_5 : decode cX11_where 5 = .ok (.aload_n 0, 1) := by decide +kernel
theorem dX11_where_6 : decode cX11_where 6 = .ok (.iload_n 1, 1) := by decide +kernel
theorem dX11_where_7 : decode cX11_where 7 = .ok (.invokevirtual 166, 3) := by decide +kernel
theorem dX11_where_10 : decode cX11_where 10 = .ok (.ifCond .eq 59, 3) := by decide +kernel
theorem dX11_where_13 : decode cX11_where 13 = .ok (.iload_n 2, 1) := by decide +kernel
theorem dX11_where_14 : decode cX11_where 14 = .ok (.i2l, 1) := by decide +kernel
theorem dX11_where_15 : decode cX11_where 15 = .ok (.ldc2_w 417, 3) := by decide +kernel
theorem dX11_where_18 : decode cX11_where 18 = .ok (.aload_n 0, 1) := by decide +kernel
theorem dX11_where_19 : decode cX11_where 19 = .ok (.getfield 59, 3) := by decide +kernel
theorem dX11_where_22 : decode cX11_where 22 = .ok (.iload_n 1, 1) := by decide +kernel
theorem dX11_where_23 : decode cX11_where 23 = .ok (.iaload, 1) := by decide +kernel
theorem dX11_where_24 : decode cX11_where 24 = .ok (.iconst 1, 1) := by decide +kernel
theorem dX11_where_25 : decode cX11_where 25 = .ok (.isub, 1) := by decide +kernel
theorem dX11_where_26 : decode cX11_where 26 = .ok (.i2l, 1) := by decide +kernel
theorem dX11_where_27 : decode cX11_where 27 = .ok (.invokestatic 162, 3) := by decide +kernel
theorem dX11_where_30 : decode cX11_where 30 = .ok (.ifCond .eq 39, 3) := by decide +kernel
theorem dX11_where_33 : decode cX11_where 33 = .ok (.iload_n 3, 1) := by decide +kernel
theorem dX11_where_34 : decode cX11_where 34 = .ok (.ifCond .lt 35, 3) := by decide +kernel
theorem dX11_where_37 : decode cX11_where 37 = .ok (.iload_n 3, 1) := by decide +kernel
theorem dX11_where_38 : decode cX11_where 38 = .ok (.iconst 1, 1) := by decide +kernel
theorem dX11_where_39 : decode cX11_where 39 = .ok (.if_icmp .gt 30, 3) := by decide +kernel
theorem dX11_where_42 : decode cX11_where 42 = .ok (.iload 4, 2) := by decide +kernel
theorem dX11_where_44 : decode cX11_where 44 = .ok (.i2l, 1) := by decide +kernel
theorem dX11_where_45 : decode cX11_where 45 = .ok (.lconst 0, 1) := by decide +kernel
theorem dX11_where_46 : decode cX11_where 46 = .ok (.ldc2_w 419, 3) := by decide +kernel
theorem dX11_where_49 : decode cX11_where 49 = .ok (.invokestatic 162, 3) := by decide +kernel
theorem dX11_where_52 : decode cX11_where 52 = .ok (.ifCond .eq 17, 3) := by decide +kernel
theorem dX11_where_55 : decode cX11_where 55 = .ok (.aload_n 0, 1) := by decide +kernel
theorem dX11_where_56 : decode cX11_where 56 = .ok (.iload_n 1, 1) := by decide +kernel
theorem dX11_where_57 : decode cX11_where 57 = .ok (.iload_n 2, 1) := by decide +kernel
theorem dX11_where_58 : decode cX11_where 58 = .ok (.iconst 1, 1) := by decide +kernel
theorem dX11_where_59 : decode cX11_where 59 = .ok (.iadd, 1) := by decide +kernel
theorem dX11_where_60 : decode cX11_where 60 = .ok (.invokevirtual 351, 3) := by decide +kernel
theorem dX11_where_63 : decode cX11_where 63 = .ok (.iload_n 2, 1) := by decide +kernel
theorem dX11_where_64 : decode cX11_where 64 = .ok (.iconst 1, 1) := by decide +kernel
theorem dX11_where_65 : decode cX11_where 65 = .ok (.iadd, 1) := by decide +kernel
theorem dX11_where_66 : decode cX11_where 66 = .ok (.if_icmp .eq 9, 3) := by decide +kernel
theorem dX11_where_69 : decode cX11_where 69 = .ok (.aload_n 0, 1) := by decide +kernel
theorem dX11_where_70 : decode cX11_where 70 = .ok (.iconst 1, 1) := by decide +kernel
theorem dX11_where_71 : decode cX11_where 71 = .ok (.invokevirtual 304, 3) := by decide +kernel
theorem dX11_where_74 : decode cX11_where 74 = .ok (.ireturn, 1) := by decide +kernel
theorem dX11_where_75 : decode cX11_where 75 = .ok (.iload 4, 2) := by decide +kernel
theorem dX11_where_77 : decode cX11_where 77 = .ok (.ifCond .ne 12, 3) := by decide +kernel
theorem dX11_where_80 : decode cX11_where 80 = .ok (.aload_n 0, 1) := by decide +kernel
theorem dX11_where_81 : decode cX11_where 81 = .ok (.getfield 96, 3) := by decide +kernel
theorem dX11_where_84 : decode cX11_where 84 = .ok (.iload_n 3, 1) := by decide +kernel
theorem dX11_where_85 : decode cX11_where 85 = .ok (.iaload, 1) := by decide +kernel
theorem dX11_where_86 : decode cX11_where 86 = .ok (.goto 24, 3) := by decide +kernel
theorem dX11_where_89 : decode cX11_where 89 = .ok (.iload 4, 2) := by decide +kernel
theorem dX11_where_91 : decode cX11_where 91 = .ok (.iconst 1, 1) := by decide +kernel
theorem dX11_where_92 : decode cX11_where 92 = .ok (.if_icmp .ne 12, 3) := by decide +kernel
theorem dX11_where_95 : decode cX11_where 95 = .ok (.aload_n 0, 1) := by decide +kernel
theorem dX11_where_96 : decode cX11_where 96 = .ok (.getfield 99, 3) := by decide +kernel
theorem dX11_where_99 : decode cX11_where 99 = .ok (.iload_n 3, 1) := by decide +kernel
theorem dX11_where_100 : decode cX11_where 100 = .ok (.iaload, 1) := by decide +kernel
theorem dX11_where_101 : decode cX11_where 101 = .ok (.goto 9, 3) := by decide +kernel
theorem dX11_where_104 : decode cX11_where 104 = .ok (.aload_n 0, 1) := by decide +kernel
theorem dX11_where_105 : decode cX11_where 105 = .ok (.getfield 102, 3) := by decide +kernel
theorem dX11_where_108 : decode cX11_where 108 = .ok (.iload_n 3, 1) := by decide +kernel
theorem dX11_where_109 : decode cX11_where 109 = .ok (.iaload, 1) := by decide +kernel
theorem dX11_where_110 : decode cX11_where 110 = .ok (.ireturn, 1) := by decide +kernel
theorem dX11_bound_0 : decode cX11_bound 0 = .ok (.aload_n 0, 1) := by decide +kernel
theorem dX11_bound_1 : decode cX11_bound 1 = .ok (.iconst 0, 1) := by decide +kernel
theorem dX11_bound_2 : decode cX11_bound 2 = .ok (.putfield 159, 3) := by decide +kernel
theorem dX11_bound_5 : decode cX11_bound 5 = .ok (.aload_n 0, 1) := by decide +kernel
theorem dX11_bound_6 : decode cX11_bound 6 = .ok (.iload_n 1, 1) := by decide +kernel
theorem dX11_bound_7 : decode cX11_bound 7 = .ok (.invokevirtual 409, 3) := by decide +kernel
theorem dX11_bound_10 : decode cX11_bound 10 = .ok (.ifCond .eq 23, 3) := by decide +kernel
theorem dX11_bound_13 : decode cX11_bound 13 = .ok (.iload_n 2, 1) := by decide +kernel
theorem dX11_bound_14 : decode cX11_bound 14 = .ok (.invokestatic 421, 3) := by decide +kernel
theorem dX11_bound_17 : decode cX11_bound 17 = .ok (.ifCond .eq 16, 3) := by decide +kernel
theorem dX11_bound_20 : decode cX11_bound 20 = .ok (.aload_n 0, 1) := by decide +kernel
theorem dX11_bound_21 : decode cX11_bound 21 = .ok (.aload_n 0, 1) := by decide +kernel
theorem dX11_bound_22 : decode cX11_bound 22 = .ok (.invokevirtual 399, 3) := by decide +kernel
theorem dX11_bound_25 : decode cX11_bound 25 = .ok (.iload_n 1, 1) := by decide +kernel
theorem dX11_bound_26 : decode cX11_bound 26 = .ok (.iload_n 2, 1) := by decide +kernel
theorem dX11_bound_27 : decode cX11_bound 27 = .ok (.invokevirtual 396, 3) := by decide +kernel
theorem dX11_bound_30 : decode cX11_bound 30 = .ok (.goto 8, 3) := by decide +kernel
theorem dX11_bound_33 : decode cX11_bound 33 = .ok (.aload_n 0, 1) := by decide +kernel
theorem dX11_bound_34 : decode cX11_bound 34 = .ok (.iconst 1, 1) := by decide +kernel
theorem dX11_bound_35 : decode cX11_bound 35 = .ok (.invokevirtual 304, 3) := by decide +kernel
theorem dX11_bound_38 : decode cX11_bound 38 = .ok (.ireturn, 1) := by decide +kernel
theorem dX11_clausesOf_0 : decode cX11_clausesOf 0 = .ok (.iconst 0, 1) := by decide +kernel
theorem dX11_clausesOf_1 : decode cX11_clausesOf 1 = .ok (.istore 4, 2) := by decide +kernel
theorem dX11_clausesOf_3 : decode cX11_clausesOf 3 = .ok (.iconst 0, 1) := by decide +kernel
theorem dX11_clausesOf_4 : decode cX11_clausesOf 4 = .ok (.istore 5, 2) := by decide +kernel
theorem dX11_clausesOf_6 : decode cX11_clausesOf 6 = .ok (.iload 5, 2) := by decide +kernel
theorem dX11_clausesOf_8 : decode cX11_clausesOf 8 = .ok (.aload_n 0, 1) := by decide +kernel
theorem dX11_clausesOf_9 : decode cX11_clausesOf 9 = .ok (.getfield 59, 3) := by decide +kernel
theorem dX11_clausesOf_12 : decode cX11_clausesOf 12 = .ok (.iload_n 1, 1) := by decide +kernel
theorem dX11_clausesOf_13 : decode cX11_clausesOf 13 = .ok (.iaload, 1) := by decide +kernel
theorem dX11_clausesOf_14 : decode cX11_clausesOf 14 = .ok (.if_icmp .ge 124, 3) := by decide +kernel
theorem dX11_clausesOf_17 : decode cX11_clausesOf 17 = .ok (.bipush 10, 2) := by decide +kernel
theorem dX11_clausesOf_19 : decode cX11_clausesOf 19 = .ok (.iload_n 1, 1) := by decide +kernel
theorem dX11_clausesOf_20 : decode cX11_clausesOf 20 = .ok (.imul, 1) := by decide +kernel
theorem dX11_clausesOf_21 : decode cX11_clausesOf 21 = .ok (.iload 5, 2) := by decide +kernel
theorem dX11_clausesOf_23 : decode cX11_clausesOf 23 = .ok (.iadd, 1) := by decide +kernel
theorem dX11_clausesOf_24 : decode cX11_clausesOf 24 = .ok (.istore 6, 2) := by decide +kernel
theorem dX11_clausesOf_26 : decode cX11_clausesOf 26 = .ok (.iload_n 3, 1) := by decide +kernel
theorem dX11_clausesOf_27 : decode cX11_clausesOf 27 = .ok (.ifCond .ne 14, 3) := by decide +kernel
theorem dX11_clausesOf_30 : decode cX11_clausesOf 30 = .ok (.aload_n 0, 1) := by decide +kernel
theorem dX11_clausesOf_31 : decode cX11_clausesOf 31 = .ok (.iload_n 1, 1) := by decide +kernel
theorem dX11_clausesOf_32 : decode cX11_clausesOf 32 = .ok (.iload 5, 2) := by decide +kernel
theorem dX11_clausesOf_34 : decode cX11_clausesOf 34 = .ok (.iload_n 2, 1) := by decide +kernel
theorem dX11_clausesOf_35 : decode cX11_clausesOf 35 = .ok (.invokevirtual 386, 3) := by decide +kernel
theorem dX11_clausesOf_38 : decode cX11_clausesOf 38 = .ok (.goto 77, 3) := by decide +kernel
theorem dX11_clausesOf_41 : decode cX11_clausesOf 41 = .ok (.iload_n 3, 1) := by decide +kernel
theorem dX11_clausesOf_42 : decode cX11_clausesOf 42 = .ok (.iconst 1, 1) := by decide +kernel
theorem dX11_clausesOf_43 : decode cX11_clausesOf 43 = .ok (.if_icmp .ne 45, 3) := by decide +kernel
theorem dX11_clausesOf_46 : decode cX11_clausesOf 46 = .ok (.aload_n 0, 1) := by decide +kernel
theorem dX11_clausesOf_47 : decode cX11_clausesOf 47 = .ok (.iload_n 1, 1) := by decide +kernel
theorem dX11_clausesOf_48 : decode cX11_clausesOf 48 = .ok (.iload 5, 2) := by decide +kernel
theorem dX11_clausesOf_50 : decode cX11_clausesOf 50 = .ok (.invokevirtual 377, 3) := by decide +kernel
theorem dX11_clausesOf_53 : decode cX11_clausesOf 53 = .ok (.ifCond .eq 31, 3) := by decide +kernel
theorem dX11_clausesOf_56 : decode cX11_clausesOf 56 = .ok (.aload_n 0, 1) := by decide +kernel
theorem dX11_clausesOf_57 : decode cX11_clausesOf 57 = .ok (.getfield 62, 3) := by decide +kernel
theorem dX11_clausesOf_60 : decode cX11_clausesOf 60 = .ok (.iload 6, 2) := by decide +kernel
theorem dX11_clausesOf_62 : decode cX11_clausesOf 62 = .ok (.iaload, 1) := by decide +kernel
theorem dX11_clausesOf_63 : decode cX11_clausesOf 63 = .ok (.iconst 2, 1) := by decide +kernel
theorem dX11_clausesOf_64 : decode cX11_clausesOf 64 = .ok (.if_icmp .ne 20, 3) := by decide +kernel
theorem dX11_clausesOf_67 : decode cX11_clausesOf 67 = .ok (.aload_n 0, 1) := by decide +kernel
theorem dX11_clausesOf_68 : decode cX11_clausesOf 68 = .ok (.getfield 65, 3) := by decide +kernel
theorem dX11_clausesOf_71 : decode cX11_clausesOf 71 = .ok (.iload 6, 2) := by decide +kernel
theorem dX11_clausesOf_73 : decode cX11_clausesOf 73 = .ok (.iaload, 1) := by decide +kernel
theorem dX11_clausesOf_74 : decode cX11_clausesOf 74 = .ok (.iconst 1, 1) := by decide +kernel
theorem dX11_clausesOf_75 : decode cX11_clausesOf 75 = .ok (.iload_n 2, 1) := by decide +kernel
theorem dX11_clausesOf_76 : decode cX11_clausesOf 76 = .ok (.isub, 1) := by decide +kernel
theorem dX11_clausesOf_77 : decode cX11_clausesOf 77 = .ok (.if_icmp .ne 7, 3) := by decide +kernel
theorem dX11_clausesOf_80 : decode cX11_clausesOf 80 = .ok (.iconst 1, 1) := by decide +kernel
theorem dX11_clausesOf_81 : decode cX11_clausesOf 81 = .ok (.goto 34, 3) := by decide +kernel
theorem dX11_clausesOf_84 : decode cX11_clausesOf 84 = .ok (.iconst 0, 1) := by decide +kernel
theorem dX11_clausesOf_85 : decode cX11_clausesOf 85 = .ok (.goto 30, 3) := by decide +kernel
theorem dX11_clausesOf_88 : decode cX11_clausesOf 88 = .ok (.aload_n 0, 1) := by decide +kernel
theorem dX11_clausesOf_89 : decode cX11_clausesOf 89 = .ok (.getfield 62, 3) := by decide +kernel
theorem dX11_clausesOf_92 : decode cX11_clausesOf 92 = .ok (.iload 6, 2) := by decide +kernel
theorem dX11_clausesOf_94 : decode cX11_clausesOf 94 = .ok (.iaload, 1) := by decide +kernel
theorem dX11_clausesOf_95 : decode cX11_clausesOf 95 = .ok (.iconst 3, 1) := by decide +kernel
theorem dX11_clausesOf_96 : decode cX11_clausesOf 96 = .ok (.if_icmp .ne 18, 3) := by decide +kernel
theorem dX11_clausesOf_99 : decode cX11_clausesOf 99 = .ok (.aload_n 0, 1) := by decide +kernel
theorem dX11_clausesOf_100 : decode cX11_clausesOf 100 = .ok (.iload_n 1, 1) := by decide +kernel
theorem dX11_clausesOf_101 : decode cX11_clausesOf 101 = .ok (.iload 5, 2) := by decide +kernel
theorem dX11_clausesOf_103 : decode cX11_clausesOf 103 = .ok (.iload_n 2, 1) := by decide +kernel
theorem dX11_clausesOf_104 : decode cX11_clausesOf 104 = .ok (.invokevirtual 373, 3) := by decide +kernel
theorem dX11_clausesOf_107 : decode cX11_clausesOf 107 = .ok (.ifCond .eq 7, 3) := by decide +kernel
theorem dX11_clausesOf_110 : decode cX11_clausesOf 110 = .ok (.iconst 1, 1) := by decide +kernel
theorem dX11_clausesOf_111 : decode cX11_clausesOf 111 = .ok (.goto 4, 3) := by decide +kernel
theorem dX11_clausesOf_114 : decode cX11_clausesOf 114 = .ok (.iconst 0, 1) := by decide +kernel
theorem dX11_clausesOf_115 : decode cX11_clausesOf 115 = .ok (.istore 7, 2) := by decide +kernel
theorem dX11_clausesOf_117 : decode cX11_clausesOf 117 = .ok (.iload 4, 2) := by decide +kernel
theorem dX11_clausesOf_119 : decode cX11_clausesOf 119 = .ok (.iload 7, 2) := by decide +kernel
theorem dX11_clausesOf_121 : decode cX11_clausesOf 121 = .ok (.ifCond .eq 7, 3) := by decide +kernel
theorem dX11_clausesOf_124 : decode cX11_clausesOf 124 = .ok (.iconst 1, 1) := by decide +kernel
theorem dX11_clausesOf_125 : decode cX11_clausesOf 125 = .ok (.goto 4, 3) := by decide +kernel
theorem dX11_clausesOf_128 : decode cX11_clausesOf 128 = .ok (.iconst 0, 1) := by decide +kernel
theorem dX11_clausesOf_129 : decode cX11_clausesOf 129 = .ok (.iadd, 1) := by decide +kernel
theorem dX11_clausesOf_130 : decode cX11_clausesOf 130 = .ok (.istore 4, 2) := by decide +kernel
theorem dX11_clausesOf_132 : decode cX11_clausesOf 132 = .ok (.iinc 5 1, 3) := by decide +kernel
theorem dX11_clausesOf_135 : decode cX11_clausesOf 135 = .ok (.goto (-129), 3) := by decide +kernel
theorem dX11_clausesOf_138 : decode cX11_clausesOf 138 = .ok (.iload 4, 2) := by decide +kernel
theorem dX11_clausesOf_140 : decode cX11_clausesOf 140 = .ok (.ireturn, 1) := by decide +kernel
theorem dX11_clauses_0 : decode cX11_clauses 0 = .ok (.aload_n 0, 1) := by decide +kernel
theorem dX11_clauses_1 : decode cX11_clauses 1 = .ok (.iconst 0, 1) := by decide +kernel
theorem dX11_clauses_2 : decode cX11_clauses 2 = .ok (.putfield 159, 3) := by decide +kernel
theorem dX11_clauses_5 : decode cX11_clauses 5 = .ok (.aload_n 0, 1) := by decide +kernel
theorem dX11_clauses_6 : decode cX11_clauses 6 = .ok (.iload_n 1, 1) := by decide +kernel
theorem dX11_clauses_7 : decode cX11_clauses 7 = .ok (.invokevirtual 409, 3) := by decide +kernel
theorem dX11_clauses_10 : decode cX11_clauses 10 = .ok (.ifCond .eq 15, 3) := by decide +kernel
theorem dX11_clauses_13 : decode cX11_clauses 13 = .ok (.iload_n 2, 1) := by decide +kernel
theorem dX11_clauses_14 : decode cX11_clauses 14 = .ok (.i2l, 1) := by decide +kernel
theorem dX11_clauses_15 : decode cX11_clauses 15 = .ok (.lconst 0, 1) := by decide +kernel
theorem dX11_clauses_16 : decode cX11_clauses 16 = .ok (.ldc2_w 419, 3) := by decide +kernel
theorem dX11_clauses_19 : decode cX11_clauses 19 = .ok (.invokestatic 162, 3) := by decide +kernel
theorem dX11_clauses_22 : decode cX11_clauses 22 = .ok (.ifCond .ne 9, 3) := by decide +kernel
theorem dX11_clauses_25 : decode cX11_clauses 25 = .ok (.aload_n 0, 1) := by decide +kernel
theorem dX11_clauses_26 : decode cX11_clauses 26 = .ok (.iconst 1, 1) := by decide +kernel
theorem dX11_clauses_27 : decode cX11_clauses 27 = .ok (.invokevirtual 304, 3) := by decide +kernel
theorem dX11_clauses_30 : decode cX11_clauses 30 = .ok (.ireturn, 1) := by decide +kernel
theorem dX11_clauses_31 : decode cX11_clauses 31 = .ok (.iconst 0, 1) := by decide +kernel
theorem dX11_clauses_32 : decode cX11_clauses 32 = .ok (.istore_n 3, 1) := by decide +kernel
theorem dX11_clauses_33 : decode cX11_clauses 33 = .ok (.iconst 0, 1) := by decide +kernel
theorem dX11_clauses_34 : decode cX11_clauses 34 = .ok (.istore 4, 2) := by decide +kernel
theorem dX11_clauses_36 : decode cX11_clauses 36 = .ok (.iload 4, 2) := by decide +kernel
theorem dX11_clauses_38 : decode cX11_clauses 38 = .ok (.aload_n 0, 1) := by decide +kernel
theorem dX11_clauses_39 : decode cX11_clauses 39 = .ok (.getfield 45, 3) := by decide +kernel
theorem dX11_clauses_42 : decode cX11_clauses 42 = .ok (.iconst 1, 1) := by decide +kernel
theorem dX11_clauses_43 : decode cX11_clauses 43 = .ok (.iaload, 1) := by decide +kernel
theorem dX11_clauses_44 : decode cX11_clauses 44 = .ok (.if_icmp .ge 46, 3) := by decide +kernel
theorem dX11_clauses_47 : decode cX11_clauses 47 = .ok (.aload_n 0, 1) := by decide +kernel
theorem dX11_clauses_48 : decode cX11_clauses 48 = .ok (.iload_n 1, 1) := by decide +kernel
theorem dX11_clauses_49 : decode cX11_clauses 49 = .ok (.iload 4, 2) := by decide +kernel
theorem dX11_clauses_51 : decode cX11_clauses 51 = .ok (.invokevirtual 383, 3) := by decide +kernel
theorem dX11_clauses_54 : decode cX11_clauses 54 = .ok (.iconst (-1), 1) := by decide +kernel
theorem dX11_clauses_55 : decode cX11_clauses 55 = .ok (.if_icmp .eq 29, 3) := by decide +kernel
theorem dX11_clauses_58 : decode cX11_clauses 58 = .ok (.aload_n 0, 1) := by decide +kernel
theorem dX11_clauses_59 : decode cX11_clauses 59 = .ok (.iload 4, 2) := by decide +kernel
theorem dX11_clauses_61 : decode cX11_clauses 61 = .ok (.invokevirtual 363, 3) := by decide +kernel
theorem dX11_clauses_64 : decode cX11_clauses 64 = .ok (.ifCond .eq 20, 3) := by decide +kernel
theorem dX11_clauses_67 : decode cX11_clauses 67 = .ok (.iload_n 3, 1) := by decide +kernel
theorem dX11_clauses_68 : decode cX11_clauses 68 = .ok (.aload_n 0, 1) := by decide +kernel
theorem dX11_clauses_69 : decode cX11_clauses 69 = .ok (.iload 4, 2) := by decide +kernel
theorem dX11_clauses_71 : decode cX11_clauses 71 = .ok (.aload_n 0, 1) := by decide +kernel
theorem dX11_clauses_72 : decode cX11_clauses 72 = .ok (.iload_n 1, 1) := by decide +kernel
theorem dX11_clauses_73 : decode cX11_clauses 73 = .ok (.iload 4, 2) := by decide +kernel
theorem dX11_clauses_75 : decode cX11_clauses 75 = .ok (.invokevirtual 383, 3) := by decide +kernel
theorem dX11_clauses_78 : decode cX11_clauses 78 = .ok (.iload_n 2, 1) := by decide +kernel
theorem dX11_clauses_79 : decode cX11_clauses 79 = .ok (.invokevirtual 424, 3) := by decide +kernel
theorem dX11_clauses_82 : decode cX11_clauses 82 = .ok (.iadd, 1) := by decide +kernel
theorem dX11_clauses_83 : decode cX11_clauses 83 = .ok (.istore_n 3, 1) := by decide +kernel
theorem dX11_clauses_84 : decode cX11_clauses 84 = .ok (.iinc 4 1, 3) := by decide +kernel
theorem dX11_clauses_87 : decode cX11_clauses 87 = .ok (.goto (-51), 3) := by decide +kernel
theorem dX11_clauses_90 : decode cX11_clauses 90 = .ok (.iload_n 3, 1) := by decide +kernel
theorem dX11_clauses_91 : decode cX11_clauses 91 = .ok (.ireturn, 1) := by decide +kernel
theorem dX11_done_0 : decode cX11_done 0 = .ok (.aload_n 0, 1) := by decide +kernel
theorem dX11_done_1 : decode cX11_done 1 = .ok (.iconst 0, 1) := by decide +kernel
theorem dX11_done_2 : decode cX11_done 2 = .ok (.putfield 159, 3) := by decide +kernel
theorem dX11_done_5 : decode cX11_done 5 = .ok (.aload_n 0, 1) := by decide +kernel
theorem dX11_done_6 : decode cX11_done 6 = .ok (.iload_n 1, 1) := by decide +kernel
theorem dX11_done_7 : decode cX11_done 7 = .ok (.invokevirtual 409, 3) := by decide +kernel
theorem dX11_done_10 : decode cX11_done 10 = .ok (.ifCond .eq 19, 3) := by decide +kernel
theorem dX11_done_13 : decode cX11_done 13 = .ok (.iload_n 2, 1) := by decide +kernel
theorem dX11_done_14 : decode cX11_done 14 = .ok (.invokestatic 421, 3) := by decide +kernel
theorem dX11_done_17 : decode cX11_done 17 = .ok (.ifCond .eq 12, 3) := by decide +kernel
theorem dX11_done_20 : decode cX11_done 20 = .ok (.iload_n 3, 1) := by decide +kernel
theorem dX11_done_21 : decode cX11_done 21 = .ok (.ifCond .lt 8, 3) := by decide +kernel
theorem dX11_done_24 : decode cX11_done 24 = .ok (.iload_n 3, 1) := by decide +kernel
theorem dX11_done_25 : decode cX11_done 25 = .ok (.iconst 1, 1) := by decide +kernel
theorem dX11_done_26 : decode cX11_done 26 = .ok (.if_icmp .le 9, 3) := by decide +kernel
theorem dX11_done_29 : decode cX11_done 29 = .ok (.aload_n 0, 1) := by decide +kernel
theorem dX11_done_30 : decode cX11_done 30 = .ok (.iconst 1, 1) := by decide +kernel
theorem dX11_done_31 : decode cX11_done 31 = .ok (.invokevirtual 304, 3) := by decide +kernel
theorem dX11_done_34 : decode cX11_done 34 = .ok (.ireturn, 1) := by decide +kernel
theorem dX11_done_35 : decode cX11_done 35 = .ok (.aload_n 0, 1) := by decide +kernel
theorem dX11_done_36 : decode cX11_done 36 = .ok (.getfield 90, 3) := by decide +kernel
theorem dX11_done_39 : decode cX11_done 39 = .ok (.bipush 8, 2) := by decide +kernel
theorem dX11_done_41 : decode cX11_done 41 = .ok (.iload_n 1, 1) := by decide +kernel
theorem dX11_done_42 : decode cX11_done 42 = .ok (.imul, 1) := by decide +kernel
theorem dX11_done_43 : decode cX11_done 43 = .ok (.iload_n 2, 1) := by decide +kernel
theorem dX11_done_44 : decode cX11_done 44 = .ok (.iadd, 1) := by decide +kernel
theorem dX11_done_45 : decode cX11_done 45 = .ok (.iaload, 1) := by decide +kernel
theorem dX11_done_46 : decode cX11_done 46 = .ok (.istore 4, 2) := by decide +kernel
theorem dX11_done_48 : decode cX11_done 48 = .ok (.iload_n 3, 1) := by decide +kernel
theorem dX11_done_49 : decode cX11_done 49 = .ok (.ifCond .ne 8, 3) := by decide +kernel
theorem dX11_done_52 : decode cX11_done 52 = .ok (.iload 4, 2) := by decide +kernel
theorem dX11_done_54 : decode cX11_done 54 = .ok (.goto 23, 3) := by decide +kernel
theorem dX11_done_57 : decode cX11_done 57 = .ok (.aload_n 0, 1) := by decide +kernel
theorem dX11_done_58 : decode cX11_done 58 = .ok (.aload_n 0, 1) := by decide +kernel
theorem dX11_done_59 : decode cX11_done 59 = .ok (.invokevirtual 399, 3) := by decide +kernel
theorem dX11_done_62 : decode cX11_done 62 = .ok (.iload_n 1, 1) := by decide +kernel
theorem dX11_done_63 : decode cX11_done 63 = .ok (.iload_n 2, 1) := by decide +kernel
theorem dX11_done_64 : decode cX11_done 64 = .ok (.iload 4, 2) := by decide +kernel
theorem dX11_done_66 : decode cX11_done 66 = .ok (.invokevirtual 402, 3) := by decide +kernel
theorem dX11_done_69 : decode cX11_done 69 = .ok (.ifCond .eq 7, 3) := by decide +kernel
theorem dX11_done_72 : decode cX11_done 72 = .ok (.iconst 1, 1) := by decide +kernel
theorem dX11_done_73 : decode cX11_done 73 = .ok (.goto 4, 3) := by decide +kernel
theorem dX11_done_76 : decode cX11_done 76 = .ok (.iconst 0, 1) := by decide +kernel
theorem dX11_done_77 : decode cX11_done 77 = .ok (.ireturn, 1) := by decide +kernel
theorem dX11_refuse_0 : decode cX11_refuse 0 = .ok (.aload_n 0, 1) := by decide +kernel
theorem dX11_refuse_1 : decode cX11_refuse 1 = .ok (.getfield 77, 3) := by decide +kernel
theorem dX11_refuse_4 : decode cX11_refuse 4 = .ok (.iload_n 1, 1) := by decide +kernel
theorem dX11_refuse_5 : decode cX11_refuse 5 = .ok (.dup2, 1) := by decide +kernel
theorem dX11_refuse_6 : decode cX11_refuse 6 = .ok (.iaload, 1) := by decide +kernel
theorem dX11_refuse_7 : decode cX11_refuse 7 = .ok (.iconst 1, 1) := by decide +kernel
theorem dX11_refuse_8 : decode cX11_refuse 8 = .ok (.iadd, 1) := by decide +kernel
theorem dX11_refuse_9 : decode cX11_refuse 9 = .ok (.iastore, 1) := by decide +kernel
theorem dX11_refuse_10 : decode cX11_refuse 10 = .ok (.iconst (-1), 1) := by decide +kernel
theorem dX11_refuse_11 : decode cX11_refuse 11 = .ok (.ireturn, 1) := by decide +kernel
theorem dX11_keep_0 : decode cX11_keep 0 = .ok (.aload_n 0, 1) := by decide +kernel
theorem dX11_keep_1 : decode cX11_keep 1 = .ok (.getfield 323, 3) := by decide +kernel
theorem dX11_keep_4 : decode cX11_keep 4 = .ok (.bipush 40, 2) := by decide +kernel
theorem dX11_keep_6 : decode cX11_keep 6 = .ok (.if_icmp .ne 48, 3) := by decide +kernel
theorem dX11_keep_9 : decode cX11_keep 9 = .ok (.sipush 138, 3) := by decide +kernel
theorem dX11_keep_12 : decode cX11_keep 12 = .ok (.istore_n 1, 1) := by decide +kernel
theorem dX11_keep_13 : decode cX11_keep 13 = .ok (.iload_n 1, 1) := by decide +kernel
theorem dX11_keep_14 : decode cX11_keep 14 = .ok (.aload_n 0, 1) := by decide +kernel
theorem dX11_keep_15 : decode cX11_keep 15 = .ok (.getfield 93, 3) := by decide +kernel
theorem dX11_keep_18 : decode cX11_keep 18 = .ok (.arraylength, 1) := by decide +kernel
theorem dX11_keep_19 : decode cX11_keep 19 = .ok (.if_icmp .ge 25, 3) := by decide +kernel
theorem dX11_keep_22 : decode cX11_keep 22 = .ok (.aload_n 0, 1) := by decide +kernel
theorem dX11_keep_23 : decode cX11_keep 23 = .ok (.getfield 93, 3) := by decide +kernel
theorem dX11_keep_26 : decode cX11_keep 26 = .ok (.iload_n 1, 1) := by decide +kernel
theorem dX11_keep_27 : decode cX11_keep 27 = .ok (.sipush 138, 3) := by decide +kernel
theorem dX11_keep_30 : decode cX11_keep 30 = .ok (.isub, 1) := by decide +kernel
theorem dX11_keep_31 : decode cX11_keep 31 = .ok (.aload_n 0, 1) := by decide +kernel
theorem dX11_keep_32 : decode cX11_keep 32 = .ok (.getfield 93, 3) := by decide +kernel
theorem dX11_keep_35 : decode cX11_keep 35 = .ok (.iload_n 1, 1) := by decide +kernel
theorem dX11_keep_36 : decode cX11_keep 36 = .ok (.iaload, 1) := by decide +kernel
theorem dX11_keep_37 : decode cX11_keep 37 = .ok (.iastore, 1) := by decide +kernel
theorem dX11_keep_38 : decode cX11_keep 38 = .ok (.iinc 1 1, 3) := by decide +kernel
theorem dX11_keep_41 : decode cX11_keep 41 = .ok (.goto (-28), 3) := by decide +kernel
theorem dX11_keep_44 : decode cX11_keep 44 = .ok (.aload_n 0, 1) := by decide +kernel
theorem dX11_keep_45 : decode cX11_keep 45 = .ok (.dup, 1) := by decide +kernel
theorem dX11_keep_46 : decode cX11_keep 46 = .ok (.getfield 323, 3) := by decide +kernel
theorem dX11_keep_49 : decode cX11_keep 49 = .ok (.iconst 1, 1) := by decide +kernel
theorem dX11_keep_50 : decode cX11_keep 50 = .ok (.isub, 1) := by decide +kernel
theorem dX11_keep_51 : decode cX11_keep 51 = .ok (.putfield 323, 3) := by decide +kernel
theorem dX11_keep_54 : decode cX11_keep 54 = .ok (.aload_n 0, 1) := by decide +kernel
theorem dX11_keep_55 : decode cX11_keep 55 = .ok (.aload_n 0, 1) := by decide +kernel
theorem dX11_keep_56 : decode cX11_keep 56 = .ok (.getfield 93, 3) := by decide +kernel
theorem dX11_keep_59 : decode cX11_keep 59 = .ok (.sipush 138, 3) := by decide +kernel
theorem dX11_keep_62 : decode cX11_keep 62 = .ok (.aload_n 0, 1) := by decide +kernel
theorem dX11_keep_63 : decode cX11_keep 63 = .ok (.getfield 323, 3) := by decide +kernel
theorem dX11_keep_66 : decode cX11_keep 66 = .ok (.imul, 1) := by decide +kernel
theorem dX11_keep_67 : decode cX11_keep 67 = .ok (.invokevirtual 427, 3) := by decide +kernel
theorem dX11_keep_70 : decode cX11_keep 70 = .ok (.aload_n 0, 1) := by decide +kernel
theorem dX11_keep_71 : decode cX11_keep 71 = .ok (.dup, 1) := by decide +kernel
theorem dX11_keep_72 : decode cX11_keep 72 = .ok (.getfield 323, 3) := by decide +kernel
theorem dX11_keep_75 : decode cX11_keep 75 = .ok (.iconst 1, 1) := by decide +kernel
theorem dX11_keep_76 : decode cX11_keep 76 = .ok (.iadd, 1) := by decide +kernel
theorem dX11_keep_77 : decode cX11_keep 77 = .ok (.putfield 323, 3) := by decide +kernel
theorem dX11_keep_80 : decode cX11_keep 80 = .ok (.return_, 1) := by decide +kernel
theorem dX11_years_0 : decode cX11_years 0 = .ok (.aload_n 0, 1) := by decide +kernel
theorem dX11_years_1 : decode cX11_years 1 = .ok (.iconst 0, 1) := by decide +kernel
theorem dX11_years_2 : decode cX11_years 2 = .ok (.putfield 159, 3) := by decide +kernel
theorem dX11_years_5 : decode cX11_years 5 = .ok (.iload_n 1, 1) := by decide +kernel
theorem dX11_years_6 : decode cX11_years 6 = .ok (.i2l, 1) := by decide +kernel
theorem dX11_years_7 : decode cX11_years 7 = .ok (.lconst 1, 1) := by decide +kernel
theorem dX11_years_8 : decode cX11_years 8 = .ok (.ldc2_w 431, 3) := by decide +kernel
theorem dX11_years_11 : decode cX11_years 11 = .ok (.invokestatic 162, 3) := by decide +kernel
theorem dX11_years_14 : decode cX11_years 14 = .ok (.ifCond .eq 15, 3) := by decide +kernel
theorem dX11_years_17 : decode cX11_years 17 = .ok (.aload_n 0, 1) := by decide +kernel
theorem dX11_years_18 : decode cX11_years 18 = .ok (.getfield 317, 3) := by decide +kernel
theorem dX11_years_21 : decode cX11_years 21 = .ok (.iload_n 1, 1) := by decide +kernel
theorem dX11_years_22 : decode cX11_years 22 = .ok (.iadd, 1) := by decide +kernel
theorem dX11_years_23 : decode cX11_years 23 = .ok (.sipush 999, 3) := by decide +kernel
theorem dX11_years_26 : decode cX11_years 26 = .ok (.if_icmp .le 9, 3) := by decide +kernel
theorem dX11_years_29 : decode cX11_years 29 = .ok (.aload_n 0, 1) := by decide +kernel
theorem dX11_years_30 : decode cX11_years 30 = .ok (.iconst 1, 1) := by decide +kernel
theorem dX11_years_31 : decode cX11_years 31 = .ok (.invokevirtual 433, 3) := by decide +kernel
theorem dX11_years_34 : decode cX11_years 34 = .ok (.ireturn, 1) := by decide +kernel
theorem dX11_years_35 : decode cX11_years 35 = .ok (.aload_n 0, 1) := by decide +kernel
theorem dX11_years_36 : decode cX11_years 36 = .ok (.invokevirtual 436, 3) := by decide +kernel
theorem dX11_years_39 : decode cX11_years 39 = .ok (.aload_n 0, 1) := by decide +kernel
theorem dX11_years_40 : decode cX11_years 40 = .ok (.dup, 1) := by decide +kernel
theorem dX11_years_41 : decode cX11_years 41 = .ok (.getfield 317, 3) := by decide +kernel
theorem dX11_years_44 : decode cX11_years 44 = .ok (.iload_n 1, 1) := by decide +kernel
theorem dX11_years_45 : decode cX11_years 45 = .ok (.iadd, 1) := by decide +kernel
theorem dX11_years_46 : decode cX11_years 46 = .ok (.putfield 317, 3) := by decide +kernel
theorem dX11_years_49 : decode cX11_years 49 = .ok (.aload_n 0, 1) := by decide +kernel
theorem dX11_years_50 : decode cX11_years 50 = .ok (.getfield 317, 3) := by decide +kernel
theorem dX11_years_53 : decode cX11_years 53 = .ok (.ireturn, 1) := by decide +kernel
theorem dX11_danceAgain_0 : decode cX11_danceAgain 0 = .ok (.aload_n 0, 1) := by decide +kernel
theorem dX11_danceAgain_1 : decode cX11_danceAgain 1 = .ok (.getfield 87, 3) := by decide +kernel
theorem dX11_danceAgain_4 : decode cX11_danceAgain 4 = .ok (.iload_n 1, 1) := by decide +kernel
theorem dX11_danceAgain_5 : decode cX11_danceAgain 5 = .ok (.aload_n 0, 1) := by decide +kernel
theorem dX11_danceAgain_6 : decode cX11_danceAgain 6 = .ok (.getfield 317, 3) := by decide +kernel
theorem dX11_danceAgain_9 : decode cX11_danceAgain 9 = .ok (.iastore, 1) := by decide +kernel
theorem dX11_danceAgain_10 : decode cX11_danceAgain 10 = .ok (.aload_n 0, 1) := by decide +kernel
theorem dX11_danceAgain_11 : decode cX11_danceAgain 11 = .ok (.dup, 1) := by decide +kernel
theorem dX11_danceAgain_12 : decode cX11_danceAgain 12 = .ok (.getfield 320, 3) := by decide +kernel
theorem dX11_danceAgain_15 : decode cX11_danceAgain 15 = .ok (.iconst 1, 1) := by decide +kernel
theorem dX11_danceAgain_16 : decode cX11_danceAgain 16 = .ok (.iload_n 1, 1) := by decide +kernel
theorem dX11_danceAgain_17 : decode cX11_danceAgain 17 = .ok (.ishl, 1) := by decide +kernel
theorem dX11_danceAgain_18 : decode cX11_danceAgain 18 = .ok (.iconst (-1), 1) := by decide +kernel
theorem dX11_danceAgain_19 : decode cX11_danceAgain 19 = .ok (.ixor, 1) := by decide +kernel
theorem dX11_danceAgain_20 : decode cX11_danceAgain 20 = .ok (.iand, 1) := by decide +kernel
theorem dX11_danceAgain_21 : decode cX11_danceAgain 21 = .ok (.putfield 320, 3) := by decide +kernel
theorem dX11_danceAgain_24 : decode cX11_danceAgain 24 = .ok (.return_, 1) := by decide +kernel
theorem dX11_again_0 : decode cX11_again 0 = .ok (.aload_n 0, 1) := by decide +kernel
theorem dX11_again_1 : decode cX11_again 1 = .ok (.iconst 0, 1) := by decide +kernel
theorem dX11_again_2 : decode cX11_again 2 = .ok (.putfield 159, 3) := by decide +kernel
theorem dX11_again_5 : decode cX11_again 5 = .ok (.aload_n 0, 1) := by decide +kernel
theorem dX11_again_6 : decode cX11_again 6 = .ok (.iload_n 1, 1) := by decide +kernel
theorem dX11_again_7 : decode cX11_again 7 = .ok (.invokevirtual 166, 3) := by decide +kernel
theorem dX11_again_10 : decode cX11_again 10 = .ok (.ifCond .ne 9, 3) := by decide +kernel
theorem dX11_again_13 : decode cX11_again 13 = .ok (.aload_n 0, 1) := by decide +kernel
theorem dX11_again_14 : decode cX11_again 14 = .ok (.iconst 1, 1) := by decide +kernel
theorem dX11_again_15 : decode cX11_again 15 = .ok (.invokevirtual 304, 3) := by decide +kernel
theorem dX11_again_18 : decode cX11_again 18 = .ok (.ireturn, 1) := by decide +kernel
theorem dX11_again_19 : decode cX11_again 19 = .ok (.aload_n 0, 1) := by decide +kernel
theorem dX11_again_20 : decode cX11_again 20 = .ok (.invokevirtual 436, 3) := by decide +kernel
theorem dX11_again_23 : decode cX11_again 23 = .ok (.aload_n 0, 1) := by decide +kernel
theorem dX11_again_24 : decode cX11_again 24 = .ok (.getfield 317, 3) := by decide +kernel
theorem dX11_again_27 : decode cX11_again 27 = .ok (.aload_n 0, 1) := by decide +kernel
theorem dX11_again_28 : decode cX11_again 28 = .ok (.getfield 87, 3) := by decide +kernel
theorem dX11_again_31 : decode cX11_again 31 = .ok (.iload_n 1, 1) := by decide +kernel
theorem dX11_again_32 : decode cX11_again 32 = .ok (.iaload, 1) := by decide +kernel
theorem dX11_again_33 : decode cX11_again 33 = .ok (.isub, 1) := by decide +kernel
theorem dX11_again_34 : decode cX11_again 34 = .ok (.istore_n 2, 1) := by decide +kernel
theorem dX11_again_35 : decode cX11_again 35 = .ok (.aload_n 0, 1) := by decide +kernel
theorem dX11_again_36 : decode cX11_again 36 = .ok (.iload_n 1, 1) := by decide +kernel
theorem dX11_again_37 : decode cX11_again 37 = .ok (.invokevirtual 439, 3) := by decide +kernel
theorem dX11_again_40 : decode cX11_again 40 = .ok (.iload_n 2, 1) := by decide +kernel
theorem dX11_again_41 : decode cX11_again 41 = .ok (.ireturn, 1) := by decide +kernel
theorem dX11_breaks_0 : decode cX11_breaks 0 = .ok (.aload_n 0, 1) := by decide +kernel
theorem dX11_breaks_1 : decode cX11_breaks 1 = .ok (.iconst 0, 1) := by decide +kernel
theorem dX11_breaks_2 : decode cX11_breaks 2 = .ok (.putfield 159, 3) := by decide +kernel
theorem dX11_breaks_5 : decode cX11_breaks 5 = .ok (.aload_n 0, 1) := by decide +kernel
theorem dX11_breaks_6 : decode cX11_breaks 6 = .ok (.iload_n 1, 1) := by decide +kernel
theorem dX11_breaks_7 : decode cX11_breaks 7 = .ok (.invokevirtual 166, 3) := by decide +kernel
theorem dX11_breaks_10 : decode cX11_breaks 10 = .ok (.ifCond .ne 10, 3) := by decide +kernel
theorem dX11_breaks_13 : decode cX11_breaks 13 = .ok (.aload_n 0, 1) := by decide +kernel
theorem dX11_breaks_14 : decode cX11_breaks 14 = .ok (.iconst 1, 1) := by decide +kernel
theorem dX11_breaks_15 : decode cX11_breaks 15 = .ok (.putfield 159, 3) := by decide +kernel
theorem dX11_breaks_18 : decode cX11_breaks 18 = .ok (.iconst 0, 1) := by decide +kernel
theorem dX11_breaks_19 : decode cX11_breaks 19 = .ok (.ireturn, 1) := by decide +kernel
theorem dX11_breaks_20 : decode cX11_breaks 20 = .ok (.aload_n 0, 1) := by decide +kernel
theorem dX11_breaks_21 : decode cX11_breaks 21 = .ok (.getfield 320, 3) := by decide +kernel
theorem dX11_breaks_24 : decode cX11_breaks 24 = .ok (.iload_n 1, 1) := by decide +kernel
theorem dX11_breaks_25 : decode cX11_breaks 25 = .ok (.invokestatic 357, 3) := by decide +kernel
theorem dX11_breaks_28 : decode cX11_breaks 28 = .ok (.ifCond .eq 15, 3) := by decide +kernel
theorem dX11_breaks_31 : decode cX11_breaks 31 = .ok (.aload_n 0, 1) := by decide +kernel
theorem dX11_breaks_32 : decode cX11_breaks 32 = .ok (.getfield 77, 3) := by decide +kernel
theorem dX11_breaks_35 : decode cX11_breaks 35 = .ok (.iconst 1, 1) := by decide +kernel
theorem dX11_breaks_36 : decode cX11_breaks 36 = .ok (.dup2, 1) := by decide +kernel
theorem dX11_breaks_37 : decode cX11_breaks 37 = .ok (.iaload, 1) := by decide +kernel
theorem dX11_breaks_38 : decode cX11_breaks 38 = .ok (.iconst 1, 1) := by decide +kernel
theorem dX11_breaks_39 : decode cX11_breaks 39 = .ok (.iadd, 1) := by decide +kernel
theorem dX11_breaks_40 : decode cX11_breaks 40 = .ok (.iastore, 1) := by decide +kernel
theorem dX11_breaks_41 : decode cX11_breaks 41 = .ok (.iconst 0, 1) := by decide +kernel
theorem dX11_breaks_42 : decode cX11_breaks 42 = .ok (.ireturn, 1) := by decide +kernel
theorem dX11_breaks_43 : decode cX11_breaks 43 = .ok (.aload_n 0, 1) := by decide +kernel
theorem dX11_breaks_44 : decode cX11_breaks 44 = .ok (.invokevirtual 436, 3) := by decide +kernel
theorem dX11_breaks_47 : decode cX11_breaks 47 = .ok (.aload_n 0, 1) := by decide +kernel
theorem dX11_breaks_48 : decode cX11_breaks 48 = .ok (.dup, 1) := by decide +kernel
theorem dX11_breaks_49 : decode cX11_breaks 49 = .ok (.getfield 320, 3) := by decide +kernel
theorem dX11_breaks_52 : decode cX11_breaks 52 = .ok (.iconst 1, 1) := by decide +kernel
theorem dX11_breaks_53 : decode cX11_breaks 53 = .ok (.iload_n 1, 1) := by decide +kernel
theorem dX11_breaks_54 : decode cX11_breaks 54 = .ok (.ishl, 1) := by decide +kernel
theorem dX11_breaks_55 : decode cX11_breaks 55 = .ok (.ior, 1) := by decide +kernel
theorem dX11_breaks_56 : decode cX11_breaks 56 = .ok (.putfield 320, 3) := by decide +kernel
theorem dX11_breaks_59 : decode cX11_breaks 59 = .ok (.iconst 1, 1) := by decide +kernel
theorem dX11_breaks_60 : decode cX11_breaks 60 = .ok (.ireturn, 1) := by decide +kernel
theorem dX11_isLimp_0 : decode cX11_isLimp 0 = .ok (.aload_n 0, 1) := by decide +kernel
theorem dX11_isLimp_1 : decode cX11_isLimp 1 = .ok (.getfield 62, 3) := by decide +kernel
theorem dX11_isLimp_4 : decode cX11_isLimp 4 = .ok (.bipush 10, 2) := by decide +kernel
theorem dX11_isLimp_6 : decode cX11_isLimp 6 = .ok (.iload_n 1, 1) := by decide +kernel
theorem dX11_isLimp_7 : decode cX11_isLimp 7 = .ok (.imul, 1) := by decide +kernel
theorem dX11_isLimp_8 : decode cX11_isLimp 8 = .ok (.iload_n 2, 1) := by decide +kernel
theorem dX11_isLimp_9 : decode cX11_isLimp 9 = .ok (.iadd, 1) := by decide +kernel
theorem dX11_isLimp_10 : decode cX11_isLimp 10 = .ok (.iaload, 1) := by decide +kernel
theorem dX11_isLimp_11 : decode cX11_isLimp 11 = .ok (.istore_n 3, 1) := by decide +kernel
theorem dX11_isLimp_12 : decode cX11_isLimp 12 = .ok (.iload_n 3, 1) := by decide +kernel
theorem dX11_isLimp_13 : decode cX11_isLimp 13 = .ok (.iconst 3, 1) := by decide +kernel
theorem dX11_isLimp_14 : decode cX11_isLimp 14 = .ok (.if_icmp .eq 12, 3) := by decide +kernel
theorem dX11_isLimp_17 : decode cX11_isLimp 17 = .ok (.iload_n 3, 1) := by decide +kernel
theorem dX11_isLimp_18 : decode cX11_isLimp 18 = .ok (.iconst 4, 1) := by decide +kernel
theorem dX11_isLimp_19 : decode cX11_isLimp 19 = .ok (.if_icmp .eq 7, 3) := by decide +kernel
theorem dX11_isLimp_22 : decode cX11_isLimp 22 = .ok (.iconst 1, 1) := by decide +kernel
theorem dX11_isLimp_23 : decode cX11_isLimp 23 = .ok (.goto 4, 3) := by decide +kernel
theorem dX11_isLimp_26 : decode cX11_isLimp 26 = .ok (.iconst 0, 1) := by decide +kernel
theorem dX11_isLimp_27 : decode cX11_isLimp 27 = .ok (.ireturn, 1) := by decide +kernel
theorem dX11_stumble_0 : decode cX11_stumble 0 = .ok (.aload_n 0, 1) := by decide +kernel
theorem dX11_stumble_1 : decode cX11_stumble 1 = .ok (.iconst 0, 1) := by decide +kernel
theorem dX11_stumble_2 : decode cX11_stumble 2 = .ok (.putfield 159, 3) := by decide +kernel
theorem dX11_stumble_5 : decode cX11_stumble 5 = .ok (.aload_n 0, 1) := by decide +kernel
theorem dX11_stumble_6 : decode cX11_stumble 6 = .ok (.iload_n 1, 1) := by decide +kernel
theorem dX11_stumble_7 : decode cX11_stumble 7 = .ok (.iload_n 2, 1) := by decide +kernel
theorem dX11_stumble_8 : decode cX11_stumble 8 = .ok (.invokevirtual 412, 3) := by decide +kernel
theorem dX11_stumble_11 : decode cX11_stumble 11 = .ok (.ifCond .ne 9, 3) := by decide +kernel
theorem dX11_stumble_14 : decode cX11_stumble 14 = .ok (.aload_n 0, 1) := by decide +kernel
theorem dX11_stumble_15 : decode cX11_stumble 15 = .ok (.iconst 1, 1) := by decide +kernel
theorem dX11_stumble_16 : decode cX11_stumble 16 = .ok (.invokevirtual 304, 3) := by decide +kernel
theorem dX11_stumble_19 : decode cX11_stumble 19 = .ok (.ireturn, 1) := by decide +kernel
theorem dX11_stumble_20 : decode cX11_stumble 20 = .ok (.iload_n 3, 1) := by decide +kernel
theorem dX11_stumble_21 : decode cX11_stumble 21 = .ok (.i2l, 1) := by decide +kernel
theorem dX11_stumble_22 : decode cX11_stumble 22 = .ok (.lconst 0, 1) := by decide +kernel
theorem dX11_stumble_23 : decode cX11_stumble 23 = .ok (.ldc2_w 442, 3) := by decide +kernel
theorem dX11_stumble_26 : decode cX11_stumble 26 = .ok (.invokestatic 162, 3) := by decide +kernel
theorem dX11_stumble_29 : decode cX11_stumble 29 = .ok (.ifCond .eq 12, 3) := by decide +kernel
theorem dX11_stumble_32 : decode cX11_stumble 32 = .ok (.aload_n 0, 1) := by decide +kernel
theorem dX11_stumble_33 : decode cX11_stumble 33 = .ok (.iload_n 1, 1) := by decide +kernel
theorem dX11_stumble_34 : decode cX11_stumble 34 = .ok (.iload_n 2, 1) := by decide +kernel
theorem dX11_stumble_35 : decode cX11_stumble 35 = .ok (.invokevirtual 444, 3) := by decide +kernel
theorem dX11_stumble_38 : decode cX11_stumble 38 = .ok (.ifCond .ne 9, 3) := by decide +kernel
theorem dX11_stumble_41 : decode cX11_stumble 41 = .ok (.aload_n 0, 1) := by decide +kernel
theorem dX11_stumble_42 : decode cX11_stumble 42 = .ok (.iconst 1, 1) := by decide +kernel
theorem dX11_stumble_43 : decode cX11_stumble 43 = .ok (.invokevirtual 433, 3) := by decide +kernel
theorem dX11_stumble_46 : decode cX11_stumble 46 = .ok (.ireturn, 1) := by decide +kernel
theorem dX11_stumble_47 : decode cX11_stumble 47 = .ok (.aload_n 0, 1) := by decide +kernel
theorem dX11_stumble_48 : decode cX11_stumble 48 = .ok (.invokevirtual 436, 3) := by decide +kernel
theorem dX11_stumble_51 : decode cX11_stumble 51 = .ok (.aload_n 0, 1) := by decide +kernel
theorem dX11_stumble_52 : decode cX11_stumble 52 = .ok (.getfield 68, 3) := by decide +kernel
theorem dX11_stumble_55 : decode cX11_stumble 55 = .ok (.bipush 10, 2) := by decide +kernel
theorem dX11_stumble_57 : decode cX11_stumble 57 = .ok (.iload_n 1, 1) := by decide +kernel
theorem dX11_stumble_58 : decode cX11_stumble 58 = .ok (.imul, 1) := by decide +kernel
theorem dX11_stumble_59 : decode cX11_stumble 59 = .ok (.iload_n 2, 1) := by decide +kernel
theorem dX11_stumble_60 : decode cX11_stumble 60 = .ok (.iadd, 1) := by decide +kernel
theorem dX11_stumble_61 : decode cX11_stumble 61 = .ok (.iaload, 1) := by decide +kernel
theorem dX11_stumble_62 : decode cX11_stumble 62 = .ok (.istore 4, 2) := by decide +kernel
theorem dX11_stumble_64 : decode cX11_stumble 64 = .ok (.aload_n 0, 1) := by decide +kernel
theorem dX11_stumble_65 : decode cX11_stumble 65 = .ok (.getfield 68, 3) := by decide +kernel
theorem dX11_stumble_68 : decode cX11_stumble 68 = .ok (.bipush 10, 2) := by decide +kernel
theorem dX11_stumble_70 : decode cX11_stumble 70 = .ok (.iload_n 1, 1) := by decide +kernel
theorem dX11_stumble_71 : decode cX11_stumble 71 = .ok (.imul, 1) := by decide +kernel
theorem dX11_stumble_72 : decode cX11_stumble 72 = .ok (.iload_n 2, 1) := by decide +kernel
theorem dX11_stumble_73 : decode cX11_stumble 73 = .ok (.iadd, 1) := by decide +kernel
theorem dX11_stumble_74 : decode cX11_stumble 74 = .ok (.iload_n 3, 1) := by decide +kernel
theorem dX11_stumble_75 : decode cX11_stumble 75 = .ok (.iastore, 1) := by decide +kernel
theorem dX11_stumble_76 : decode cX11_stumble 76 = .ok (.iload 4, 2) := by decide +kernel
theorem dX11_stumble_78 : decode cX11_stumble 78 = .ok (.ireturn, 1) := by decide +kernel
theorem dX11_act_0 : decode cX11_act 0 = .ok (.aload_n 0, 1) := by decide +kernel
theorem dX11_act_1 : decode cX11_act 1 = .ok (.iconst 0, 1) := by decide +kernel
theorem dX11_act_2 : decode cX11_act 2 = .ok (.putfield 159, 3) := by decide +kernel
theorem dX11_act_5 : decode cX11_act 5 = .ok (.aload_n 0, 1) := by decide +kernel
theorem dX11_act_6 : decode cX11_act 6 = .ok (.iload_n 1, 1) := by decide +kernel
theorem dX11_act_7 : decode cX11_act 7 = .ok (.invokevirtual 409, 3) := by decide +kernel
theorem dX11_act_10 : decode cX11_act 10 = .ok (.ifCond .eq 10, 3) := by decide +kernel
theorem dX11_act_13 : decode cX11_act 13 = .ok (.iload_n 2, 1) := by decide +kernel
theorem dX11_act_14 : decode cX11_act 14 = .ok (.invokestatic 421, 3) := by decide +kernel
theorem dX11_act_17 : decode cX11_act 17 = .ok (.ifCond .ne 9, 3) := by decide +kernel
theorem dX11_act_20 : decode cX11_act 20 = .ok (.aload_n 0, 1) := by decide +kernel
theorem dX11_act_21 : decode cX11_act 21 = .ok (.iconst 1, 1) := by decide +kernel
theorem dX11_act_22 : decode cX11_act 22 = .ok (.invokevirtual 304, 3) := by decide +kernel
theorem dX11_act_25 : decode cX11_act 25 = .ok (.ireturn, 1) := by decide +kernel
theorem dX11_act_26 : decode cX11_act 26 = .ok (.iload_n 3, 1) := by decide +kernel
theorem dX11_act_27 : decode cX11_act 27 = .ok (.i2l, 1) := by decide +kernel
theorem dX11_act_28 : decode cX11_act 28 = .ok (.lconst 1, 1) := by decide +kernel
theorem dX11_act_29 : decode cX11_act 29 = .ok (.ldc2_w 447, 3) := by decide +kernel
theorem dX11_act_32 : decode cX11_act 32 = .ok (.invokestatic 162, 3) := by decide +kernel
theorem dX11_act_35 : decode cX11_act 35 = .ok (.ifCond .eq 22, 3) := by decide +kernel
theorem dX11_act_38 : decode cX11_act 38 = .ok (.aload_n 0, 1) := by decide +kernel
theorem dX11_act_39 : decode cX11_act 39 = .ok (.getfield 90, 3) := by decide +kernel
theorem dX11_act_42 : decode cX11_act 42 = .ok (.bipush 8, 2) := by decide +kernel
theorem dX11_act_44 : decode cX11_act 44 = .ok (.iload_n 1, 1) := by decide +kernel
theorem dX11_act_45 : decode cX11_act 45 = .ok (.imul, 1) := by decide +kernel
theorem dX11_act_46 : decode cX11_act 46 = .ok (.iload_n 2, 1) := by decide +kernel
theorem dX11_act_47 : decode cX11_act 47 = .ok (.iadd, 1) := by decide +kernel
theorem dX11_act_48 : decode cX11_act 48 = .ok (.iaload, 1) := by decide +kernel
theorem dX11_act_49 : decode cX11_act 49 = .ok (.iload_n 3, 1) := by decide +kernel
theorem dX11_act_50 : decode cX11_act 50 = .ok (.iadd, 1) := by decide +kernel
theorem dX11_act_51 : decode cX11_act 51 = .ok (.sipush 9999, 3) := by decide +kernel
theorem dX11_act_54 : decode cX11_act 54 = .ok (.if_icmp .le 9, 3) := by decide +kernel
theorem dX11_act_57 : decode cX11_act 57 = .ok (.aload_n 0, 1) := by decide +kernel
theorem dX11_act_58 : decode cX11_act 58 = .ok (.iconst 1, 1) := by decide +kernel
theorem dX11_act_59 : decode cX11_act 59 = .ok (.invokevirtual 433, 3) := by decide +kernel
theorem dX11_act_62 : decode cX11_act 62 = .ok (.ireturn, 1) := by decide +kernel
theorem dX11_act_63 : decode cX11_act 63 = .ok (.aload_n 0, 1) := by decide +kernel
theorem dX11_act_64 : decode cX11_act 64 = .ok (.invokevirtual 436, 3) := by decide +kernel
theorem dX11_act_67 : decode cX11_act 67 = .ok (.aload_n 0, 1) := by decide +kernel
theorem dX11_act_68 : decode cX11_act 68 = .ok (.getfield 90, 3) := by decide +kernel
theorem dX11_act_71 : decode cX11_act 71 = .ok (.bipush 8, 2) := by decide +kernel
theorem dX11_act_73 : decode cX11_act 73 = .ok (.iload_n 1, 1) := by decide +kernel
theorem dX11_act_74 : decode cX11_act 74 = .ok (.imul, 1) := by decide +kernel
theorem dX11_act_75 : decode cX11_act 75 = .ok (.iload_n 2, 1) := by decide +kernel
theorem dX11_act_76 : decode cX11_act 76 = .ok (.iadd, 1) := by decide +kernel
theorem dX11_act_77 : decode cX11_act 77 = .ok (.dup2, 1) := by decide +kernel
theorem dX11_act_78 : decode cX11_act 78 = .ok (.iaload, 1) := by decide +kernel
theorem dX11_act_79 : decode cX11_act 79 = .ok (.iload_n 3, 1) := by decide +kernel
theorem dX11_act_80 : decode cX11_act 80 = .ok (.iadd, 1) := by decide +kernel
theorem dX11_act_81 : decode cX11_act 81 = .ok (.iastore, 1) := by decide +kernel
theorem dX11_act_82 : decode cX11_act 82 = .ok (.aload_n 0, 1) := by decide +kernel
theorem dX11_act_83 : decode cX11_act 83 = .ok (.getfield 90, 3) := by decide +kernel
theorem dX11_act_86 : decode cX11_act 86 = .ok (.bipush 8, 2) := by decide +kernel
theorem dX11_act_88 : decode cX11_act 88 = .ok (.iload_n 1, 1) := by decide +kernel
theorem dX11_act_89 : decode cX11_act 89 = .ok (.imul, 1) := by decide +kernel
theorem dX11_act_90 : decode cX11_act 90 = .ok (.iload_n 2, 1) := by decide +kernel
theorem dX11_act_91 : decode cX11_act 91 = .ok (.iadd, 1) := by decide +kernel
theorem dX11_act_92 : decode cX11_act 92 = .ok (.iaload, 1) := by decide +kernel
theorem dX11_act_93 : decode cX11_act 93 = .ok (.ireturn, 1) := by decide +kernel
theorem dX11_undo_0 : decode cX11_undo 0 = .ok (.aload_n 0, 1) := by decide +kernel
theorem dX11_undo_1 : decode cX11_undo 1 = .ok (.iconst 0, 1) := by decide +kernel
theorem dX11_undo_2 : decode cX11_undo 2 = .ok (.putfield 159, 3) := by decide +kernel
theorem dX11_undo_5 : decode cX11_undo 5 = .ok (.aload_n 0, 1) := by decide +kernel
theorem dX11_undo_6 : decode cX11_undo 6 = .ok (.getfield 323, 3) := by decide +kernel
theorem dX11_undo_9 : decode cX11_undo 9 = .ok (.ifCond .ne 5, 3) := by decide +kernel
theorem dX11_undo_12 : decode cX11_undo 12 = .ok (.iconst (-1), 1) := by decide +kernel
theorem dX11_undo_13 : decode cX11_undo 13 = .ok (.ireturn, 1) := by decide +kernel
theorem dX11_undo_14 : decode cX11_undo 14 = .ok (.aload_n 0, 1) := by decide +kernel
theorem dX11_undo_15 : decode cX11_undo 15 = .ok (.dup, 1) := by decide +kernel
theorem dX11_undo_16 : decode cX11_undo 16 = .ok (.getfield 323, 3) := by decide +kernel
theorem dX11_undo_19 : decode cX11_undo 19 = .ok (.iconst 1, 1) := by decide +kernel
theorem dX11_undo_20 : decode cX11_undo 20 = .ok (.isub, 1) := by decide +kernel
theorem dX11_undo_21 : decode cX11_undo 21 = .ok (.putfield 323, 3) := by decide +kernel
theorem dX11_undo_24 : decode cX11_undo 24 = .ok (.aload_n 0, 1) := by decide +kernel
theorem dX11_undo_25 : decode cX11_undo 25 = .ok (.aload_n 0, 1) := by decide +kernel
theorem dX11_undo_26 : decode cX11_undo 26 = .ok (.getfield 93, 3) := by decide +kernel
theorem dX11_undo_29 : decode cX11_undo 29 = .ok (.sipush 138, 3) := by decide +kernel
theorem dX11_undo_32 : decode cX11_undo 32 = .ok (.aload_n 0, 1) := by decide +kernel
theorem dX11_undo_33 : decode cX11_undo 33 = .ok (.getfield 323, 3) := by decide +kernel
theorem dX11_undo_36 : decode cX11_undo 36 = .ok (.imul, 1) := by decide +kernel
theorem dX11_undo_37 : decode cX11_undo 37 = .ok (.invokevirtual 449, 3) := by decide +kernel
theorem dX11_undo_40 : decode cX11_undo 40 = .ok (.aload_n 0, 1) := by decide +kernel
theorem dX11_undo_41 : decode cX11_undo 41 = .ok (.getfield 323, 3) := by decide +kernel
theorem dX11_undo_44 : decode cX11_undo 44 = .ok (.ireturn, 1) := by decide +kernel
theorem dX11_endsWellBy_0 : decode cX11_endsWellBy 0 = .ok (.bipush 10, 2) := by decide +kernel
theorem dX11_endsWellBy_2 : decode cX11_endsWellBy 2 = .ok (.iload_n 1, 1) := by decide +kernel
theorem dX11_endsWellBy_3 : decode cX11_endsWellBy 3 = .ok (.imul, 1) := by decide +kernel
theorem dX11_endsWellBy_4 : decode cX11_endsWellBy 4 = .ok (.iload_n 2, 1) := by decide +kernel
theorem dX11_endsWellBy_5 : decode cX11_endsWellBy 5 = .ok (.iadd, 1) := by decide +kernel
theorem dX11_endsWellBy_6 : decode cX11_endsWellBy 6 = .ok (.istore 4, 2) := by decide +kernel
theorem dX11_endsWellBy_8 : decode cX11_endsWellBy 8 = .ok (.aload_n 0, 1) := by decide +kernel
theorem dX11_endsWellBy_9 : decode cX11_endsWellBy 9 = .ok (.getfield 68, 3) := by decide +kernel
theorem dX11_endsWellBy_12 : decode cX11_endsWellBy 12 = .ok (.iload 4, 2) := by decide +kernel
theorem dX11_endsWellBy_14 : decode cX11_endsWellBy 14 = .ok (.iaload, 1) := by decide +kernel
theorem dX11_endsWellBy_15 : decode cX11_endsWellBy 15 = .ok (.istore 5, 2) := by decide +kernel
theorem dX11_endsWellBy_17 : decode cX11_endsWellBy 17 = .ok (.aload_n 0, 1) := by decide +kernel
theorem dX11_endsWellBy_18 : decode cX11_endsWellBy 18 = .ok (.getfield 68, 3) := by decide +kernel
theorem dX11_endsWellBy_21 : decode cX11_endsWellBy 21 = .ok (.iload 4, 2) := by decide +kernel
theorem dX11_endsWellBy_23 : decode cX11_endsWellBy 23 = .ok (.iload_n 3, 1) := by decide +kernel
theorem dX11_endsWellBy_24 : decode cX11_endsWellBy 24 = .ok (.iastore, 1) := by decide +kernel
theorem dX11_endsWellBy_25 : decode cX11_endsWellBy 25 = .ok (.aload_n 0, 1) := by decide +kernel
theorem dX11_endsWellBy_26 : decode cX11_endsWellBy 26 = .ok (.iload_n 1, 1) := by decide +kernel
theorem dX11_endsWellBy_27 : decode cX11_endsWellBy 27 = .ok (.invokevirtual 360, 3) := by decide +kernel
theorem dX11_endsWellBy_30 : decode cX11_endsWellBy 30 = .ok (.istore 6, 2) := by decide +kernel
theorem dX11_endsWellBy_32 : decode cX11_endsWellBy 32 = .ok (.aload_n 0, 1) := by decide +kernel
theorem dX11_endsWellBy_33 : decode cX11_endsWellBy 33 = .ok (.getfield 68, 3) := by decide +kernel
theorem dX11_endsWellBy_36 : decode cX11_endsWellBy 36 = .ok (.iload 4, 2) := by decide +kernel
theorem dX11_endsWellBy_38 : decode cX11_endsWellBy 38 = .ok (.iload 5, 2) := by decide +kernel
theorem dX11_endsWellBy_40 : decode cX11_endsWellBy 40 = .ok (.iastore, 1) := by decide +kernel
theorem dX11_endsWellBy_41 : decode cX11_endsWellBy 41 = .ok (.iload 6, 2) := by decide +kernel
theorem dX11_endsWellBy_43 : decode cX11_endsWellBy 43 = .ok (.ireturn, 1) := by decide +kernel
theorem dX11_mendFrom_0 : decode cX11_mendFrom 0 = .ok (.iload_n 2, 1) := by decide +kernel
theorem dX11_mendFrom_1 : decode cX11_mendFrom 1 = .ok (.istore_n 3, 1) := by decide +kernel
theorem dX11_mendFrom_2 : decode cX11_mendFrom 2 = .ok (.iload_n 3, 1) := by decide +kernel
theorem dX11_mendFrom_3 : decode cX11_mendFrom 3 = .ok (.aload_n 0, 1) := by decide +kernel
theorem dX11_mendFrom_4 : decode cX11_mendFrom 4 = .ok (.getfield 59, 3) := by decide +kernel
theorem dX11_mendFrom_7 : decode cX11_mendFrom 7 = .ok (.iload_n 1, 1) := by decide +kernel
theorem dX11_mendFrom_8 : decode cX11_mendFrom 8 = .ok (.iaload, 1) := by decide +kernel
theorem dX11_mendFrom_9 : decode cX11_mendFrom 9 = .ok (.if_icmp .ge 69, 3) := by decide +kernel
theorem dX11_mendFrom_12 : decode cX11_mendFrom 12 = .ok (.iconst 0, 1) := by decide +kernel
theorem dX11_mendFrom_13 : decode cX11_mendFrom 13 = .ok (.istore 4, 2) := by decide +kernel
theorem dX11_mendFrom_15 : decode cX11_mendFrom 15 = .ok (.iload 4, 2) := by decide +kernel
theorem dX11_mendFrom_17 : decode cX11_mendFrom 17 = .ok (.bipush 10, 2) := by decide +kernel
theorem dX11_mendFrom_19 : decode cX11_mendFrom 19 = .ok (.if_icmp .ge 53, 3) := by decide +kernel
theorem dX11_mendFrom_22 : decode cX11_mendFrom 22 = .ok (.aload_n 0, 1) := by decide +kernel
theorem dX11_mendFrom_23 : decode cX11_mendFrom 23 = .ok (.iload_n 1, 1) := by decide +kernel
theorem dX11_mendFrom_24 : decode cX11_mendFrom 24 = .ok (.iload_n 3, 1) := by decide +kernel
theorem dX11_mendFrom_25 : decode cX11_mendFrom 25 = .ok (.invokevirtual 444, 3) := by decide +kernel
theorem dX11_mendFrom_28 : decode cX11_mendFrom 28 = .ok (.ifCond .eq 44, 3) := by decide +kernel
theorem dX11_mendFrom_31 : decode cX11_mendFrom 31 = .ok (.iload 4, 2) := by decide +kernel
theorem dX11_mendFrom_33 : decode cX11_mendFrom 33 = .ok (.aload_n 0, 1) := by decide +kernel
theorem dX11_mendFrom_34 : decode cX11_mendFrom 34 = .ok (.getfield 68, 3) := by decide +kernel
theorem dX11_mendFrom_37 : decode cX11_mendFrom 37 = .ok (.bipush 10, 2) := by decide +kernel
theorem dX11_mendFrom_39 : decode cX11_mendFrom 39 = .ok (.iload_n 1, 1) := by decide +kernel
theorem dX11_mendFrom_40 : decode cX11_mendFrom 40 = .ok (.imul, 1) := by decide +kernel
theorem dX11_mendFrom_41 : decode cX11_mendFrom 41 = .ok (.iload_n 3, 1) := by decide +kernel
theorem dX11_mendFrom_42 : decode cX11_mendFrom 42 = .ok (.iadd, 1) := by decide +kernel
theorem dX11_mendFrom_43 : decode cX11_mendFrom 43 = .ok (.iaload, 1) := by decide +kernel
theorem dX11_mendFrom_44 : decode cX11_mendFrom 44 = .ok (.if_icmp .eq 22, 3) := by decide +kernel
theorem dX11_mendFrom_47 : decode cX11_mendFrom 47 = .ok (.aload_n 0, 1) := by decide +kernel
theorem dX11_mendFrom_48 : decode cX11_mendFrom 48 = .ok (.iload_n 1, 1) := by decide +kernel
theorem dX11_mendFrom_49 : decode cX11_mendFrom 49 = .ok (.iload_n 3, 1) := by decide +kernel
theorem dX11_mendFrom_50 : decode cX11_mendFrom 50 = .ok (.iload 4, 2) := by decide +kernel
theorem dX11_mendFrom_52 : decode cX11_mendFrom 52 = .ok (.invokevirtual 452, 3) := by decide +kernel
theorem dX11_mendFrom_55 : decode cX11_mendFrom 55 = .ok (.ifCond .eq 11, 3) := by decide +kernel
theorem dX11_mendFrom_58 : decode cX11_mendFrom 58 = .ok (.bipush 10, 2) := by decide +kernel
theorem dX11_mendFrom_60 : decode cX11_mendFrom 60 = .ok (.iload_n 3, 1) := by decide +kernel
theorem dX11_mendFrom_61 : decode cX11_mendFrom 61 = .ok (.imul, 1) := by decide +kernel
theorem dX11_mendFrom_62 : decode cX11_mendFrom 62 = .ok (.iload 4, 2) := by decide +kernel
theorem dX11_mendFrom_64 : decode cX11_mendFrom 64 = .ok (.iadd, 1) := by decide +kernel
theorem dX11_mendFrom_65 : decode cX11_mendFrom 65 = .ok (.ireturn, 1) := by decide +kernel
theorem dX11_mendFrom_66 : decode cX11_mendFrom 66 = .ok (.iinc 4 1, 3) := by decide +kernel
theorem dX11_mendFrom_69 : decode cX11_mendFrom 69 = .ok (.goto (-54), 3) := by decide +kernel
theorem dX11_mendFrom_72 : decode cX11_mendFrom 72 = .ok (.iinc 3 1, 3) := by decide +kernel
theorem dX11_mendFrom_75 : decode cX11_mendFrom 75 = .ok (.goto (-73), 3) := by decide +kernel
theorem dX11_mendFrom_78 : decode cX11_mendFrom 78 = .ok (.iconst (-1), 1) := by decide +kernel
theorem dX11_mendFrom_79 : decode cX11_mendFrom 79 = .ok (.ireturn, 1) := by decide +kernel
theorem dX11_mendTwo_0 : decode cX11_mendTwo 0 = .ok (.iconst 0, 1) := by decide +kernel
theorem dX11_mendTwo_1 : decode cX11_mendTwo 1 = .ok (.istore_n 2, 1) := by decide +kernel
theorem dX11_mendTwo_2 : decode cX11_mendTwo 2 = .ok (.iload_n 2, 1) := by decide +kernel
theorem dX11_mendTwo_3 : decode cX11_mendTwo 3 = .ok (.aload_n 0, 1) := by decide +kernel
theorem dX11_mendTwo_4 : decode cX11_mendTwo 4 = .ok (.getfield 59, 3) := by decide +kernel
theorem dX11_mendTwo_7 : decode cX11_mendTwo 7 = .ok (.iload_n 1, 1) := by decide +kernel
theorem dX11_mendTwo_8 : decode cX11_mendTwo 8 = .ok (.iaload, 1) := by decide +kernel
theorem dX11_mendTwo_9 : decode cX11_mendTwo 9 = .ok (.if_icmp .ge 69, 3) := by decide +kernel
theorem dX11_mendTwo_12 : decode cX11_mendTwo 12 = .ok (.iload_n 2, 1) := by decide +kernel
theorem dX11_mendTwo_13 : decode cX11_mendTwo 13 = .ok (.iconst 1, 1) := by decide +kernel
theorem dX11_mendTwo_14 : decode cX11_mendTwo 14 = .ok (.iadd, 1) := by decide +kernel
theorem dX11_mendTwo_15 : decode cX11_mendTwo 15 = .ok (.istore_n 3, 1) := by decide +kernel
theorem dX11_mendTwo_16 : decode cX11_mendTwo 16 = .ok (.iload_n 3, 1) := by decide +kernel
theorem dX11_mendTwo_17 : decode cX11_mendTwo 17 = .ok (.aload_n 0, 1) := by decide +kernel
theorem dX11_mendTwo_18 : decode cX11_mendTwo 18 = .ok (.getfield 59, 3) := by decide +kernel
theorem dX11_mendTwo_21 : decode cX11_mendTwo 21 = .ok (.iload_n 1, 1) := by decide +kernel
theorem dX11_mendTwo_22 : decode cX11_mendTwo 22 = .ok (.iaload, 1) := by decide +kernel
theorem dX11_mendTwo_23 : decode cX11_mendTwo 23 = .ok (.if_icmp .ge 49, 3) := by decide +kernel
theorem dX11_mendTwo_26 : decode cX11_mendTwo 26 = .ok (.aload_n 0, 1) := by decide +kernel
theorem dX11_mendTwo_27 : decode cX11_mendTwo 27 = .ok (.iload_n 1, 1) := by decide +kernel
theorem dX11_mendTwo_28 : decode cX11_mendTwo 28 = .ok (.iload_n 2, 1) := by decide +kernel
theorem dX11_mendTwo_29 : decode cX11_mendTwo 29 = .ok (.invokevirtual 444, 3) := by decide +kernel
theorem dX11_mendTwo_32 : decode cX11_mendTwo 32 = .ok (.ifCond .eq 22, 3) := by decide +kernel
theorem dX11_mendTwo_35 : decode cX11_mendTwo 35 = .ok (.aload_n 0, 1) := by decide +kernel
theorem dX11_mendTwo_36 : decode cX11_mendTwo 36 = .ok (.iload_n 1, 1) := by decide +kernel
theorem dX11_mendTwo_37 : decode cX11_mendTwo 37 = .ok (.iload_n 3, 1) := by decide +kernel
theorem dX11_mendTwo_38 : decode cX11_mendTwo 38 = .ok (.invokevirtual 444, 3) := by decide +kernel
theorem dX11_mendTwo_41 : decode cX11_mendTwo 41 = .ok (.ifCond .eq 13, 3) := by decide +kernel
theorem dX11_mendTwo_44 : decode cX11_mendTwo 44 = .ok (.aload_n 0, 1) := by decide +kernel
theorem dX11_mendTwo_45 : decode cX11_mendTwo 45 = .ok (.iload_n 1, 1) := by decide +kernel
theorem dX11_mendTwo_46 : decode cX11_mendTwo 46 = .ok (.iload_n 2, 1) := by decide +kernel
theorem dX11_mendTwo_47 : decode cX11_mendTwo 47 = .ok (.iload_n 3, 1) := by decide +kernel
theorem dX11_mendTwo_48 : decode cX11_mendTwo 48 = .ok (.invokevirtual 455, 3) := by decide +kernel
theorem dX11_mendTwo_51 : decode cX11_mendTwo 51 = .ok (.goto 4, 3) := by decide +kernel
theorem dX11_mendTwo_54 : decode cX11_mendTwo 54 = .ok (.iconst (-1), 1) := by decide +kernel
theorem dX11_mendTwo_55 : decode cX11_mendTwo 55 = .ok (.istore 4, 2) := by decide +kernel
theorem dX11_mendTwo_57 : decode cX11_mendTwo 57 = .ok (.iload 4, 2) := by decide +kernel
theorem dX11_mendTwo_59 : decode cX11_mendTwo 59 = .ok (.iconst (-1), 1) := by decide +kernel
theorem dX11_mendTwo_60 : decode cX11_mendTwo 60 = .ok (.if_icmp .eq 6, 3) := by decide +kernel
theorem dX11_mendTwo_63 : decode cX11_mendTwo 63 = .ok (.iload 4, 2) := by decide +kernel
theorem dX11_mendTwo_65 : decode cX11_mendTwo 65 = .ok (.ireturn, 1) := by decide +kernel
theorem dX11_mendTwo_66 : decode cX11_mendTwo 66 = .ok (.iinc 3 1, 3) := by decide +kernel
theorem dX11_mendTwo_69 : decode cX11_mendTwo 69 = .ok (.goto (-53), 3) := by decide +kernel
theorem dX11_mendTwo_72 : decode cX11_mendTwo 72 = .ok (.iinc 2 1, 3) := by decide +kernel
theorem dX11_mendTwo_75 : decode cX11_mendTwo 75 = .ok (.goto (-73), 3) := by decide +kernel
theorem dX11_mendTwo_78 : decode cX11_mendTwo 78 = .ok (.iconst (-1), 1) := by decide +kernel
theorem dX11_mendTwo_79 : decode cX11_mendTwo 79 = .ok (.ireturn, 1) := by decide +kernel
theorem dX11_mendBoth_0 : decode cX11_mendBoth 0 = .ok (.bipush 10, 2) := by decide +kernel
theorem dX11_mendBoth_2 : decode cX11_mendBoth 2 = .ok (.iload_n 1, 1) := by decide +kernel
theorem dX11_mendBoth_3 : decode cX11_mendBoth 3 = .ok (.imul, 1) := by decide +kernel
theorem dX11_mendBoth_4 : decode cX11_mendBoth 4 = .ok (.iload_n 2, 1) := by decide +kernel
theorem dX11_mendBoth_5 : decode cX11_mendBoth 5 = .ok (.iadd, 1) := by decide +kernel
theorem dX11_mendBoth_6 : decode cX11_mendBoth 6 = .ok (.istore 4, 2) := by decide +kernel
theorem dX11_mendBoth_8 : decode cX11_mendBoth 8 = .ok (.aload_n 0, 1) := by decide +kernel
theorem dX11_mendBoth_9 : decode cX11_mendBoth 9 = .ok (.getfield 68, 3) := by decide +kernel
theorem dX11_mendBoth_12 : decode cX11_mendBoth 12 = .ok (.iload 4, 2) := by decide +kernel
theorem dX11_mendBoth_14 : decode cX11_mendBoth 14 = .ok (.iaload, 1) := by decide +kernel
theorem dX11_mendBoth_15 : decode cX11_mendBoth 15 = .ok (.istore 5, 2) := by decide +kernel
theorem dX11_mendBoth_17 : decode cX11_mendBoth 17 = .ok (.iconst (-1), 1) := by decide +kernel
theorem dX11_mendBoth_18 : decode cX11_mendBoth 18 = .ok (.istore 6, 2) := by decide +kernel
theorem dX11_mendBoth_20 : decode cX11_mendBoth 20 = .ok (.iconst 0, 1) := by decide +kernel
theorem dX11_mendBoth_21 : decode cX11_mendBoth 21 = .ok (.istore 7, 2) := by decide +kernel
theorem dX11_mendBoth_23 : decode cX11_mendBoth 23 = .ok (.iload 7, 2) := by decide +kernel
theorem dX11_mendBoth_25 : decode cX11_mendBoth 25 = .ok (.bipush 10, 2) := by decide +kernel
theorem dX11_mendBoth_27 : decode cX11_mendBoth 27 = .ok (.if_icmp .ge 103, 3) := by decide +kernel
theorem dX11_mendBoth_30 : decode cX11_mendBoth 30 = .ok (.iload 6, 2) := by decide +kernel
theorem dX11_mendBoth_32 : decode cX11_mendBoth 32 = .ok (.iconst (-1), 1) := by decide +kernel
theorem dX11_mendBoth_33 : decode cX11_mendBoth 33 = .ok (.if_icmp .ne 97, 3) := by decide +kernel
theorem dX11_mendBoth_36 : decode cX11_mendBoth 36 = .ok (.iload 7, 2) := by decide +kernel
theorem dX11_mendBoth_38 : decode cX11_mendBoth 38 = .ok (.iload 5, 2) := by decide +kernel
theorem dX11_mendBoth_40 : decode cX11_mendBoth 40 = .ok (.if_icmp .ne 6, 3) := by decide +kernel
theorem dX11_mendBoth_43 : decode cX11_mendBoth 43 = .ok (.goto 81, 3) := by decide +kernel
theorem dX11_mendBoth_46 : decode cX11_mendBoth 46 = .ok (.aload_n 0, 1) := by decide +kernel
theorem dX11_mendBoth_47 : decode cX11_mendBoth 47 = .ok (.getfield 68, 3) := by decide +kernel
theorem dX11_mendBoth_50 : decode cX11_mendBoth 50 = .ok (.iload 4, 2) := by decide +kernel
theorem dX11_mendBoth_52 : decode cX11_mendBoth 52 = .ok (.iload 7, 2) := by decide +kernel
theorem dX11_mendBoth_54 : decode cX11_mendBoth 54 = .ok (.iastore, 1) := by decide +kernel
theorem dX11_mendBoth_55 : decode cX11_mendBoth 55 = .ok (.iconst 0, 1) := by decide +kernel
theorem dX11_mendBoth_56 : decode cX11_mendBoth 56 = .ok (.istore 8, 2) := by decide +kernel
theorem dX11_mendBoth_58 : decode cX11_mendBoth 58 = .ok (.iload 8, 2) := by decide +kernel
theorem dX11_mendBoth_60 : decode cX11_mendBoth 60 = .ok (.bipush 10, 2) := by decide +kernel
theorem dX11_mendBoth_62 : decode cX11_mendBoth 62 = .ok (.if_icmp .ge 62, 3) := by decide +kernel
theorem dX11_mendBoth_65 : decode cX11_mendBoth 65 = .ok (.iload 6, 2) := by decide +kernel
theorem dX11_mendBoth_67 : decode cX11_mendBoth 67 = .ok (.iconst (-1), 1) := by decide +kernel
theorem dX11_mendBoth_68 : decode cX11_mendBoth 68 = .ok (.if_icmp .ne 56, 3) := by decide +kernel
theorem dX11_mendBoth_71 : decode cX11_mendBoth 71 = .ok (.iload 8, 2) := by decide +kernel
theorem dX11_mendBoth_73 : decode cX11_mendBoth 73 = .ok (.aload_n 0, 1) := by decide +kernel
theorem dX11_mendBoth_74 : decode cX11_mendBoth 74 = .ok (.getfield 68, 3) := by decide +kernel
theorem dX11_mendBoth_77 : decode cX11_mendBoth 77 = .ok (.bipush 10, 2) := by decide +kernel
theorem dX11_mendBoth_79 : decode cX11_mendBoth 79 = .ok (.iload_n 1, 1) := by decide +kernel
theorem dX11_mendBoth_80 : decode cX11_mendBoth 80 = .ok (.imul, 1) := by decide +kernel
theorem dX11_mendBoth_81 : decode cX11_mendBoth 81 = .ok (.iload_n 3, 1) := by decide +kernel
theorem dX11_mendBoth_82 : decode cX11_mendBoth 82 = .ok (.iadd, 1) := by decide +kernel
theorem dX11_mendBoth_83 : decode cX11_mendBoth 83 = .ok (.iaload, 1) := by decide +kernel
theorem dX11_mendBoth_84 : decode cX11_mendBoth 84 = .ok (.if_icmp .eq 34, 3) := by decide +kernel
theorem dX11_mendBoth_87 : decode cX11_mendBoth 87 = .ok (.aload_n 0, 1) := by decide +kernel
theorem dX11_mendBoth_88 : decode cX11_mendBoth 88 = .ok (.iload_n 1, 1) := by decide +kernel
theorem dX11_mendBoth_89 : decode cX11_mendBoth 89 = .ok (.iload_n 3, 1) := by decide +kernel
theorem dX11_mendBoth_90 : decode cX11_mendBoth 90 = .ok (.iload 8, 2) := by decide +kernel
theorem dX11_mendBoth_92 : decode cX11_mendBoth 92 = .ok (.invokevirtual 452, 3) := by decide +kernel
theorem dX11_mendBoth_95 : decode cX11_mendBoth 95 = .ok (.ifCond .eq 23, 3) := by decide +kernel
theorem dX11_mendBoth_98 : decode cX11_mendBoth 98 = .ok (.bipush 100, 2) := by decide +kernel
theorem dX11_mendBoth_100 : decode cX11_mendBoth 100 = .ok (.bipush 10, 2) := by decide +kernel
theorem dX11_mendBoth_102 : decode cX11_mendBoth 102 = .ok (.iload_n 2, 1) := by decide +kernel
theorem dX11_mendBoth_103 : decode cX11_mendBoth 103 = .ok (.imul, 1) := by decide +kernel
theorem dX11_mendBoth_104 : decode cX11_mendBoth 104 = .ok (.iload 7, 2) := by decide +kernel
theorem dX11_mendBoth_106 : decode cX11_mendBoth 106 = .ok (.iadd, 1) := by decide +kernel
theorem dX11_mendBoth_107 : decode cX11_mendBoth 107 = .ok (.imul, 1) := by decide +kernel
theorem dX11_mendBoth_108 : decode cX11_mendBoth 108 = .ok (.bipush 10, 2) := by decide +kernel
theorem dX11_mendBoth_110 : decode cX11_mendBoth 110 = .ok (.iload_n 3, 1) := by decide +kernel
theorem dX11_mendBoth_111 : decode cX11_mendBoth 111 = .ok (.imul, 1) := by decide +kernel
theorem dX11_mendBoth_112 : decode cX11_mendBoth 112 = .ok (.iadd, 1) := by decide +kernel
theorem dX11_mendBoth_113 : decode cX11_mendBoth 113 = .ok (.iload 8, 2) := by decide +kernel
theorem dX11_mendBoth_115 : decode cX11_mendBoth 115 = .ok (.iadd, 1) := by decide +kernel
theorem dX11_mendBoth_116 : decode cX11_mendBoth 116 = .ok (.istore 6, 2) := by decide +kernel
theorem dX11_mendBoth_118 : decode cX11_mendBoth 118 = .ok (.iinc 8 1, 3) := by decide +kernel
theorem dX11_mendBoth_121 : decode cX11_mendBoth 121 = .ok (.goto (-63), 3) := by decide +kernel
theorem dX11_mendBoth_124 : decode cX11_mendBoth 124 = .ok (.iinc 7 1, 3) := by decide +kernel
theorem dX11_mendBoth_127 : decode cX11_mendBoth 127 = .ok (.goto (-104), 3) := by decide +kernel
theorem dX11_mendBoth_130 : decode cX11_mendBoth 130 = .ok (.aload_n 0, 1) := by decide +kernel
theorem dX11_mendBoth_131 : decode cX11_mendBoth 131 = .ok (.getfield 68, 3) := by decide +kernel
theorem dX11_mendBoth_134 : decode cX11_mendBoth 134 = .ok (.iload 4, 2) := by decide +kernel
theorem dX11_mendBoth_136 : decode cX11_mendBoth 136 = .ok (.iload 5, 2) := by decide +kernel
theorem dX11_mendBoth_138 : decode cX11_mendBoth 138 = .ok (.iastore, 1) := by decide +kernel
theorem dX11_mendBoth_139 : decode cX11_mendBoth 139 = .ok (.iload 6, 2) := by decide +kernel
theorem dX11_mendBoth_141 : decode cX11_mendBoth 141 = .ok (.ireturn, 1) := by decide +kernel
theorem dX11_mend_0 : decode cX11_mend 0 = .ok (.aload_n 0, 1) := by decide +kernel
theorem dX11_mend_1 : decode cX11_mend 1 = .ok (.iconst 0, 1) := by decide +kernel
theorem dX11_mend_2 : decode cX11_mend 2 = .ok (.putfield 159, 3) := by decide +kernel
theorem dX11_mend_5 : decode cX11_mend 5 = .ok (.aload_n 0, 1) := by decide +kernel
theorem dX11_mend_6 : decode cX11_mend 6 = .ok (.iload_n 1, 1) := by decide +kernel
theorem dX11_mend_7 : decode cX11_mend 7 = .ok (.invokevirtual 166, 3) := by decide +kernel
theorem dX11_mend_10 : decode cX11_mend 10 = .ok (.ifCond .eq 12, 3) := by decide +kernel
theorem dX11_mend_13 : decode cX11_mend 13 = .ok (.iload_n 2, 1) := by decide +kernel
theorem dX11_mend_14 : decode cX11_mend 14 = .ok (.ifCond .lt 8, 3) := by decide +kernel
theorem dX11_mend_17 : decode cX11_mend 17 = .ok (.iload_n 2, 1) := by decide +kernel
theorem dX11_mend_18 : decode cX11_mend 18 = .ok (.iconst 1, 1) := by decide +kernel
theorem dX11_mend_19 : decode cX11_mend 19 = .ok (.if_icmp .le 9, 3) := by decide +kernel
theorem dX11_mend_22 : decode cX11_mend 22 = .ok (.aload_n 0, 1) := by decide +kernel
theorem dX11_mend_23 : decode cX11_mend 23 = .ok (.iconst 1, 1) := by decide +kernel
theorem dX11_mend_24 : decode cX11_mend 24 = .ok (.invokevirtual 304, 3) := by decide +kernel
theorem dX11_mend_27 : decode cX11_mend 27 = .ok (.ireturn, 1) := by decide +kernel
theorem dX11_mend_28 : decode cX11_mend 28 = .ok (.aload_n 0, 1) := by decide +kernel
theorem dX11_mend_29 : decode cX11_mend 29 = .ok (.iload_n 1, 1) := by decide +kernel
theorem dX11_mend_30 : decode cX11_mend 30 = .ok (.invokevirtual 360, 3) := by decide +kernel
theorem dX11_mend_33 : decode cX11_mend 33 = .ok (.ifCond .eq 13, 3) := by decide +kernel
theorem dX11_mend_36 : decode cX11_mend 36 = .ok (.iload_n 2, 1) := by decide +kernel
theorem dX11_mend_37 : decode cX11_mend 37 = .ok (.ifCond .ne 7, 3) := by decide +kernel
theorem dX11_mend_40 : decode cX11_mend 40 = .ok (.iconst 0, 1) := by decide +kernel
theorem dX11_mend_41 : decode cX11_mend 41 = .ok (.goto 4, 3) := by decide +kernel
theorem dX11_mend_44 : decode cX11_mend 44 = .ok (.iconst (-1), 1) := by decide +kernel
theorem dX11_mend_45 : decode cX11_mend 45 = .ok (.ireturn, 1) := by decide +kernel
theorem dX11_mend_46 : decode cX11_mend 46 = .ok (.aload_n 0, 1) := by decide +kernel
theorem dX11_mend_47 : decode cX11_mend 47 = .ok (.iload_n 1, 1) := by decide +kernel
theorem dX11_mend_48 : decode cX11_mend 48 = .ok (.iconst 0, 1) := by decide +kernel
theorem dX11_mend_49 : decode cX11_mend 49 = .ok (.invokevirtual 458, 3) := by decide +kernel
theorem dX11_mend_52 : decode cX11_mend 52 = .ok (.istore_n 3, 1) := by decide +kernel
theorem dX11_mend_53 : decode cX11_mend 53 = .ok (.iload_n 3, 1) := by decide +kernel
theorem dX11_mend_54 : decode cX11_mend 54 = .ok (.iconst (-1), 1) := by decide +kernel
theorem dX11_mend_55 : decode cX11_mend 55 = .ok (.if_icmp .eq 13, 3) := by decide +kernel
theorem dX11_mend_58 : decode cX11_mend 58 = .ok (.iload_n 2, 1) := by decide +kernel
theorem dX11_mend_59 : decode cX11_mend 59 = .ok (.ifCond .ne 7, 3) := by decide +kernel
theorem dX11_mend_62 : decode cX11_mend 62 = .ok (.iconst 1, 1) := by decide +kernel
theorem dX11_mend_63 : decode cX11_mend 63 = .ok (.goto 4, 3) := by decide +kernel
theorem dX11_mend_66 : decode cX11_mend 66 = .ok (.iload_n 3, 1) := by decide +kernel
theorem dX11_mend_67 : decode cX11_mend 67 = .ok (.ireturn, 1) := by decide +kernel
theorem dX11_mend_68 : decode cX11_mend 68 = .ok (.aload_n 0, 1) := by decide +kernel
theorem dX11_mend_69 : decode cX11_mend 69 = .ok (.iload_n 1, 1) := by decide +kernel
theorem dX11_mend_70 : decode cX11_mend 70 = .ok (.invokevirtual 461, 3) := by decide +kernel
theorem dX11_mend_73 : decode cX11_mend 73 = .ok (.istore 4, 2) := by decide +kernel
theorem dX11_mend_75 : decode cX11_mend 75 = .ok (.iload 4, 2) := by decide +kernel
theorem dX11_mend_77 : decode cX11_mend 77 = .ok (.iconst (-1), 1) := by decide +kernel
theorem dX11_mend_78 : decode cX11_mend 78 = .ok (.if_icmp .ne 7, 3) := by decide +kernel
theorem dX11_mend_81 : decode cX11_mend 81 = .ok (.iconst (-1), 1) := by decide +kernel
theorem dX11_mend_82 : decode cX11_mend 82 = .ok (.goto 13, 3) := by decide +kernel
theorem dX11_mend_85 : decode cX11_mend 85 = .ok (.iload_n 2, 1) := by decide +kernel
theorem dX11_mend_86 : decode cX11_mend 86 = .ok (.ifCond .ne 7, 3) := by decide +kernel
theorem dX11_mend_89 : decode cX11_mend 89 = .ok (.iconst 2, 1) := by decide +kernel
theorem dX11_mend_90 : decode cX11_mend 90 = .ok (.goto 5, 3) := by decide +kernel
theorem dX11_mend_93 : decode cX11_mend 93 = .ok (.iload 4, 2) := by decide +kernel
theorem dX11_mend_95 : decode cX11_mend 95 = .ok (.ireturn, 1) := by decide +kernel
theorem dX11_costly_0 : decode cX11_costly 0 = .ok (.aload_n 0, 1) := by decide +kernel
theorem dX11_costly_1 : decode cX11_costly 1 = .ok (.iconst 0, 1) := by decide +kernel
theorem dX11_costly_2 : decode cX11_costly 2 = .ok (.putfield 159, 3) := by decide +kernel
theorem dX11_costly_5 : decode cX11_costly 5 = .ok (.aload_n 0, 1) := by decide +kernel
theorem dX11_costly_6 : decode cX11_costly 6 = .ok (.iload_n 1, 1) := by decide +kernel
theorem dX11_costly_7 : decode cX11_costly 7 = .ok (.invokevirtual 166, 3) := by decide +kernel
theorem dX11_costly_10 : decode cX11_costly 10 = .ok (.ifCond .ne 9, 3) := by decide +kernel
theorem dX11_costly_13 : decode cX11_costly 13 = .ok (.aload_n 0, 1) := by decide +kernel
theorem dX11_costly_14 : decode cX11_costly 14 = .ok (.iconst 1, 1) := by decide +kernel
theorem dX11_costly_15 : decode cX11_costly 15 = .ok (.invokevirtual 304, 3) := by decide +kernel
theorem dX11_costly_18 : decode cX11_costly 18 = .ok (.ireturn, 1) := by decide +kernel
theorem dX11_costly_19 : decode cX11_costly 19 = .ok (.iconst 0, 1) := by decide +kernel
theorem dX11_costly_20 : decode cX11_costly 20 = .ok (.istore_n 2, 1) := by decide +kernel
theorem dX11_costly_21 : decode cX11_costly 21 = .ok (.iload_n 2, 1) := by decide +kernel
theorem dX11_costly_22 : decode cX11_costly 22 = .ok (.aload_n 0, 1) := by decide +kernel
theorem dX11_costly_23 : decode cX11_costly 23 = .ok (.getfield 59, 3) := by decide +kernel
theorem dX11_costly_26 : decode cX11_costly 26 = .ok (.iload_n 1, 1) := by decide +kernel
theorem dX11_costly_27 : decode cX11_costly 27 = .ok (.iaload, 1) := by decide +kernel
theorem dX11_costly_28 : decode cX11_costly 28 = .ok (.if_icmp .ge 93, 3) := by decide +kernel
theorem dX11_costly_31 : decode cX11_costly 31 = .ok (.aload_n 0, 1) := by decide +kernel
theorem dX11_costly_32 : decode cX11_costly 32 = .ok (.iload_n 1, 1) := by decide +kernel
theorem dX11_costly_33 : decode cX11_costly 33 = .ok (.invokevirtual 363, 3) := by decide +kernel
theorem dX11_costly_36 : decode cX11_costly 36 = .ok (.ifCond .eq 85, 3) := by decide +kernel
theorem dX11_costly_39 : decode cX11_costly 39 = .ok (.aload_n 0, 1) := by decide +kernel
theorem dX11_costly_40 : decode cX11_costly 40 = .ok (.iload_n 1, 1) := by decide +kernel
theorem dX11_costly_41 : decode cX11_costly 41 = .ok (.iload_n 2, 1) := by decide +kernel
theorem dX11_costly_42 : decode cX11_costly 42 = .ok (.invokevirtual 444, 3) := by decide +kernel
theorem dX11_costly_45 : decode cX11_costly 45 = .ok (.ifCond .ne 6, 3) := by decide +kernel
theorem dX11_costly_48 : decode cX11_costly 48 = .ok (.goto 67, 3) := by decide +kernel
theorem dX11_costly_51 : decode cX11_costly 51 = .ok (.aload_n 0, 1) := by decide +kernel
theorem dX11_costly_52 : decode cX11_costly 52 = .ok (.getfield 68, 3) := by decide +kernel
theorem dX11_costly_55 : decode cX11_costly 55 = .ok (.bipush 10, 2) := by decide +kernel
theorem dX11_costly_57 : decode cX11_costly 57 = .ok (.iload_n 1, 1) := by decide +kernel
theorem dX11_costly_58 : decode cX11_costly 58 = .ok (.imul, 1) := by decide +kernel
theorem dX11_costly_59 : decode cX11_costly 59 = .ok (.iload_n 2, 1) := by decide +kernel
theorem dX11_costly_60 : decode cX11_costly 60 = .ok (.iadd, 1) := by decide +kernel
theorem dX11_costly_61 : decode cX11_costly 61 = .ok (.iaload, 1) := by decide +kernel
theorem dX11_costly_62 : decode cX11_costly 62 = .ok (.istore_n 3, 1) := by decide +kernel
theorem dX11_costly_63 : decode cX11_costly 63 = .ok (.iload_n 3, 1) := by decide +kernel
theorem dX11_costly_64 : decode cX11_costly 64 = .ok (.ifCond .le 24, 3) := by decide +kernel
theorem dX11_costly_67 : decode cX11_costly 67 = .ok (.aload_n 0, 1) := by decide +kernel
theorem dX11_costly_68 : decode cX11_costly 68 = .ok (.iload_n 1, 1) := by decide +kernel
theorem dX11_costly_69 : decode cX11_costly 69 = .ok (.iload_n 2, 1) := by decide +kernel
theorem dX11_costly_70 : decode cX11_costly 70 = .ok (.iload_n 3, 1) := by decide +kernel
theorem dX11_costly_71 : decode cX11_costly 71 = .ok (.iconst 1, 1) := by decide +kernel
theorem dX11_costly_72 : decode cX11_costly 72 = .ok (.isub, 1) := by decide +kernel
theorem dX11_costly_73 : decode cX11_costly 73 = .ok (.invokevirtual 452, 3) := by decide +kernel
theorem dX11_costly_76 : decode cX11_costly 76 = .ok (.ifCond .ne 12, 3) := by decide +kernel
theorem dX11_costly_79 : decode cX11_costly 79 = .ok (.bipush 10, 2) := by decide +kernel
theorem dX11_costly_81 : decode cX11_costly 81 = .ok (.iload_n 2, 1) := by decide +kernel
theorem dX11_costly_82 : decode cX11_costly 82 = .ok (.imul, 1) := by decide +kernel
theorem dX11_costly_83 : decode cX11_costly 83 = .ok (.iload_n 3, 1) := by decide +kernel
theorem dX11_costly_84 : decode cX11_costly 84 = .ok (.iadd, 1) := by decide +kernel
theorem dX11_costly_85 : decode cX11_costly 85 = .ok (.iconst 1, 1) := by decide +kernel
theorem dX11_costly_86 : decode cX11_costly 86 = .ok (.isub, 1) := by decide +kernel
theorem dX11_costly_87 : decode cX11_costly 87 = .ok (.ireturn, 1) := by decide +kernel
theorem dX11_costly_88 : decode cX11_costly 88 = .ok (.iload_n 3, 1) := by decide +kernel
theorem dX11_costly_89 : decode cX11_costly 89 = .ok (.bipush 9, 2) := by decide +kernel
theorem dX11_costly_91 : decode cX11_costly 91 = .ok (.if_icmp .ge 24, 3) := by decide +kernel
theorem dX11_costly_94 : decode cX11_costly 94 = .ok (.aload_n 0, 1) := by decide +kernel
theorem dX11_costly_95 : decode cX11_costly 95 = .ok (.iload_n 1, 1) := by decide +kernel
theorem dX11_costly_96 : decode cX11_costly 96 = .ok (.iload_n 2, 1) := by decide +kernel
theorem dX11_costly_97 : decode cX11_costly 97 = .ok (.iload_n 3, 1) := by decide +kernel
theorem dX11_costly_98 : decode cX11_costly 98 = .ok (.iconst 1, 1) := by decide +kernel
theorem dX11_costly_99 : decode cX11_costly 99 = .ok (.iadd, 1) := by decide +kernel
theorem dX11_costly_100 : decode cX11_costly 100 = .ok (.invokevirtual 452, 3) := by decide +kernel
theorem dX11_costly_103 : decode cX11_costly 103 = .ok (.ifCond .ne 12, 3) := by decide +kernel
theorem dX11_costly_106 : decode cX11_costly 106 = .ok (.bipush 10, 2) := by decide +kernel
theorem dX11_costly_108 : decode cX11_costly 108 = .ok (.iload_n 2, 1) := by decide +kernel
theorem dX11_costly_109 : decode cX11_costly 109 = .ok (.imul, 1) := by decide +kernel
theorem dX11_costly_110 : decode cX11_costly 110 = .ok (.iload_n 3, 1) := by decide +kernel
theorem dX11_costly_111 : decode cX11_costly 111 = .ok (.iadd, 1) := by decide +kernel
theorem dX11_costly_112 : decode cX11_costly 112 = .ok (.iconst 1, 1) := by decide +kernel
theorem dX11_costly_113 : decode cX11_costly 113 = .ok (.iadd, 1) := by decide +kernel
theorem dX11_costly_114 : decode cX11_costly 114 = .ok (.ireturn, 1) := by decide +kernel
theorem dX11_costly_115 : decode cX11_costly 115 = .ok (.iinc 2 1, 3) := by decide +kernel
theorem dX11_costly_118 : decode cX11_costly 118 = .ok (.goto (-97), 3) := by decide +kernel
theorem dX11_costly_121 : decode cX11_costly 121 = .ok (.iconst (-1), 1) := by decide +kernel
theorem dX11_costly_122 : decode cX11_costly 122 = .ok (.ireturn, 1) := by decide +kernel
theorem dX11_later_0 : decode cX11_later 0 = .ok (.aload_n 0, 1) := by decide +kernel
theorem dX11_later_1 : decode cX11_later 1 = .ok (.iconst 0, 1) := by decide +kernel
theorem dX11_later_2 : decode cX11_later 2 = .ok (.putfield 159, 3) := by decide +kernel
theorem dX11_later_5 : decode cX11_later 5 = .ok (.iload_n 1, 1) := by decide +kernel
theorem dX11_later_6 : decode cX11_later 6 = .ok (.i2l, 1) := by decide +kernel
theorem dX11_later_7 : decode cX11_later 7 = .ok (.lconst 0, 1) := by decide +kernel
theorem dX11_later_8 : decode cX11_later 8 = .ok (.ldc2_w 447, 3) := by decide +kernel
theorem dX11_later_11 : decode cX11_later 11 = .ok (.invokestatic 162, 3) := by decide +kernel
theorem dX11_later_14 : decode cX11_later 14 = .ok (.ifCond .ne 9, 3) := by decide +kernel
theorem dX11_later_17 : decode cX11_later 17 = .ok (.aload_n 0, 1) := by decide +kernel
theorem dX11_later_18 : decode cX11_later 18 = .ok (.iconst 1, 1) := by decide +kernel
theorem dX11_later_19 : decode cX11_later 19 = .ok (.invokevirtual 304, 3) := by decide +kernel
theorem dX11_later_22 : decode cX11_later 22 = .ok (.ireturn, 1) := by decide +kernel
theorem dX11_later_23 : decode cX11_later 23 = .ok (.aload_n 0, 1) := by decide +kernel
theorem dX11_later_24 : decode cX11_later 24 = .ok (.iload_n 1, 1) := by decide +kernel
theorem dX11_later_25 : decode cX11_later 25 = .ok (.putfield 333, 3) := by decide +kernel
theorem dX11_later_28 : decode cX11_later 28 = .ok (.aload_n 0, 1) := by decide +kernel
theorem dX11_later_29 : decode cX11_later 29 = .ok (.invokevirtual 399, 3) := by decide +kernel
theorem dX11_later_32 : decode cX11_later 32 = .ok (.invokestatic 464, 3) := by decide +kernel
theorem dX11_later_35 : decode cX11_later 35 = .ok (.istore_n 2, 1) := by decide +kernel
theorem dX11_later_36 : decode cX11_later 36 = .ok (.aload_n 0, 1) := by decide +kernel
theorem dX11_later_37 : decode cX11_later 37 = .ok (.iconst 0, 1) := by decide +kernel
theorem dX11_later_38 : decode cX11_later 38 = .ok (.putfield 333, 3) := by decide +kernel
theorem dX11_later_41 : decode cX11_later 41 = .ok (.iload_n 2, 1) := by decide +kernel
theorem dX11_later_42 : decode cX11_later 42 = .ok (.ireturn, 1) := by decide +kernel
theorem dX11_inTime_0 : decode cX11_inTime 0 = .ok (.aload_n 0, 1) := by decide +kernel
theorem dX11_inTime_1 : decode cX11_inTime 1 = .ok (.iconst 0, 1) := by decide +kernel
theorem dX11_inTime_2 : decode cX11_inTime 2 = .ok (.putfield 159, 3) := by decide +kernel
theorem dX11_inTime_5 : decode cX11_inTime 5 = .ok (.aload_n 0, 1) := by decide +kernel
theorem dX11_inTime_6 : decode cX11_inTime 6 = .ok (.iload_n 1, 1) := by decide +kernel
theorem dX11_inTime_7 : decode cX11_inTime 7 = .ok (.invokevirtual 166, 3) := by decide +kernel
theorem dX11_inTime_10 : decode cX11_inTime 10 = .ok (.ifCond .ne 9, 3) := by decide +kernel
theorem dX11_inTime_13 : decode cX11_inTime 13 = .ok (.aload_n 0, 1) := by decide +kernel
theorem dX11_inTime_14 : decode cX11_inTime 14 = .ok (.iconst 1, 1) := by decide +kernel
theorem dX11_inTime_15 : decode cX11_inTime 15 = .ok (.invokevirtual 304, 3) := by decide +kernel
theorem dX11_inTime_18 : decode cX11_inTime 18 = .ok (.ireturn, 1) := by decide +kernel
theorem dX11_inTime_19 : decode cX11_inTime 19 = .ok (.iload_n 2, 1) := by decide +kernel
theorem dX11_inTime_20 : decode cX11_inTime 20 = .ok (.i2l, 1) := by decide +kernel
theorem dX11_inTime_21 : decode cX11_inTime 21 = .ok (.lconst 1, 1) := by decide +kernel
theorem dX11_inTime_22 : decode cX11_inTime 22 = .ok (.ldc2_w 467, 3) := by decide +kernel
theorem dX11_inTime_25 : decode cX11_inTime 25 = .ok (.invokestatic 162, 3) := by decide +kernel
theorem dX11_inTime_28 : decode cX11_inTime 28 = .ok (.ifCond .ne 9, 3) := by decide +kernel
theorem dX11_inTime_31 : decode cX11_inTime 31 = .ok (.aload_n 0, 1) := by decide +kernel
theorem dX11_inTime_32 : decode cX11_inTime 32 = .ok (.iconst 2, 1) := by decide +kernel
theorem dX11_inTime_33 : decode cX11_inTime 33 = .ok (.invokevirtual 304, 3) := by decide +kernel
theorem dX11_inTime_36 : decode cX11_inTime 36 = .ok (.ireturn, 1) := by decide +kernel
theorem dX11_inTime_37 : decode cX11_inTime 37 = .ok (.iconst 0, 1) := by decide +kernel
theorem dX11_inTime_38 : decode cX11_inTime 38 = .ok (.istore_n 3, 1) := by decide +kernel
theorem dX11_inTime_39 : decode cX11_inTime 39 = .ok (.iconst 0, 1) := by decide +kernel
theorem dX11_inTime_40 : decode cX11_inTime 40 = .ok (.istore 4, 2) := by decide +kernel
theorem dX11_inTime_42 : decode cX11_inTime 42 = .ok (.iload 4, 2) := by decide +kernel
theorem dX11_inTime_44 : decode cX11_inTime 44 = .ok (.aload_n 0, 1) := by decide +kernel
theorem dX11_inTime_45 : decode cX11_inTime 45 = .ok (.getfield 59, 3) := by decide +kernel
theorem dX11_inTime_48 : decode cX11_inTime 48 = .ok (.iload_n 1, 1) := by decide +kernel
theorem dX11_inTime_49 : decode cX11_inTime 49 = .ok (.iaload, 1) := by decide +kernel
theorem dX11_inTime_50 : decode cX11_inTime 50 = .ok (.if_icmp .ge 100, 3) := by decide +kernel
theorem dX11_inTime_53 : decode cX11_inTime 53 = .ok (.aload_n 0, 1) := by decide +kernel
theorem dX11_inTime_54 : decode cX11_inTime 54 = .ok (.iload_n 1, 1) := by decide +kernel
theorem dX11_inTime_55 : decode cX11_inTime 55 = .ok (.invokevirtual 363, 3) := by decide +kernel
theorem dX11_inTime_58 : decode cX11_inTime 58 = .ok (.ifCond .eq 92, 3) := by decide +kernel
theorem dX11_inTime_61 : decode cX11_inTime 61 = .ok (.iconst 0, 1) := by decide +kernel
theorem dX11_inTime_62 : decode cX11_inTime 62 = .ok (.istore 5, 2) := by decide +kernel
theorem dX11_inTime_64 : decode cX11_inTime 64 = .ok (.iconst 0, 1) := by decide +kernel
theorem dX11_inTime_65 : decode cX11_inTime 65 = .ok (.istore 6, 2) := by decide +kernel
theorem dX11_inTime_67 : decode cX11_inTime 67 = .ok (.iload 6, 2) := by decide +kernel
theorem dX11_inTime_69 : decode cX11_inTime 69 = .ok (.iconst 2, 1) := by decide +kernel
theorem dX11_inTime_70 : decode cX11_inTime 70 = .ok (.if_icmp .ge 61, 3) := by decide +kernel
theorem dX11_inTime_73 : decode cX11_inTime 73 = .ok (.iload 5, 2) := by decide +kernel
theorem dX11_inTime_75 : decode cX11_inTime 75 = .ok (.ifCond .ne 43, 3) := by decide +kernel
theorem dX11_inTime_78 : decode cX11_inTime 78 = .ok (.aload_n 0, 1) := by decide +kernel
theorem dX11_inTime_79 : decode cX11_inTime 79 = .ok (.iload_n 1, 1) := by decide +kernel
theorem dX11_inTime_80 : decode cX11_inTime 80 = .ok (.iload 4, 2) := by decide +kernel
theorem dX11_inTime_82 : decode cX11_inTime 82 = .ok (.iload 6, 2) := by decide +kernel
theorem dX11_inTime_84 : decode cX11_inTime 84 = .ok (.invokevirtual 386, 3) := by decide +kernel
theorem dX11_inTime_87 : decode cX11_inTime 87 = .ok (.ifCond .eq 35, 3) := by decide +kernel
theorem dX11_inTime_90 : decode cX11_inTime 90 = .ok (.aload_n 0, 1) := by decide +kernel
theorem dX11_inTime_91 : decode cX11_inTime 91 = .ok (.iload_n 1, 1) := by decide +kernel
theorem dX11_inTime_92 : decode cX11_inTime 92 = .ok (.iload 4, 2) := by decide +kernel
theorem dX11_inTime_94 : decode cX11_inTime 94 = .ok (.iload 6, 2) := by decide +kernel
theorem dX11_inTime_96 : decode cX11_inTime 96 = .ok (.iload_n 2, 1) := by decide +kernel
theorem dX11_inTime_97 : decode cX11_inTime 97 = .ok (.invokevirtual 389, 3) := by decide +kernel
theorem dX11_inTime_100 : decode cX11_inTime 100 = .ok (.aload_n 0, 1) := by decide +kernel
theorem dX11_inTime_101 : decode cX11_inTime 101 = .ok (.iload_n 1, 1) := by decide +kernel
theorem dX11_inTime_102 : decode cX11_inTime 102 = .ok (.iload 4, 2) := by decide +kernel
theorem dX11_inTime_104 : decode cX11_inTime 104 = .ok (.iload 6, 2) := by decide +kernel
theorem dX11_inTime_106 : decode cX11_inTime 106 = .ok (.aload_n 0, 1) := by decide +kernel
theorem dX11_inTime_107 : decode cX11_inTime 107 = .ok (.getfield 57, 3) := by decide +kernel
theorem dX11_inTime_110 : decode cX11_inTime 110 = .ok (.iload_n 1, 1) := by decide +kernel
theorem dX11_inTime_111 : decode cX11_inTime 111 = .ok (.iaload, 1) := by decide +kernel
theorem dX11_inTime_112 : decode cX11_inTime 112 = .ok (.invokevirtual 389, 3) := by decide +kernel
theorem dX11_inTime_115 : decode cX11_inTime 115 = .ok (.if_icmp .eq 7, 3) := by decide +kernel
theorem dX11_inTime_118 : decode cX11_inTime 118 = .ok (.iconst 1, 1) := by decide +kernel
theorem dX11_inTime_119 : decode cX11_inTime 119 = .ok (.goto 4, 3) := by decide +kernel
theorem dX11_inTime_122 : decode cX11_inTime 122 = .ok (.iconst 0, 1) := by decide +kernel
theorem dX11_inTime_123 : decode cX11_inTime 123 = .ok (.istore 5, 2) := by decide +kernel
theorem dX11_inTime_125 : decode cX11_inTime 125 = .ok (.iinc 6 1, 3) := by decide +kernel
theorem dX11_inTime_128 : decode cX11_inTime 128 = .ok (.goto (-61), 3) := by decide +kernel
theorem dX11_inTime_131 : decode cX11_inTime 131 = .ok (.iload_n 3, 1) := by decide +kernel
theorem dX11_inTime_132 : decode cX11_inTime 132 = .ok (.iload 5, 2) := by decide +kernel
theorem dX11_inTime_134 : decode cX11_inTime 134 = .ok (.ifCond .eq 7, 3) := by decide +kernel
theorem dX11_inTime_137 : decode cX11_inTime 137 = .ok (.iconst 1, 1) := by decide +kernel
theorem dX11_inTime_138 : decode cX11_inTime 138 = .ok (.goto 4, 3) := by decide +kernel
theorem dX11_inTime_141 : decode cX11_inTime 141 = .ok (.iconst 0, 1) := by decide +kernel
theorem dX11_inTime_142 : decode cX11_inTime 142 = .ok (.iadd, 1) := by decide +kernel
theorem dX11_inTime_143 : decode cX11_inTime 143 = .ok (.istore_n 3, 1) := by decide +kernel
theorem dX11_inTime_144 : decode cX11_inTime 144 = .ok (.iinc 4 1, 3) := by decide +kernel
theorem dX11_inTime_147 : decode cX11_inTime 147 = .ok (.goto (-105), 3) := by decide +kernel
theorem dX11_inTime_150 : decode cX11_inTime 150 = .ok (.iload_n 3, 1) := by decide +kernel
theorem dX11_inTime_151 : decode cX11_inTime 151 = .ok (.ireturn, 1) := by decide +kernel
theorem dX11_apart_0 : decode cX11_apart 0 = .ok (.aload_n 0, 1) := by decide +kernel
theorem dX11_apart_1 : decode cX11_apart 1 = .ok (.iconst 0, 1) := by decide +kernel
theorem dX11_apart_2 : decode cX11_apart 2 = .ok (.putfield 159, 3) := by decide +kernel
theorem dX11_apart_5 : decode cX11_apart 5 = .ok (.aload_n 0, 1) := by decide +kernel
theorem dX11_apart_6 : decode cX11_apart 6 = .ok (.iload_n 1, 1) := by decide +kernel
theorem dX11_apart_7 : decode cX11_apart 7 = .ok (.invokevirtual 166, 3) := by decide +kernel
theorem dX11_apart_10 : decode cX11_apart 10 = .ok (.ifCond .ne 9, 3) := by decide +kernel
theorem dX11_apart_13 : decode cX11_apart 13 = .ok (.aload_n 0, 1) := by decide +kernel
theorem dX11_apart_14 : decode cX11_apart 14 = .ok (.iconst 1, 1) := by decide +kernel
theorem dX11_apart_15 : decode cX11_apart 15 = .ok (.invokevirtual 304, 3) := by decide +kernel
theorem dX11_apart_18 : decode cX11_apart 18 = .ok (.ireturn, 1) := by decide +kernel
theorem dX11_apart_19 : decode cX11_apart 19 = .ok (.aload_n 0, 1) := by decide +kernel
theorem dX11_apart_20 : decode cX11_apart 20 = .ok (.iload_n 1, 1) := by decide +kernel
theorem dX11_apart_21 : decode cX11_apart 21 = .ok (.aload_n 0, 1) := by decide +kernel
theorem dX11_apart_22 : decode cX11_apart 22 = .ok (.getfield 59, 3) := by decide +kernel
theorem dX11_apart_25 : decode cX11_apart 25 = .ok (.iload_n 1, 1) := by decide +kernel
theorem dX11_apart_26 : decode cX11_apart 26 = .ok (.iaload, 1) := by decide +kernel
theorem dX11_apart_27 : decode cX11_apart 27 = .ok (.invokevirtual 351, 3) := by decide +kernel
theorem dX11_apart_30 : decode cX11_apart 30 = .ok (.pop, 1) := by decide +kernel
theorem dX11_apart_31 : decode cX11_apart 31 = .ok (.aload_n 0, 1) := by decide +kernel
theorem dX11_apart_32 : decode cX11_apart 32 = .ok (.getfield 96, 3) := by decide +kernel
theorem dX11_apart_35 : decode cX11_apart 35 = .ok (.iconst 0, 1) := by decide +kernel
theorem dX11_apart_36 : decode cX11_apart 36 = .ok (.iaload, 1) := by decide +kernel
theorem dX11_apart_37 : decode cX11_apart 37 = .ok (.aload_n 0, 1) := by decide +kernel
theorem dX11_apart_38 : decode cX11_apart 38 = .ok (.getfield 96, 3) := by decide +kernel
theorem dX11_apart_41 : decode cX11_apart 41 = .ok (.iconst 1, 1) := by decide +kernel
theorem dX11_apart_42 : decode cX11_apart 42 = .ok (.iaload, 1) := by decide +kernel
theorem dX11_apart_43 : decode cX11_apart 43 = .ok (.isub, 1) := by decide +kernel
theorem dX11_apart_44 : decode cX11_apart 44 = .ok (.invokestatic 469, 3) := by decide +kernel
theorem dX11_apart_47 : decode cX11_apart 47 = .ok (.aload_n 0, 1) := by decide +kernel
theorem dX11_apart_48 : decode cX11_apart 48 = .ok (.getfield 99, 3) := by decide +kernel
theorem dX11_apart_51 : decode cX11_apart 51 = .ok (.iconst 0, 1) := by decide +kernel
theorem dX11_apart_52 : decode cX11_apart 52 = .ok (.iaload, 1) := by decide +kernel
theorem dX11_apart_53 : decode cX11_apart 53 = .ok (.aload_n 0, 1) := by decide +kernel
theorem dX11_apart_54 : decode cX11_apart 54 = .ok (.getfield 99, 3) := by decide +kernel
theorem dX11_apart_57 : decode cX11_apart 57 = .ok (.iconst 1, 1) := by decide +kernel
theorem dX11_apart_58 : decode cX11_apart 58 = .ok (.iaload, 1) := by decide +kernel
theorem dX11_apart_59 : decode cX11_apart 59 = .ok (.isub, 1) := by decide +kernel
theorem dX11_apart_60 : decode cX11_apart 60 = .ok (.invokestatic 469, 3) := by decide +kernel
theorem dX11_apart_63 : decode cX11_apart 63 = .ok (.iadd, 1) := by decide +kernel
