theorem dX11_debtor_0 : decode cX11_debtor 0 = .ok (.aload_n 0, 1) := by decide +kernel
theorem dX11_debtor_1 : decode cX11_debtor 1 = .ok (.iconst 0, 1) := by decide +kernel
theorem dX11_debtor_2 : decode cX11_debtor 2 = .ok (.putfield 61, 3) := by decide +kernel
theorem dX11_debtor_5 : decode cX11_debtor 5 = .ok (.iconst 0, 1) := by decide +kernel
theorem dX11_debtor_6 : decode cX11_debtor 6 = .ok (.istore_n 2, 1) := by decide +kernel
theorem dX11_debtor_7 : decode cX11_debtor 7 = .ok (.iload_n 2, 1) := by decide +kernel
theorem dX11_debtor_8 : decode cX11_debtor 8 = .ok (.aload_n 0, 1) := by decide +kernel
theorem dX11_debtor_9 : decode cX11_debtor 9 = .ok (.getfield 7, 3) := by decide +kernel
theorem dX11_debtor_12 : decode cX11_debtor 12 = .ok (.iconst 2, 1) := by decide +kernel
theorem dX11_debtor_13 : decode cX11_debtor 13 = .ok (.iaload, 1) := by decide +kernel
theorem dX11_debtor_14 : decode cX11_debtor 14 = .ok (.if_icmp .ge 91, 3) := by decide +kernel
theorem dX11_debtor_17 : decode cX11_debtor 17 = .ok (.iconst 0, 1) := by decide +kernel
theorem dX11_debtor_18 : decode cX11_debtor 18 = .ok (.istore_n 3, 1) := by decide +kernel
theorem dX11_debtor_19 : decode cX11_debtor 19 = .ok (.iconst 0, 1) := by decide +kernel
theorem dX11_debtor_20 : decode cX11_debtor 20 = .ok (.istore 4, 2) := by decide +kernel
theorem dX11_debtor_22 : decode cX11_debtor 22 = .ok (.iload 4, 2) := by decide +kernel
theorem dX11_debtor_24 : decode cX11_debtor 24 = .ok (.aload_n 0, 1) := by decide +kernel
theorem dX11_debtor_25 : decode cX11_debtor 25 = .ok (.getfield 7, 3) := by decide +kernel
theorem dX11_debtor_28 : decode cX11_debtor 28 = .ok (.iconst 2, 1) := by decide +kernel
theorem dX11_debtor_29 : decode cX11_debtor 29 = .ok (.iaload, 1) := by decide +kernel
theorem dX11_debtor_30 : decode cX11_debtor 30 = .ok (.if_icmp .ge 62, 3) := by decide +kernel
theorem dX11_debtor_33 : decode cX11_debtor 33 = .ok (.aload_n 0, 1) := by decide +kernel
theorem dX11_debtor_34 : decode cX11_debtor 34 = .ok (.getfield 19, 3) := by decide +kernel
theorem dX11_debtor_37 : decode cX11_debtor 37 = .ok (.bipush 8, 2) := by decide +kernel
theorem dX11_debtor_39 : decode cX11_debtor 39 = .ok (.iload 4, 2) := by decide +kernel
theorem dX11_debtor_41 : decode cX11_debtor 41 = .ok (.iadd, 1) := by decide +kernel
theorem dX11_debtor_42 : decode cX11_debtor 42 = .ok (.laload, 1) := by decide +kernel
theorem dX11_debtor_43 : decode cX11_debtor 43 = .ok (.lstore 5, 2) := by decide +kernel
theorem dX11_debtor_45 : decode cX11_debtor 45 = .ok (.aload_n 0, 1) := by decide +kernel
theorem dX11_debtor_46 : decode cX11_debtor 46 = .ok (.getfield 19, 3) := by decide +kernel
theorem dX11_debtor_49 : decode cX11_debtor 49 = .ok (.bipush 8, 2) := by decide +kernel
theorem dX11_debtor_51 : decode cX11_debtor 51 = .ok (.iload_n 2, 1) := by decide +kernel
theorem dX11_debtor_52 : decode cX11_debtor 52 = .ok (.iadd, 1) := by decide +kernel
theorem dX11_debtor_53 : decode cX11_debtor 53 = .ok (.laload, 1) := by decide +kernel
theorem dX11_debtor_54 : decode cX11_debtor 54 = .ok (.lstore 7, 2) := by decide +kernel
theorem dX11_debtor_56 : decode cX11_debtor 56 = .ok (.iload_n 3, 1) := by decide +kernel
theorem dX11_debtor_57 : decode cX11_debtor 57 = .ok (.lload 5, 2) := by decide +kernel
theorem dX11_debtor_59 : decode cX11_debtor 59 = .ok (.lload 7, 2) := by decide +kernel
theorem dX11_debtor_61 : decode cX11_debtor 61 = .ok (.lcmp, 1) := by decide +kernel
theorem dX11_debtor_62 : decode cX11_debtor 62 = .ok (.ifCond .lt 17, 3) := by decide +kernel
theorem dX11_debtor_65 : decode cX11_debtor 65 = .ok (.lload 5, 2) := by decide +kernel
theorem dX11_debtor_67 : decode cX11_debtor 67 = .ok (.lload 7, 2) := by decide +kernel
theorem dX11_debtor_69 : decode cX11_debtor 69 = .ok (.lcmp, 1) := by decide +kernel
theorem dX11_debtor_70 : decode cX11_debtor 70 = .ok (.ifCond .ne 13, 3) := by decide +kernel
theorem dX11_debtor_73 : decode cX11_debtor 73 = .ok (.iload 4, 2) := by decide +kernel
theorem dX11_debtor_75 : decode cX11_debtor 75 = .ok (.iload_n 2, 1) := by decide +kernel
theorem dX11_debtor_76 : decode cX11_debtor 76 = .ok (.if_icmp .ge 7, 3) := by decide +kernel
theorem dX11_debtor_79 : decode cX11_debtor 79 = .ok (.iconst 1, 1) := by decide +kernel
theorem dX11_debtor_80 : decode cX11_debtor 80 = .ok (.goto 4, 3) := by decide +kernel
theorem dX11_debtor_83 : decode cX11_debtor 83 = .ok (.iconst 0, 1) := by decide +kernel
theorem dX11_debtor_84 : decode cX11_debtor 84 = .ok (.iadd, 1) := by decide +kernel
theorem dX11_debtor_85 : decode cX11_debtor 85 = .ok (.istore_n 3, 1) := by decide +kernel
theorem dX11_debtor_86 : decode cX11_debtor 86 = .ok (.iinc 4 1, 3) := by decide +kernel
theorem dX11_debtor_89 : decode cX11_debtor 89 = .ok (.goto (-67), 3) := by decide +kernel
theorem dX11_debtor_92 : decode cX11_debtor 92 = .ok (.iload_n 3, 1) := by decide +kernel
theorem dX11_debtor_93 : decode cX11_debtor 93 = .ok (.iload_n 1, 1) := by decide +kernel
theorem dX11_debtor_94 : decode cX11_debtor 94 = .ok (.if_icmp .ne 5, 3) := by decide +kernel
theorem dX11_debtor_97 : decode cX11_debtor 97 = .ok (.iload_n 2, 1) := by decide +kernel
theorem dX11_debtor_98 : decode cX11_debtor 98 = .ok (.ireturn, 1) := by decide +kernel
theorem dX11_debtor_99 : decode cX11_debtor 99 = .ok (.iinc 2 1, 3) := by decide +kernel
theorem dX11_debtor_102 : decode cX11_debtor 102 = .ok (.goto (-95), 3) := by decide +kernel
theorem dX11_debtor_105 : decode cX11_debtor 105 = .ok (.iconst (-1), 1) := by decide +kernel
theorem dX11_debtor_106 : decode cX11_debtor 106 = .ok (.ireturn, 1) := by decide +kernel
theorem dX11_commonDivisor_0 : decode cX11_commonDivisor 0 = .ok (.iload_n 0, 1) := by decide +kernel
theorem dX11_commonDivisor_1 : decode cX11_commonDivisor 1 = .ok (.istore_n 2, 1) := by decide +kernel
theorem dX11_commonDivisor_2 : decode cX11_commonDivisor 2 = .ok (.iload_n 1, 1) := by decide +kernel
theorem dX11_commonDivisor_3 : decode cX11_commonDivisor 3 = .ok (.istore_n 3, 1) := by decide +kernel
theorem dX11_commonDivisor_4 : decode cX11_commonDivisor 4 = .ok (.iload_n 3, 1) := by decide +kernel
theorem dX11_commonDivisor_5 : decode cX11_commonDivisor 5 = .ok (.ifCond .eq 16, 3) := by decide +kernel
theorem dX11_commonDivisor_8 : decode cX11_commonDivisor 8 = .ok (.iload_n 2, 1) := by decide +kernel
theorem dX11_commonDivisor_9 : decode cX11_commonDivisor 9 = .ok (.iload_n 3, 1) := by decide +kernel
theorem dX11_commonDivisor_10 : decode cX11_commonDivisor 10 = .ok (.irem, 1) := by decide +kernel
theorem dX11_commonDivisor_11 : decode cX11_commonDivisor 11 = .ok (.istore 4, 2) := by decide +kernel
theorem dX11_commonDivisor_13 : decode cX11_commonDivisor 13 = .ok (.iload_n 3, 1) := by decide +kernel
theorem dX11_commonDivisor_14 : decode cX11_commonDivisor 14 = .ok (.istore_n 2, 1) := by decide +kernel
theorem dX11_commonDivisor_15 : decode cX11_commonDivisor 15 = .ok (.iload 4, 2) := by decide +kernel
theorem dX11_commonDivisor_17 : decode cX11_commonDivisor 17 = .ok (.istore_n 3, 1) := by decide +kernel
theorem dX11_commonDivisor_18 : decode cX11_commonDivisor 18 = .ok (.goto (-14), 3) := by decide +kernel
theorem dX11_commonDivisor_21 : decode cX11_commonDivisor 21 = .ok (.iload_n 2, 1) := by decide +kernel
theorem dX11_commonDivisor_22 : decode cX11_commonDivisor 22 = .ok (.ireturn, 1) := by decide +kernel
theorem dX11_meanDetour_0 : decode cX11_meanDetour 0 = .ok (.iconst 0, 1) := by decide +kernel
theorem dX11_meanDetour_1 : decode cX11_meanDetour 1 = .ok (.istore_n 2, 1) := by decide +kernel
theorem dX11_meanDetour_2 : decode cX11_meanDetour 2 = .ok (.iconst 0, 1) := by decide +kernel
theorem dX11_meanDetour_3 : decode cX11_meanDetour 3 = .ok (.istore_n 3, 1) := by decide +kernel
theorem dX11_meanDetour_4 : decode cX11_meanDetour 4 = .ok (.iconst 0, 1) := by decide +kernel
theorem dX11_meanDetour_5 : decode cX11_meanDetour 5 = .ok (.istore 4, 2) := by decide +kernel
theorem dX11_meanDetour_7 : decode cX11_meanDetour 7 = .ok (.iload 4, 2) := by decide +kernel
theorem dX11_meanDetour_9 : decode cX11_meanDetour 9 = .ok (.aload_n 0, 1) := by decide +kernel
theorem dX11_meanDetour_10 : decode cX11_meanDetour 10 = .ok (.getfield 7, 3) := by decide +kernel
theorem dX11_meanDetour_13 : decode cX11_meanDetour 13 = .ok (.iconst 1, 1) := by decide +kernel
theorem dX11_meanDetour_14 : decode cX11_meanDetour 14 = .ok (.iaload, 1) := by decide +kernel
theorem dX11_meanDetour_15 : decode cX11_meanDetour 15 = .ok (.if_icmp .ge 39, 3) := by decide +kernel
theorem dX11_meanDetour_18 : decode cX11_meanDetour 18 = .ok (.aload_n 0, 1) := by decide +kernel
theorem dX11_meanDetour_19 : decode cX11_meanDetour 19 = .ok (.iload 4, 2) := by decide +kernel
theorem dX11_meanDetour_21 : decode cX11_meanDetour 21 = .ok (.bipush 9, 2) := by decide +kernel
theorem dX11_meanDetour_23 : decode cX11_meanDetour 23 = .ok (.invokevirtual 68, 3) := by decide +kernel
theorem dX11_meanDetour_26 : decode cX11_meanDetour 26 = .ok (.ifCond .le 22, 3) := by decide +kernel
theorem dX11_meanDetour_29 : decode cX11_meanDetour 29 = .ok (.iload_n 2, 1) := by decide +kernel
theorem dX11_meanDetour_30 : decode cX11_meanDetour 30 = .ok (.aload_n 0, 1) := by decide +kernel
theorem dX11_meanDetour_31 : decode cX11_meanDetour 31 = .ok (.iload 4, 2) := by decide +kernel
theorem dX11_meanDetour_33 : decode cX11_meanDetour 33 = .ok (.invokevirtual 163, 3) := by decide +kernel
theorem dX11_meanDetour_36 : decode cX11_meanDetour 36 = .ok (.aload_n 0, 1) := by decide +kernel
theorem dX11_meanDetour_37 : decode cX11_meanDetour 37 = .ok (.iload 4, 2) := by decide +kernel
theorem dX11_meanDetour_39 : decode cX11_meanDetour 39 = .ok (.invokevirtual 102, 3) := by decide +kernel
theorem dX11_meanDetour_42 : decode cX11_meanDetour 42 = .ok (.isub, 1) := by decide +kernel
theorem dX11_meanDetour_43 : decode cX11_meanDetour 43 = .ok (.iadd, 1) := by decide +kernel
theorem dX11_meanDetour_44 : decode cX11_meanDetour 44 = .ok (.istore_n 2, 1) := by decide +kernel
theorem dX11_meanDetour_45 : decode cX11_meanDetour 45 = .ok (.iinc 3 1, 3) := by decide +kernel
theorem dX11_meanDetour_48 : decode cX11_meanDetour 48 = .ok (.iinc 4 1, 3) := by decide +kernel
theorem dX11_meanDetour_51 : decode cX11_meanDetour 51 = .ok (.goto (-44), 3) := by decide +kernel
theorem dX11_meanDetour_54 : decode cX11_meanDetour 54 = .ok (.iload_n 2, 1) := by decide +kernel
theorem dX11_meanDetour_55 : decode cX11_meanDetour 55 = .ok (.ifCond .ne 13, 3) := by decide +kernel
theorem dX11_meanDetour_58 : decode cX11_meanDetour 58 = .ok (.iload_n 1, 1) := by decide +kernel
theorem dX11_meanDetour_59 : decode cX11_meanDetour 59 = .ok (.ifCond .eq 7, 3) := by decide +kernel
theorem dX11_meanDetour_62 : decode cX11_meanDetour 62 = .ok (.iconst 0, 1) := by decide +kernel
theorem dX11_meanDetour_63 : decode cX11_meanDetour 63 = .ok (.goto 4, 3) := by decide +kernel
theorem dX11_meanDetour_66 : decode cX11_meanDetour 66 = .ok (.iconst 1, 1) := by decide +kernel
theorem dX11_meanDetour_67 : decode cX11_meanDetour 67 = .ok (.ireturn, 1) := by decide +kernel
theorem dX11_meanDetour_68 : decode cX11_meanDetour 68 = .ok (.iload_n 1, 1) := by decide +kernel
theorem dX11_meanDetour_69 : decode cX11_meanDetour 69 = .ok (.ifCond .eq 7, 3) := by decide +kernel
theorem dX11_meanDetour_72 : decode cX11_meanDetour 72 = .ok (.iload_n 2, 1) := by decide +kernel
theorem dX11_meanDetour_73 : decode cX11_meanDetour 73 = .ok (.goto 4, 3) := by decide +kernel
theorem dX11_meanDetour_76 : decode cX11_meanDetour 76 = .ok (.iload_n 3, 1) := by decide +kernel
theorem dX11_meanDetour_77 : decode cX11_meanDetour 77 = .ok (.iload_n 2, 1) := by decide +kernel
theorem dX11_meanDetour_78 : decode cX11_meanDetour 78 = .ok (.iload_n 3, 1) := by decide +kernel
theorem dX11_meanDetour_79 : decode cX11_meanDetour 79 = .ok (.invokestatic 270, 3) := by decide +kernel
theorem dX11_meanDetour_82 : decode cX11_meanDetour 82 = .ok (.idiv, 1) := by decide +kernel
theorem dX11_meanDetour_83 : decode cX11_meanDetour 83 = .ok (.ireturn, 1) := by decide +kernel
theorem dX11_meanDetourNumerator_0 : decode cX11_meanDetourNumerator 0 = .ok (.aload_n 0, 1) := by decide +kernel
theorem dX11_meanDetourNumerator_1 : decode cX11_meanDetourNumerator 1 = .ok (.iconst 0, 1) := by decide +kernel
theorem dX11_meanDetourNumerator_2 : decode cX11_meanDetourNumerator 2 = .ok (.putfield 61, 3) := by decide +kernel
theorem dX11_meanDetourNumerator_5 : decode cX11_meanDetourNumerator 5 = .ok (.aload_n 0, 1) := by decide +kernel
theorem dX11_meanDetourNumerator_6 : decode cX11_meanDetourNumerator 6 = .ok (.iconst 1, 1) := by decide +kernel
theorem dX11_meanDetourNumerator_7 : decode cX11_meanDetourNumerator 7 = .ok (.invokevirtual 273, 3) := by decide +kernel
theorem dX11_meanDetourNumerator_10 : decode cX11_meanDetourNumerator 10 = .ok (.ireturn, 1) := by decide +kernel
theorem dX11_meanDetourDenominator_0 : decode cX11_meanDetourDenominator 0 = .ok (.aload_n 0, 1) := by decide +kernel
theorem dX11_meanDetourDenominator_1 : decode cX11_meanDetourDenominator 1 = .ok (.iconst 0, 1) := by decide +kernel
theorem dX11_meanDetourDenominator_2 : decode cX11_meanDetourDenominator 2 = .ok (.putfield 61, 3) := by decide +kernel
theorem dX11_meanDetourDenominator_5 : decode cX11_meanDetourDenominator 5 = .ok (.aload_n 0, 1) := by decide +kernel
theorem dX11_meanDetourDenominator_6 : decode cX11_meanDetourDenominator 6 = .ok (.iconst 0, 1) := by decide +kernel
theorem dX11_meanDetourDenominator_7 : decode cX11_meanDetourDenominator 7 = .ok (.invokevirtual 273, 3) := by decide +kernel
theorem dX11_meanDetourDenominator_10 : decode cX11_meanDetourDenominator 10 = .ok (.ireturn, 1) := by decide +kernel
theorem dX11_appendText_0 : decode cX11_appendText 0 = .ok (.aload_n 0, 1) := by decide +kernel
theorem dX11_appendText_1 : decode cX11_appendText 1 = .ok (.iconst 0, 1) := by decide +kernel
theorem dX11_appendText_2 : decode cX11_appendText 2 = .ok (.putfield 61, 3) := by decide +kernel
theorem dX11_appendText_5 : decode cX11_appendText 5 = .ok (.aload_n 0, 1) := by decide +kernel
theorem dX11_appendText_6 : decode cX11_appendText 6 = .ok (.getfield 277, 3) := by decide +kernel
theorem dX11_appendText_9 : decode cX11_appendText 9 = .ok (.iconst 4, 1) := by decide +kernel
theorem dX11_appendText_10 : decode cX11_appendText 10 = .ok (.iadd, 1) := by decide +kernel
theorem dX11_appendText_11 : decode cX11_appendText 11 = .ok (.sipush 600, 3) := by decide +kernel
theorem dX11_appendText_14 : decode cX11_appendText 14 = .ok (.if_icmp .le 9, 3) := by decide +kernel
theorem dX11_appendText_17 : decode cX11_appendText 17 = .ok (.aload_n 0, 1) := by decide +kernel
theorem dX11_appendText_18 : decode cX11_appendText 18 = .ok (.iconst 1, 1) := by decide +kernel
theorem dX11_appendText_19 : decode cX11_appendText 19 = .ok (.invokevirtual 79, 3) := by decide +kernel
theorem dX11_appendText_22 : decode cX11_appendText 22 = .ok (.ireturn, 1) := by decide +kernel
theorem dX11_appendText_23 : decode cX11_appendText 23 = .ok (.bipush 24, 2) := by decide +kernel
theorem dX11_appendText_25 : decode cX11_appendText 25 = .ok (.istore_n 2, 1) := by decide +kernel
theorem dX11_appendText_26 : decode cX11_appendText 26 = .ok (.iload_n 2, 1) := by decide +kernel
theorem dX11_appendText_27 : decode cX11_appendText 27 = .ok (.ifCond .lt 35, 3) := by decide +kernel
theorem dX11_appendText_30 : decode cX11_appendText 30 = .ok (.aload_n 0, 1) := by decide +kernel
theorem dX11_appendText_31 : decode cX11_appendText 31 = .ok (.getfield 51, 3) := by decide +kernel
theorem dX11_appendText_34 : decode cX11_appendText 34 = .ok (.aload_n 0, 1) := by decide +kernel
theorem dX11_appendText_35 : decode cX11_appendText 35 = .ok (.getfield 277, 3) := by decide +kernel
theorem dX11_appendText_38 : decode cX11_appendText 38 = .ok (.iload_n 1, 1) := by decide +kernel
theorem dX11_appendText_39 : decode cX11_appendText 39 = .ok (.iload_n 2, 1) := by decide +kernel
theorem dX11_appendText_40 : decode cX11_appendText 40 = .ok (.ishr, 1) := by decide +kernel
theorem dX11_appendText_41 : decode cX11_appendText 41 = .ok (.sipush 255, 3) := by decide +kernel
theorem dX11_appendText_44 : decode cX11_appendText 44 = .ok (.iand, 1) := by decide +kernel
theorem dX11_appendText_45 : decode cX11_appendText 45 = .ok (.iastore, 1) := by decide +kernel
theorem dX11_appendText_46 : decode cX11_appendText 46 = .ok (.aload_n 0, 1) := by decide +kernel
theorem dX11_appendText_47 : decode cX11_appendText 47 = .ok (.dup, 1) := by decide +kernel
theorem dX11_appendText_48 : decode cX11_appendText 48 = .ok (.getfield 277, 3) := by decide +kernel
theorem dX11_appendText_51 : decode cX11_appendText 51 = .ok (.iconst 1, 1) := by decide +kernel
theorem dX11_appendText_52 : decode cX11_appendText 52 = .ok (.iadd, 1) := by decide +kernel
theorem dX11_appendText_53 : decode cX11_appendText 53 = .ok (.putfield 277, 3) := by decide +kernel
theorem dX11_appendText_56 : decode cX11_appendText 56 = .ok (.iinc 2 (-8), 3) := by decide +kernel
theorem dX11_appendText_59 : decode cX11_appendText 59 = .ok (.goto (-33), 3) := by decide +kernel
theorem dX11_appendText_62 : decode cX11_appendText 62 = .ok (.aload_n 0, 1) := by decide +kernel
theorem dX11_appendText_63 : decode cX11_appendText 63 = .ok (.getfield 277, 3) := by decide +kernel
theorem dX11_appendText_66 : decode cX11_appendText 66 = .ok (.ireturn, 1) := by decide +kernel
theorem dX11_truncateText_0 : decode cX11_truncateText 0 = .ok (.aload_n 0, 1) := by decide +kernel
theorem dX11_truncateText_1 : decode cX11_truncateText 1 = .ok (.iconst 0, 1) := by decide +kernel
theorem dX11_truncateText_2 : decode cX11_truncateText 2 = .ok (.putfield 61, 3) := by decide +kernel
theorem dX11_truncateText_5 : decode cX11_truncateText 5 = .ok (.iload_n 1, 1) := by decide +kernel
theorem dX11_truncateText_6 : decode cX11_truncateText 6 = .ok (.iconst 0, 1) := by decide +kernel
theorem dX11_truncateText_7 : decode cX11_truncateText 7 = .ok (.aload_n 0, 1) := by decide +kernel
theorem dX11_truncateText_8 : decode cX11_truncateText 8 = .ok (.getfield 277, 3) := by decide +kernel
theorem dX11_truncateText_11 : decode cX11_truncateText 11 = .ok (.invokestatic 64, 3) := by decide +kernel
theorem dX11_truncateText_14 : decode cX11_truncateText 14 = .ok (.ifCond .ne 9, 3) := by decide +kernel
theorem dX11_truncateText_17 : decode cX11_truncateText 17 = .ok (.aload_n 0, 1) := by decide +kernel
theorem dX11_truncateText_18 : decode cX11_truncateText 18 = .ok (.iconst 1, 1) := by decide +kernel
theorem dX11_truncateText_19 : decode cX11_truncateText 19 = .ok (.invokevirtual 79, 3) := by decide +kernel
theorem dX11_truncateText_22 : decode cX11_truncateText 22 = .ok (.ireturn, 1) := by decide +kernel
theorem dX11_truncateText_23 : decode cX11_truncateText 23 = .ok (.aload_n 0, 1) := by decide +kernel
theorem dX11_truncateText_24 : decode cX11_truncateText 24 = .ok (.iload_n 1, 1) := by decide +kernel
theorem dX11_truncateText_25 : decode cX11_truncateText 25 = .ok (.putfield 277, 3) := by decide +kernel
theorem dX11_truncateText_28 : decode cX11_truncateText 28 = .ok (.aload_n 0, 1) := by decide +kernel
theorem dX11_truncateText_29 : decode cX11_truncateText 29 = .ok (.getfield 277, 3) := by decide +kernel
theorem dX11_truncateText_32 : decode cX11_truncateText 32 = .ok (.ireturn, 1) := by decide +kernel
theorem dX11_byteAt_0 : decode cX11_byteAt 0 = .ok (.iload_n 1, 1) := by decide +kernel
theorem dX11_byteAt_1 : decode cX11_byteAt 1 = .ok (.aload_n 0, 1) := by decide +kernel
theorem dX11_byteAt_2 : decode cX11_byteAt 2 = .ok (.getfield 277, 3) := by decide +kernel
theorem dX11_byteAt_5 : decode cX11_byteAt 5 = .ok (.if_icmp .ge 12, 3) := by decide +kernel
theorem dX11_byteAt_8 : decode cX11_byteAt 8 = .ok (.aload_n 0, 1) := by decide +kernel
theorem dX11_byteAt_9 : decode cX11_byteAt 9 = .ok (.getfield 51, 3) := by decide +kernel
theorem dX11_byteAt_12 : decode cX11_byteAt 12 = .ok (.iload_n 1, 1) := by decide +kernel
theorem dX11_byteAt_13 : decode cX11_byteAt 13 = .ok (.iaload, 1) := by decide +kernel
theorem dX11_byteAt_14 : decode cX11_byteAt 14 = .ok (.goto 4, 3) := by decide +kernel
theorem dX11_byteAt_17 : decode cX11_byteAt 17 = .ok (.iconst (-1), 1) := by decide +kernel
theorem dX11_byteAt_18 : decode cX11_byteAt 18 = .ok (.ireturn, 1) := by decide +kernel
theorem dX11_isLetter_0 : decode cX11_isLetter 0 = .ok (.iload_n 0, 1) := by decide +kernel
theorem dX11_isLetter_1 : decode cX11_isLetter 1 = .ok (.bipush 97, 2) := by decide +kernel
theorem dX11_isLetter_3 : decode cX11_isLetter 3 = .ok (.bipush 122, 2) := by decide +kernel
theorem dX11_isLetter_5 : decode cX11_isLetter 5 = .ok (.invokestatic 64, 3) := by decide +kernel
theorem dX11_isLetter_8 : decode cX11_isLetter 8 = .ok (.ireturn, 1) := by decide +kernel
theorem dX11_isDigit_0 : decode cX11_isDigit 0 = .ok (.iload_n 0, 1) := by decide +kernel
theorem dX11_isDigit_1 : decode cX11_isDigit 1 = .ok (.bipush 48, 2) := by decide +kernel
theorem dX11_isDigit_3 : decode cX11_isDigit 3 = .ok (.bipush 57, 2) := by decide +kernel
theorem dX11_isDigit_5 : decode cX11_isDigit 5 = .ok (.invokestatic 64, 3) := by decide +kernel
theorem dX11_isDigit_8 : decode cX11_isDigit 8 = .ok (.ireturn, 1) := by decide +kernel
theorem dX11_nextToken_0 : decode cX11_nextToken 0 = .ok (.aload_n 0, 1) := by decide +kernel
theorem dX11_nextToken_1 : decode cX11_nextToken 1 = .ok (.aload_n 0, 1) := by decide +kernel
theorem dX11_nextToken_2 : decode cX11_nextToken 2 = .ok (.getfield 280, 3) := by decide +kernel
theorem dX11_nextToken_5 : decode cX11_nextToken 5 = .ok (.invokevirtual 283, 3) := by decide +kernel
theorem dX11_nextToken_8 : decode cX11_nextToken 8 = .ok (.bipush 32, 2) := by decide +kernel
theorem dX11_nextToken_10 : decode cX11_nextToken 10 = .ok (.if_icmp .eq 16, 3) := by decide +kernel
theorem dX11_nextToken_13 : decode cX11_nextToken 13 = .ok (.aload_n 0, 1) := by decide +kernel
theorem dX11_nextToken_14 : decode cX11_nextToken 14 = .ok (.aload_n 0, 1) := by decide +kernel
theorem dX11_nextToken_15 : decode cX11_nextToken 15 = .ok (.getfield 280, 3) := by decide +kernel
theorem dX11_nextToken_18 : decode cX11_nextToken 18 = .ok (.invokevirtual 283, 3) := by decide +kernel
theorem dX11_nextToken_21 : decode cX11_nextToken 21 = .ok (.bipush 10, 2) := by decide +kernel
theorem dX11_nextToken_23 : decode cX11_nextToken 23 = .ok (.if_icmp .ne 16, 3) := by decide +kernel
theorem dX11_nextToken_26 : decode cX11_nextToken 26 = .ok (.aload_n 0, 1) := by decide +kernel
theorem dX11_nextToken_27 : decode cX11_nextToken 27 = .ok (.dup, 1) := by decide +kernel
theorem dX11_nextToken_28 : decode cX11_nextToken 28 = .ok (.getfield 280, 3) := by decide +kernel
theorem dX11_nextToken_31 : decode cX11_nextToken 31 = .ok (.iconst 1, 1) := by decide +kernel
theorem dX11_nextToken_32 : decode cX11_nextToken 32 = .ok (.iadd, 1) := by decide +kernel
theorem dX11_nextToken_33 : decode cX11_nextToken 33 = .ok (.putfield 280, 3) := by decide +kernel
theorem dX11_nextToken_36 : decode cX11_nextToken 36 = .ok (.goto (-36), 3) := by decide +kernel
theorem dX11_nextToken_39 : decode cX11_nextToken 39 = .ok (.aload_n 0, 1) := by decide +kernel
theorem dX11_nextToken_40 : decode cX11_nextToken 40 = .ok (.aload_n 0, 1) := by decide +kernel
theorem dX11_nextToken_41 : decode cX11_nextToken 41 = .ok (.getfield 280, 3) := by decide +kernel
theorem dX11_nextToken_44 : decode cX11_nextToken 44 = .ok (.putfield 286, 3) := by decide +kernel
theorem dX11_nextToken_47 : decode cX11_nextToken 47 = .ok (.aload_n 0, 1) := by decide +kernel
theorem dX11_nextToken_48 : decode cX11_nextToken 48 = .ok (.iconst 0, 1) := by decide +kernel
theorem dX11_nextToken_49 : decode cX11_nextToken 49 = .ok (.putfield 289, 3) := by decide +kernel
theorem dX11_nextToken_52 : decode cX11_nextToken 52 = .ok (.aload_n 0, 1) := by decide +kernel
theorem dX11_nextToken_53 : decode cX11_nextToken 53 = .ok (.lconst 0, 1) := by decide +kernel
theorem dX11_nextToken_54 : decode cX11_nextToken 54 = .ok (.putfield 292, 3) := by decide +kernel
theorem dX11_nextToken_57 : decode cX11_nextToken 57 = .ok (.aload_n 0, 1) := by decide +kernel
theorem dX11_nextToken_58 : decode cX11_nextToken 58 = .ok (.iconst 0, 1) := by decide +kernel
theorem dX11_nextToken_59 : decode cX11_nextToken 59 = .ok (.putfield 296, 3) := by decide +kernel
theorem dX11_nextToken_62 : decode cX11_nextToken 62 = .ok (.aload_n 0, 1) := by decide +kernel
theorem dX11_nextToken_63 : decode cX11_nextToken 63 = .ok (.aload_n 0, 1) := by decide +kernel
theorem dX11_nextToken_64 : decode cX11_nextToken 64 = .ok (.getfield 280, 3) := by decide +kernel
theorem dX11_nextToken_67 : decode cX11_nextToken 67 = .ok (.invokevirtual 283, 3) := by decide +kernel
theorem dX11_nextToken_70 : decode cX11_nextToken 70 = .ok (.istore_n 1, 1) := by decide +kernel
theorem dX11_nextToken_71 : decode cX11_nextToken 71 = .ok (.iload_n 1, 1) := by decide +kernel
theorem dX11_nextToken_72 : decode cX11_nextToken 72 = .ok (.iconst (-1), 1) := by decide +kernel
theorem dX11_nextToken_73 : decode cX11_nextToken 73 = .ok (.if_icmp .ne 11, 3) := by decide +kernel
theorem dX11_nextToken_76 : decode cX11_nextToken 76 = .ok (.aload_n 0, 1) := by decide +kernel
theorem dX11_nextToken_77 : decode cX11_nextToken 77 = .ok (.iconst 0, 1) := by decide +kernel
theorem dX11_nextToken_78 : decode cX11_nextToken 78 = .ok (.putfield 299, 3) := by decide +kernel
theorem dX11_nextToken_81 : decode cX11_nextToken 81 = .ok (.goto 198, 3) := by decide +kernel
theorem dX11_nextToken_84 : decode cX11_nextToken 84 = .ok (.iload_n 1, 1) := by decide +kernel
theorem dX11_nextToken_85 : decode cX11_nextToken 85 = .ok (.invokestatic 302, 3) := by decide +kernel
theorem dX11_nextToken_88 : decode cX11_nextToken 88 = .ok (.ifCond .eq 87, 3) := by decide +kernel
theorem dX11_nextToken_91 : decode cX11_nextToken 91 = .ok (.aload_n 0, 1) := by decide +kernel
theorem dX11_nextToken_92 : decode cX11_nextToken 92 = .ok (.iconst 2, 1) := by decide +kernel
theorem dX11_nextToken_93 : decode cX11_nextToken 93 = .ok (.putfield 299, 3) := by decide +kernel
theorem dX11_nextToken_96 : decode cX11_nextToken 96 = .ok (.aload_n 0, 1) := by decide +kernel
theorem dX11_nextToken_97 : decode cX11_nextToken 97 = .ok (.aload_n 0, 1) := by decide +kernel
theorem dX11_nextToken_98 : decode cX11_nextToken 98 = .ok (.getfield 280, 3) := by decide +kernel
theorem dX11_nextToken_101 : decode cX11_nextToken 101 = .ok (.invokevirtual 283, 3) := by decide +kernel
theorem dX11_nextToken_104 : decode cX11_nextToken 104 = .ok (.invokestatic 302, 3) := by decide +kernel
theorem dX11_nextToken_107 : decode cX11_nextToken 107 = .ok (.ifCond .eq 172, 3) := by decide +kernel
theorem dX11_nextToken_110 : decode cX11_nextToken 110 = .ok (.aload_n 0, 1) := by decide +kernel
theorem dX11_nextToken_111 : decode cX11_nextToken 111 = .ok (.aload_n 0, 1) := by decide +kernel
theorem dX11_nextToken_112 : decode cX11_nextToken 112 = .ok (.getfield 289, 3) := by decide +kernel
theorem dX11_nextToken_115 : decode cX11_nextToken 115 = .ok (.bipush 8, 2) := by decide +kernel
theorem dX11_nextToken_117 : decode cX11_nextToken 117 = .ok (.if_icmp .ge 28, 3) := by decide +kernel
theorem dX11_nextToken_120 : decode cX11_nextToken 120 = .ok (.ldc2_w 305, 3) := by decide +kernel
theorem dX11_nextToken_123 : decode cX11_nextToken 123 = .ok (.aload_n 0, 1) := by decide +kernel
theorem dX11_nextToken_124 : decode cX11_nextToken 124 = .ok (.getfield 292, 3) := by decide +kernel
theorem dX11_nextToken_127 : decode cX11_nextToken 127 = .ok (.lmul, 1) := by decide +kernel
theorem dX11_nextToken_128 : decode cX11_nextToken 128 = .ok (.aload_n 0, 1) := by decide +kernel
theorem dX11_nextToken_129 : decode cX11_nextToken 129 = .ok (.aload_n 0, 1) := by decide +kernel
theorem dX11_nextToken_130 : decode cX11_nextToken 130 = .ok (.getfield 280, 3) := by decide +kernel
theorem dX11_nextToken_133 : decode cX11_nextToken 133 = .ok (.invokevirtual 283, 3) := by decide +kernel
theorem dX11_nextToken_136 : decode cX11_nextToken 136 = .ok (.i2l, 1) := by decide +kernel
theorem dX11_nextToken_137 : decode cX11_nextToken 137 = .ok (.ladd, 1) := by decide +kernel
theorem dX11_nextToken_138 : decode cX11_nextToken 138 = .ok (.ldc2_w 307, 3) := by decide +kernel
theorem dX11_nextToken_141 : decode cX11_nextToken 141 = .ok (.lsub, 1) := by decide +kernel
theorem dX11_nextToken_142 : decode cX11_nextToken 142 = .ok (.goto 7, 3) := by decide +kernel
theorem dX11_nextToken_145 : decode cX11_nextToken 145 = .ok (.aload_n 0, 1) := by decide +kernel
theorem dX11_nextToken_146 : decode cX11_nextToken 146 = .ok (.getfield 292, 3) := by decide +kernel
theorem dX11_nextToken_149 : decode cX11_nextToken 149 = .ok (.putfield 292, 3) := by decide +kernel
theorem dX11_nextToken_152 : decode cX11_nextToken 152 = .ok (.aload_n 0, 1) := by decide +kernel
theorem dX11_nextToken_153 : decode cX11_nextToken 153 = .ok (.dup, 1) := by decide +kernel
theorem dX11_nextToken_154 : decode cX11_nextToken 154 = .ok (.getfield 289, 3) := by decide +kernel
theorem dX11_nextToken_157 : decode cX11_nextToken 157 = .ok (.iconst 1, 1) := by decide +kernel
theorem dX11_nextToken_158 : decode cX11_nextToken 158 = .ok (.iadd, 1) := by decide +kernel
theorem dX11_nextToken_159 : decode cX11_nextToken 159 = .ok (.putfield 289, 3) := by decide +kernel
theorem dX11_nextToken_162 : decode cX11_nextToken 162 = .ok (.aload_n 0, 1) := by decide +kernel
theorem dX11_nextToken_163 : decode cX11_nextToken 163 = .ok (.dup, 1) := by decide +kernel
theorem dX11_nextToken_164 : decode cX11_nextToken 164 = .ok (.getfield 280, 3) := by decide +kernel
theorem dX11_nextToken_167 : decode cX11_nextToken 167 = .ok (.iconst 1, 1) := by decide +kernel
theorem dX11_nextToken_168 : decode cX11_nextToken 168 = .ok (.iadd, 1) := by decide +kernel
theorem dX11_nextToken_169 : decode cX11_nextToken 169 = .ok (.putfield 280, 3) := by decide +kernel
theorem dX11_nextToken_172 : decode cX11_nextToken 172 = .ok (.goto (-76), 3) := by decide +kernel
theorem dX11_nextToken_175 : decode cX11_nextToken 175 = .ok (.iload_n 1, 1) := by decide +kernel
theorem dX11_nextToken_176 : decode cX11_nextToken 176 = .ok (.invokestatic 309, 3) := by decide +kernel
theorem dX11_nextToken_179 : decode cX11_nextToken 179 = .ok (.ifCond .eq 75, 3) := by decide +kernel
theorem dX11_nextToken_182 : decode cX11_nextToken 182 = .ok (.aload_n 0, 1) := by decide +kernel
theorem dX11_nextToken_183 : decode cX11_nextToken 183 = .ok (.iconst 3, 1) := by decide +kernel
theorem dX11_nextToken_184 : decode cX11_nextToken 184 = .ok (.putfield 299, 3) := by decide +kernel
theorem dX11_nextToken_187 : decode cX11_nextToken 187 = .ok (.aload_n 0, 1) := by decide +kernel
theorem dX11_nextToken_188 : decode cX11_nextToken 188 = .ok (.aload_n 0, 1) := by decide +kernel
theorem dX11_nextToken_189 : decode cX11_nextToken 189 = .ok (.getfield 280, 3) := by decide +kernel
theorem dX11_nextToken_192 : decode cX11_nextToken 192 = .ok (.invokevirtual 283, 3) := by decide +kernel
theorem dX11_nextToken_195 : decode cX11_nextToken 195 = .ok (.invokestatic 309, 3) := by decide +kernel
theorem dX11_nextToken_198 : decode cX11_nextToken 198 = .ok (.ifCond .eq 81, 3) := by decide +kernel
theorem dX11_nextToken_201 : decode cX11_nextToken 201 = .ok (.aload_n 0, 1) := by decide +kernel
theorem dX11_nextToken_202 : decode cX11_nextToken 202 = .ok (.aload_n 0, 1) := by decide +kernel
theorem dX11_nextToken_203 : decode cX11_nextToken 203 = .ok (.getfield 296, 3) := by decide +kernel
theorem dX11_nextToken_206 : decode cX11_nextToken 206 = .ok (.sipush 9999, 3) := by decide +kernel
theorem dX11_nextToken_209 : decode cX11_nextToken 209 = .ok (.if_icmp .le 10, 3) := by decide +kernel
theorem dX11_nextToken_212 : decode cX11_nextToken 212 = .ok (.aload_n 0, 1) := by decide +kernel
theorem dX11_nextToken_213 : decode cX11_nextToken 213 = .ok (.getfield 296, 3) := by decide +kernel
theorem dX11_nextToken_216 : decode cX11_nextToken 216 = .ok (.goto 22, 3) := by decide +kernel
theorem dX11_nextToken_219 : decode cX11_nextToken 219 = .ok (.bipush 10, 2) := by decide +kernel
theorem dX11_nextToken_221 : decode cX11_nextToken 221 = .ok (.aload_n 0, 1) := by decide +kernel
theorem dX11_nextToken_222 : decode cX11_nextToken 222 = .ok (.getfield 296, 3) := by decide +kernel
theorem dX11_nextToken_225 : decode cX11_nextToken 225 = .ok (.imul, 1) := by decide +kernel
theorem dX11_nextToken_226 : decode cX11_nextToken 226 = .ok (.aload_n 0, 1) := by decide +kernel
theorem dX11_nextToken_227 : decode cX11_nextToken 227 = .ok (.aload_n 0, 1) := by decide +kernel
theorem dX11_nextToken_228 : decode cX11_nextToken 228 = .ok (.getfield 280, 3) := by decide +kernel
theorem dX11_nextToken_231 : decode cX11_nextToken 231 = .ok (.invokevirtual 283, 3) := by decide +kernel
theorem dX11_nextToken_234 : decode cX11_nextToken 234 = .ok (.iadd, 1) := by decide +kernel
theorem dX11_nextToken_235 : decode cX11_nextToken 235 = .ok (.bipush 48, 2) := by decide +kernel
theorem dX11_nextToken_237 : decode cX11_nextToken 237 = .ok (.isub, 1) := by decide +kernel
theorem dX11_nextToken_238 : decode cX11_nextToken 238 = .ok (.putfield 296, 3) := by decide +kernel
theorem dX11_nextToken_241 : decode cX11_nextToken 241 = .ok (.aload_n 0, 1) := by decide +kernel
theorem dX11_nextToken_242 : decode cX11_nextToken 242 = .ok (.dup, 1) := by decide +kernel
theorem dX11_nextToken_243 : decode cX11_nextToken 243 = .ok (.getfield 280, 3) := by decide +kernel
theorem dX11_nextToken_246 : decode cX11_nextToken 246 = .ok (.iconst 1, 1) := by decide +kernel
theorem dX11_nextToken_247 : decode cX11_nextToken 247 = .ok (.iadd, 1) := by decide +kernel
theorem dX11_nextToken_248 : decode cX11_nextToken 248 = .ok (.putfield 280, 3) := by decide +kernel
theorem dX11_nextToken_251 : decode cX11_nextToken 251 = .ok (.goto (-64), 3) := by decide +kernel
theorem dX11_nextToken_254 : decode cX11_nextToken 254 = .ok (.aload_n 0, 1) := by decide +kernel
theorem dX11_nextToken_255 : decode cX11_nextToken 255 = .ok (.iload_n 1, 1) := by decide +kernel
theorem dX11_nextToken_256 : decode cX11_nextToken 256 = .ok (.bipush 59, 2) := by decide +kernel
theorem dX11_nextToken_258 : decode cX11_nextToken 258 = .ok (.if_icmp .ne 7, 3) := by decide +kernel
theorem dX11_nextToken_261 : decode cX11_nextToken 261 = .ok (.iconst 4, 1) := by decide +kernel
theorem dX11_nextToken_262 : decode cX11_nextToken 262 = .ok (.goto 4, 3) := by decide +kernel
theorem dX11_nextToken_265 : decode cX11_nextToken 265 = .ok (.iconst 1, 1) := by decide +kernel
theorem dX11_nextToken_266 : decode cX11_nextToken 266 = .ok (.putfield 299, 3) := by decide +kernel
theorem dX11_nextToken_269 : decode cX11_nextToken 269 = .ok (.aload_n 0, 1) := by decide +kernel
theorem dX11_nextToken_270 : decode cX11_nextToken 270 = .ok (.dup, 1) := by decide +kernel
theorem dX11_nextToken_271 : decode cX11_nextToken 271 = .ok (.getfield 280, 3) := by decide +kernel
theorem dX11_nextToken_274 : decode cX11_nextToken 274 = .ok (.iconst 1, 1) := by decide +kernel
theorem dX11_nextToken_275 : decode cX11_nextToken 275 = .ok (.iadd, 1) := by decide +kernel
theorem dX11_nextToken_276 : decode cX11_nextToken 276 = .ok (.putfield 280, 3) := by decide +kernel
theorem dX11_nextToken_279 : decode cX11_nextToken 279 = .ok (.return_, 1) := by decide +kernel
theorem dX11_isWord_0 : decode cX11_isWord 0 = .ok (.aload_n 0, 1) := by decide +kernel
theorem dX11_isWord_1 : decode cX11_isWord 1 = .ok (.getfield 299, 3) := by decide +kernel
theorem dX11_isWord_4 : decode cX11_isWord 4 = .ok (.iconst 2, 1) := by decide +kernel
theorem dX11_isWord_5 : decode cX11_isWord 5 = .ok (.if_icmp .ne 14, 3) := by decide +kernel
theorem dX11_isWord_8 : decode cX11_isWord 8 = .ok (.aload_n 0, 1) := by decide +kernel
theorem dX11_isWord_9 : decode cX11_isWord 9 = .ok (.getfield 289, 3) := by decide +kernel
theorem dX11_isWord_12 : decode cX11_isWord 12 = .ok (.aload_n 1, 1) := by decide +kernel
theorem dX11_isWord_13 : decode cX11_isWord 13 = .ok (.invokevirtual 312, 3) := by decide +kernel
theorem dX11_isWord_16 : decode cX11_isWord 16 = .ok (.if_icmp .eq 5, 3) := by decide +kernel
theorem dX11_isWord_19 : decode cX11_isWord 19 = .ok (.iconst 0, 1) := by decide +kernel
theorem dX11_isWord_20 : decode cX11_isWord 20 = .ok (.ireturn, 1) := by decide +kernel
theorem dX11_isWord_21 : decode cX11_isWord 21 = .ok (.lconst 0, 1) := by decide +kernel
theorem dX11_isWord_22 : decode cX11_isWord 22 = .ok (.lstore_n 2, 1) := by decide +kernel
theorem dX11_isWord_23 : decode cX11_isWord 23 = .ok (.iconst 0, 1) := by decide +kernel
theorem dX11_isWord_24 : decode cX11_isWord 24 = .ok (.istore 4, 2) := by decide +kernel
theorem dX11_isWord_26 : decode cX11_isWord 26 = .ok (.iload 4, 2) := by decide +kernel
theorem dX11_isWord_28 : decode cX11_isWord 28 = .ok (.aload_n 1, 1) := by decide +kernel
theorem dX11_isWord_29 : decode cX11_isWord 29 = .ok (.invokevirtual 312, 3) := by decide +kernel
theorem dX11_isWord_32 : decode cX11_isWord 32 = .ok (.if_icmp .ge 27, 3) := by decide +kernel
theorem dX11_isWord_35 : decode cX11_isWord 35 = .ok (.ldc2_w 305, 3) := by decide +kernel
theorem dX11_isWord_38 : decode cX11_isWord 38 = .ok (.lload_n 2, 1) := by decide +kernel
theorem dX11_isWord_39 : decode cX11_isWord 39 = .ok (.lmul, 1) := by decide +kernel
theorem dX11_isWord_40 : decode cX11_isWord 40 = .ok (.aload_n 1, 1) := by decide +kernel
theorem dX11_isWord_41 : decode cX11_isWord 41 = .ok (.iload 4, 2) := by decide +kernel
theorem dX11_isWord_43 : decode cX11_isWord 43 = .ok (.invokevirtual 318, 3) := by decide +kernel
theorem dX11_isWord_46 : decode cX11_isWord 46 = .ok (.i2l, 1) := by decide +kernel
theorem dX11_isWord_47 : decode cX11_isWord 47 = .ok (.ladd, 1) := by decide +kernel
theorem dX11_isWord_48 : decode cX11_isWord 48 = .ok (.ldc2_w 307, 3) := by decide +kernel
theorem dX11_isWord_51 : decode cX11_isWord 51 = .ok (.lsub, 1) := by decide +kernel
theorem dX11_isWord_52 : decode cX11_isWord 52 = .ok (.lstore_n 2, 1) := by decide +kernel
theorem dX11_isWord_53 : decode cX11_isWord 53 = .ok (.iinc 4 1, 3) := by decide +kernel
theorem dX11_isWord_56 : decode cX11_isWord 56 = .ok (.goto (-30), 3) := by decide +kernel
theorem dX11_isWord_59 : decode cX11_isWord 59 = .ok (.aload_n 0, 1) := by decide +kernel
theorem dX11_isWord_60 : decode cX11_isWord 60 = .ok (.getfield 292, 3) := by decide +kernel
theorem dX11_isWord_63 : decode cX11_isWord 63 = .ok (.lload_n 2, 1) := by decide +kernel
theorem dX11_isWord_64 : decode cX11_isWord 64 = .ok (.lcmp, 1) := by decide +kernel
theorem dX11_isWord_65 : decode cX11_isWord 65 = .ok (.ifCond .ne 7, 3) := by decide +kernel
theorem dX11_isWord_68 : decode cX11_isWord 68 = .ok (.iconst 1, 1) := by decide +kernel
theorem dX11_isWord_69 : decode cX11_isWord 69 = .ok (.goto 4, 3) := by decide +kernel
theorem dX11_isWord_72 : decode cX11_isWord 72 = .ok (.iconst 0, 1) := by decide +kernel
theorem dX11_isWord_73 : decode cX11_isWord 73 = .ok (.ireturn, 1) := by decide +kernel
theorem dX11_require_0 : decode cX11_require 0 = .ok (.iload_n 1, 1) := by decide +kernel
theorem dX11_require_1 : decode cX11_require 1 = .ok (.ifCond .ne 23, 3) := by decide +kernel
theorem dX11_require_4 : decode cX11_require 4 = .ok (.aload_n 0, 1) := by decide +kernel
theorem dX11_require_5 : decode cX11_require 5 = .ok (.getfield 322, 3) := by decide +kernel
theorem dX11_require_8 : decode cX11_require 8 = .ok (.ifCond .ne 16, 3) := by decide +kernel
theorem dX11_require_11 : decode cX11_require 11 = .ok (.aload_n 0, 1) := by decide +kernel
theorem dX11_require_12 : decode cX11_require 12 = .ok (.iload_n 2, 1) := by decide +kernel
theorem dX11_require_13 : decode cX11_require 13 = .ok (.putfield 322, 3) := by decide +kernel
theorem dX11_require_16 : decode cX11_require 16 = .ok (.aload_n 0, 1) := by decide +kernel
theorem dX11_require_17 : decode cX11_require 17 = .ok (.aload_n 0, 1) := by decide +kernel
theorem dX11_require_18 : decode cX11_require 18 = .ok (.getfield 286, 3) := by decide +kernel
theorem dX11_require_21 : decode cX11_require 21 = .ok (.putfield 54, 3) := by decide +kernel
theorem dX11_require_24 : decode cX11_require 24 = .ok (.return_, 1) := by decide +kernel
theorem dX11_advance_0 : decode cX11_advance 0 = .ok (.aload_n 0, 1) := by decide +kernel
theorem dX11_advance_1 : decode cX11_advance 1 = .ok (.getfield 322, 3) := by decide +kernel
theorem dX11_advance_4 : decode cX11_advance 4 = .ok (.ifCond .ne 7, 3) := by decide +kernel
theorem dX11_advance_7 : decode cX11_advance 7 = .ok (.aload_n 0, 1) := by decide +kernel
theorem dX11_advance_8 : decode cX11_advance 8 = .ok (.invokevirtual 325, 3) := by decide +kernel
theorem dX11_advance_11 : decode cX11_advance 11 = .ok (.return_, 1) := by decide +kernel
theorem dX11_parseNumber_0 : decode cX11_parseNumber 0 = .ok (.aload_n 0, 1) := by decide +kernel
theorem dX11_parseNumber_1 : decode cX11_parseNumber 1 = .ok (.aload_n 0, 1) := by decide +kernel
theorem dX11_parseNumber_2 : decode cX11_parseNumber 2 = .ok (.getfield 299, 3) := by decide +kernel
theorem dX11_parseNumber_5 : decode cX11_parseNumber 5 = .ok (.iconst 3, 1) := by decide +kernel
theorem dX11_parseNumber_6 : decode cX11_parseNumber 6 = .ok (.if_icmp .ne 7, 3) := by decide +kernel
theorem dX11_parseNumber_9 : decode cX11_parseNumber 9 = .ok (.iconst 1, 1) := by decide +kernel
theorem dX11_parseNumber_10 : decode cX11_parseNumber 10 = .ok (.goto 4, 3) := by decide +kernel
theorem dX11_parseNumber_13 : decode cX11_parseNumber 13 = .ok (.iconst 0, 1) := by decide +kernel
theorem dX11_parseNumber_14 : decode cX11_parseNumber 14 = .ok (.iconst 1, 1) := by decide +kernel
theorem dX11_parseNumber_15 : decode cX11_parseNumber 15 = .ok (.invokevirtual 328, 3) := by decide +kernel
theorem dX11_parseNumber_18 : decode cX11_parseNumber 18 = .ok (.aload_n 0, 1) := by decide +kernel
theorem dX11_parseNumber_19 : decode cX11_parseNumber 19 = .ok (.aload_n 0, 1) := by decide +kernel
theorem dX11_parseNumber_20 : decode cX11_parseNumber 20 = .ok (.getfield 296, 3) := by decide +kernel
theorem dX11_parseNumber_23 : decode cX11_parseNumber 23 = .ok (.iload_n 1, 1) := by decide +kernel
theorem dX11_parseNumber_24 : decode cX11_parseNumber 24 = .ok (.iload_n 2, 1) := by decide +kernel
theorem dX11_parseNumber_25 : decode cX11_parseNumber 25 = .ok (.invokestatic 64, 3) := by decide +kernel
theorem dX11_parseNumber_28 : decode cX11_parseNumber 28 = .ok (.iconst 2, 1) := by decide +kernel
theorem dX11_parseNumber_29 : decode cX11_parseNumber 29 = .ok (.invokevirtual 328, 3) := by decide +kernel
theorem dX11_parseNumber_32 : decode cX11_parseNumber 32 = .ok (.aload_n 0, 1) := by decide +kernel
theorem dX11_parseNumber_33 : decode cX11_parseNumber 33 = .ok (.getfield 296, 3) := by decide +kernel
theorem dX11_parseNumber_36 : decode cX11_parseNumber 36 = .ok (.istore_n 3, 1) := by decide +kernel
theorem dX11_parseNumber_37 : decode cX11_parseNumber 37 = .ok (.aload_n 0, 1) := by decide +kernel
theorem dX11_parseNumber_38 : decode cX11_parseNumber 38 = .ok (.invokevirtual 332, 3) := by decide +kernel
theorem dX11_parseNumber_41 : decode cX11_parseNumber 41 = .ok (.iload_n 3, 1) := by decide +kernel
theorem dX11_parseNumber_42 : decode cX11_parseNumber 42 = .ok (.ireturn, 1) := by decide +kernel
theorem dX11_parsePlaces_0 : decode cX11_parsePlaces 0 = .ok (.iconst 0, 1) := by decide +kernel
theorem dX11_parsePlaces_1 : decode cX11_parsePlaces 1 = .ok (.istore_n 1, 1) := by decide +kernel
theorem dX11_parsePlaces_2 : decode cX11_parsePlaces 2 = .ok (.iload_n 1, 1) := by decide +kernel
theorem dX11_parsePlaces_3 : decode cX11_parsePlaces 3 = .ok (.iconst 4, 1) := by decide +kernel
theorem dX11_parsePlaces_4 : decode cX11_parsePlaces 4 = .ok (.if_icmp .ge 22, 3) := by decide +kernel
theorem dX11_parsePlaces_7 : decode cX11_parsePlaces 7 = .ok (.aload_n 0, 1) := by decide +kernel
theorem dX11_parsePlaces_8 : decode cX11_parsePlaces 8 = .ok (.getfield 58, 3) := by decide +kernel
theorem dX11_parsePlaces_11 : decode cX11_parsePlaces 11 = .ok (.iload_n 1, 1) := by decide +kernel
theorem dX11_parsePlaces_12 : decode cX11_parsePlaces 12 = .ok (.aload_n 0, 1) := by decide +kernel
theorem dX11_parsePlaces_13 : decode cX11_parsePlaces 13 = .ok (.iconst 0, 1) := by decide +kernel
theorem dX11_parsePlaces_14 : decode cX11_parsePlaces 14 = .ok (.bipush 99, 2) := by decide +kernel
theorem dX11_parsePlaces_16 : decode cX11_parsePlaces 16 = .ok (.invokevirtual 335, 3) := by decide +kernel
theorem dX11_parsePlaces_19 : decode cX11_parsePlaces 19 = .ok (.iastore, 1) := by decide +kernel
theorem dX11_parsePlaces_20 : decode cX11_parsePlaces 20 = .ok (.iinc 1 1, 3) := by decide +kernel
theorem dX11_parsePlaces_23 : decode cX11_parsePlaces 23 = .ok (.goto (-21), 3) := by decide +kernel
theorem dX11_parsePlaces_26 : decode cX11_parsePlaces 26 = .ok (.return_, 1) := by decide +kernel
theorem dX11_parseDriver_0 : decode cX11_parseDriver 0 = .ok (.aload_n 0, 1) := by decide +kernel
theorem dX11_parseDriver_1 : decode cX11_parseDriver 1 = .ok (.aload_n 0, 1) := by decide +kernel
theorem dX11_parseDriver_2 : decode cX11_parseDriver 2 = .ok (.getfield 7, 3) := by decide +kernel
theorem dX11_parseDriver_5 : decode cX11_parseDriver 5 = .ok (.iconst 1, 1) := by decide +kernel
theorem dX11_parseDriver_6 : decode cX11_parseDriver 6 = .ok (.iaload, 1) := by decide +kernel
theorem dX11_parseDriver_7 : decode cX11_parseDriver 7 = .ok (.bipush 8, 2) := by decide +kernel
theorem dX11_parseDriver_9 : decode cX11_parseDriver 9 = .ok (.if_icmp .ge 7, 3) := by decide +kernel
theorem dX11_parseDriver_12 : decode cX11_parseDriver 12 = .ok (.iconst 1, 1) := by decide +kernel
theorem dX11_parseDriver_13 : decode cX11_parseDriver 13 = .ok (.goto 4, 3) := by decide +kernel
theorem dX11_parseDriver_16 : decode cX11_parseDriver 16 = .ok (.iconst 0, 1) := by decide +kernel
theorem dX11_parseDriver_17 : decode cX11_parseDriver 17 = .ok (.iconst 3, 1) := by decide +kernel
theorem dX11_parseDriver_18 : decode cX11_parseDriver 18 = .ok (.invokevirtual 328, 3) := by decide +kernel
theorem dX11_parseDriver_21 : decode cX11_parseDriver 21 = .ok (.aload_n 0, 1) := by decide +kernel
theorem dX11_parseDriver_22 : decode cX11_parseDriver 22 = .ok (.invokevirtual 332, 3) := by decide +kernel
theorem dX11_parseDriver_25 : decode cX11_parseDriver 25 = .ok (.aload_n 0, 1) := by decide +kernel
theorem dX11_parseDriver_26 : decode cX11_parseDriver 26 = .ok (.invokevirtual 338, 3) := by decide +kernel
theorem dX11_parseDriver_29 : decode cX11_parseDriver 29 = .ok (.aload_n 0, 1) := by decide +kernel
theorem dX11_parseDriver_30 : decode cX11_parseDriver 30 = .ok (.iconst 1, 1) := by decide +kernel
theorem dX11_parseDriver_31 : decode cX11_parseDriver 31 = .ok (.iconst 4, 1) := by decide +kernel
theorem dX11_parseDriver_32 : decode cX11_parseDriver 32 = .ok (.invokevirtual 335, 3) := by decide +kernel
theorem dX11_parseDriver_35 : decode cX11_parseDriver 35 = .ok (.istore_n 1, 1) := by decide +kernel
theorem dX11_parseDriver_36 : decode cX11_parseDriver 36 = .ok (.aload_n 0, 1) := by decide +kernel
theorem dX11_parseDriver_37 : decode cX11_parseDriver 37 = .ok (.iconst 0, 1) := by decide +kernel
theorem dX11_parseDriver_38 : decode cX11_parseDriver 38 = .ok (.sipush 1439, 3) := by decide +kernel
theorem dX11_parseDriver_41 : decode cX11_parseDriver 41 = .ok (.invokevirtual 335, 3) := by decide +kernel
theorem dX11_parseDriver_44 : decode cX11_parseDriver 44 = .ok (.istore_n 2, 1) := by decide +kernel
theorem dX11_parseDriver_45 : decode cX11_parseDriver 45 = .ok (.aload_n 0, 1) := by decide +kernel
theorem dX11_parseDriver_46 : decode cX11_parseDriver 46 = .ok (.iconst 0, 1) := by decide +kernel
theorem dX11_parseDriver_47 : decode cX11_parseDriver 47 = .ok (.sipush 400, 3) := by decide +kernel
theorem dX11_parseDriver_50 : decode cX11_parseDriver 50 = .ok (.invokevirtual 335, 3) := by decide +kernel
theorem dX11_parseDriver_53 : decode cX11_parseDriver 53 = .ok (.istore_n 3, 1) := by decide +kernel
theorem dX11_parseDriver_54 : decode cX11_parseDriver 54 = .ok (.aload_n 0, 1) := by decide +kernel
theorem dX11_parseDriver_55 : decode cX11_parseDriver 55 = .ok (.iconst 1, 1) := by decide +kernel
theorem dX11_parseDriver_56 : decode cX11_parseDriver 56 = .ok (.bipush 99, 2) := by decide +kernel
theorem dX11_parseDriver_58 : decode cX11_parseDriver 58 = .ok (.invokevirtual 335, 3) := by decide +kernel
theorem dX11_parseDriver_61 : decode cX11_parseDriver 61 = .ok (.istore 4, 2) := by decide +kernel
theorem dX11_parseDriver_63 : decode cX11_parseDriver 63 = .ok (.aload_n 0, 1) := by decide +kernel
theorem dX11_parseDriver_64 : decode cX11_parseDriver 64 = .ok (.getfield 322, 3) := by decide +kernel
theorem dX11_parseDriver_67 : decode cX11_parseDriver 67 = .ok (.ifCond .ne 40, 3) := by decide +kernel
theorem dX11_parseDriver_70 : decode cX11_parseDriver 70 = .ok (.aload_n 0, 1) := by decide +kernel
theorem dX11_parseDriver_71 : decode cX11_parseDriver 71 = .ok (.aload_n 0, 1) := by decide +kernel
theorem dX11_parseDriver_72 : decode cX11_parseDriver 72 = .ok (.iload_n 1, 1) := by decide +kernel
theorem dX11_parseDriver_73 : decode cX11_parseDriver 73 = .ok (.iload_n 2, 1) := by decide +kernel
theorem dX11_parseDriver_74 : decode cX11_parseDriver 74 = .ok (.iload_n 3, 1) := by decide +kernel
theorem dX11_parseDriver_75 : decode cX11_parseDriver 75 = .ok (.iload 4, 2) := by decide +kernel
theorem dX11_parseDriver_77 : decode cX11_parseDriver 77 = .ok (.invokevirtual 83, 3) := by decide +kernel
theorem dX11_parseDriver_80 : decode cX11_parseDriver 80 = .ok (.aload_n 0, 1) := by decide +kernel
theorem dX11_parseDriver_81 : decode cX11_parseDriver 81 = .ok (.getfield 58, 3) := by decide +kernel
theorem dX11_parseDriver_84 : decode cX11_parseDriver 84 = .ok (.iconst 0, 1) := by decide +kernel
theorem dX11_parseDriver_85 : decode cX11_parseDriver 85 = .ok (.iaload, 1) := by decide +kernel
theorem dX11_parseDriver_86 : decode cX11_parseDriver 86 = .ok (.aload_n 0, 1) := by decide +kernel
theorem dX11_parseDriver_87 : decode cX11_parseDriver 87 = .ok (.getfield 58, 3) := by decide +kernel
theorem dX11_parseDriver_90 : decode cX11_parseDriver 90 = .ok (.iconst 1, 1) := by decide +kernel
theorem dX11_parseDriver_91 : decode cX11_parseDriver 91 = .ok (.iaload, 1) := by decide +kernel
theorem dX11_parseDriver_92 : decode cX11_parseDriver 92 = .ok (.aload_n 0, 1) := by decide +kernel
theorem dX11_parseDriver_93 : decode cX11_parseDriver 93 = .ok (.getfield 58, 3) := by decide +kernel
theorem dX11_parseDriver_96 : decode cX11_parseDriver 96 = .ok (.iconst 2, 1) := by decide +kernel
theorem dX11_parseDriver_97 : decode cX11_parseDriver 97 = .ok (.iaload, 1) := by decide +kernel
theorem dX11_parseDriver_98 : decode cX11_parseDriver 98 = .ok (.aload_n 0, 1) := by decide +kernel
theorem dX11_parseDriver_99 : decode cX11_parseDriver 99 = .ok (.getfield 58, 3) := by decide +kernel
theorem dX11_parseDriver_102 : decode cX11_parseDriver 102 = .ok (.iconst 3, 1) := by decide +kernel
theorem dX11_parseDriver_103 : decode cX11_parseDriver 103 = .ok (.iaload, 1) := by decide +kernel
theorem dX11_parseDriver_104 : decode cX11_parseDriver 104 = .ok (.invokevirtual 98, 3) := by decide +kernel
theorem dX11_parseDriver_107 : decode cX11_parseDriver 107 = .ok (.return_, 1) := by decide +kernel
theorem dX11_parseRider_0 : decode cX11_parseRider 0 = .ok (.aload_n 0, 1) := by decide +kernel
theorem dX11_parseRider_1 : decode cX11_parseRider 1 = .ok (.aload_n 0, 1) := by decide +kernel
theorem dX11_parseRider_2 : decode cX11_parseRider 2 = .ok (.getfield 7, 3) := by decide +kernel
theorem dX11_parseRider_5 : decode cX11_parseRider 5 = .ok (.iconst 2, 1) := by decide +kernel
theorem dX11_parseRider_6 : decode cX11_parseRider 6 = .ok (.iaload, 1) := by decide +kernel
theorem dX11_parseRider_7 : decode cX11_parseRider 7 = .ok (.bipush 20, 2) := by decide +kernel
theorem dX11_parseRider_9 : decode cX11_parseRider 9 = .ok (.if_icmp .ge 7, 3) := by decide +kernel
theorem dX11_parseRider_12 : decode cX11_parseRider 12 = .ok (.iconst 1, 1) := by decide +kernel
theorem dX11_parseRider_13 : decode cX11_parseRider 13 = .ok (.goto 4, 3) := by decide +kernel
theorem dX11_parseRider_16 : decode cX11_parseRider 16 = .ok (.iconst 0, 1) := by decide +kernel
theorem dX11_parseRider_17 : decode cX11_parseRider 17 = .ok (.iconst 3, 1) := by decide +kernel
theorem dX11_parseRider_18 : decode cX11_parseRider 18 = .ok (.invokevirtual 328, 3) := by decide +kernel
theorem dX11_parseRider_21 : decode cX11_parseRider 21 = .ok (.aload_n 0, 1) := by decide +kernel
theorem dX11_parseRider_22 : decode cX11_parseRider 22 = .ok (.invokevirtual 332, 3) := by decide +kernel
theorem dX11_parseRider_25 : decode cX11_parseRider 25 = .ok (.aload_n 0, 1) := by decide +kernel
theorem dX11_parseRider_26 : decode cX11_parseRider 26 = .ok (.invokevirtual 338, 3) := by decide +kernel
theorem dX11_parseRider_29 : decode cX11_parseRider 29 = .ok (.aload_n 0, 1) := by decide +kernel
theorem dX11_parseRider_30 : decode cX11_parseRider 30 = .ok (.iconst 0, 1) := by decide +kernel
theorem dX11_parseRider_31 : decode cX11_parseRider 31 = .ok (.sipush 1439, 3) := by decide +kernel
theorem dX11_parseRider_34 : decode cX11_parseRider 34 = .ok (.invokevirtual 335, 3) := by decide +kernel
theorem dX11_parseRider_37 : decode cX11_parseRider 37 = .ok (.istore_n 1, 1) := by decide +kernel
theorem dX11_parseRider_38 : decode cX11_parseRider 38 = .ok (.aload_n 0, 1) := by decide +kernel
theorem dX11_parseRider_39 : decode cX11_parseRider 39 = .ok (.iconst 0, 1) := by decide +kernel
theorem dX11_parseRider_40 : decode cX11_parseRider 40 = .ok (.sipush 9999, 3) := by decide +kernel
theorem dX11_parseRider_43 : decode cX11_parseRider 43 = .ok (.invokevirtual 335, 3) := by decide +kernel
theorem dX11_parseRider_46 : decode cX11_parseRider 46 = .ok (.istore_n 2, 1) := by decide +kernel
theorem dX11_parseRider_47 : decode cX11_parseRider 47 = .ok (.aload_n 0, 1) := by decide +kernel
theorem dX11_parseRider_48 : decode cX11_parseRider 48 = .ok (.getfield 322, 3) := by decide +kernel
theorem dX11_parseRider_51 : decode cX11_parseRider 51 = .ok (.ifCond .ne 34, 3) := by decide +kernel
theorem dX11_parseRider_54 : decode cX11_parseRider 54 = .ok (.aload_n 0, 1) := by decide +kernel
theorem dX11_parseRider_55 : decode cX11_parseRider 55 = .ok (.aload_n 0, 1) := by decide +kernel
theorem dX11_parseRider_56 : decode cX11_parseRider 56 = .ok (.getfield 58, 3) := by decide +kernel
theorem dX11_parseRider_59 : decode cX11_parseRider 59 = .ok (.iconst 0, 1) := by decide +kernel
theorem dX11_parseRider_60 : decode cX11_parseRider 60 = .ok (.iaload, 1) := by decide +kernel
theorem dX11_parseRider_61 : decode cX11_parseRider 61 = .ok (.aload_n 0, 1) := by decide +kernel
theorem dX11_parseRider_62 : decode cX11_parseRider 62 = .ok (.getfield 58, 3) := by decide +kernel
theorem dX11_parseRider_65 : decode cX11_parseRider 65 = .ok (.iconst 1, 1) := by decide +kernel
theorem dX11_parseRider_66 : decode cX11_parseRider 66 = .ok (.iaload, 1) := by decide +kernel
theorem dX11_parseRider_67 : decode cX11_parseRider 67 = .ok (.aload_n 0, 1) := by decide +kernel
theorem dX11_parseRider_68 : decode cX11_parseRider 68 = .ok (.getfield 58, 3) := by decide +kernel
theorem dX11_parseRider_71 : decode cX11_parseRider 71 = .ok (.iconst 2, 1) := by decide +kernel
theorem dX11_parseRider_72 : decode cX11_parseRider 72 = .ok (.iaload, 1) := by decide +kernel
theorem dX11_parseRider_73 : decode cX11_parseRider 73 = .ok (.aload_n 0, 1) := by decide +kernel
theorem dX11_parseRider_74 : decode cX11_parseRider 74 = .ok (.getfield 58, 3) := by decide +kernel
theorem dX11_parseRider_77 : decode cX11_parseRider 77 = .ok (.iconst 3, 1) := by decide +kernel
theorem dX11_parseRider_78 : decode cX11_parseRider 78 = .ok (.iaload, 1) := by decide +kernel
theorem dX11_parseRider_79 : decode cX11_parseRider 79 = .ok (.iload_n 1, 1) := by decide +kernel
theorem dX11_parseRider_80 : decode cX11_parseRider 80 = .ok (.iload_n 2, 1) := by decide +kernel
theorem dX11_parseRider_81 : decode cX11_parseRider 81 = .ok (.invokevirtual 108, 3) := by decide +kernel
theorem dX11_parseRider_84 : decode cX11_parseRider 84 = .ok (.istore_n 3, 1) := by decide +kernel
theorem dX11_parseRider_85 : decode cX11_parseRider 85 = .ok (.return_, 1) := by decide +kernel
theorem dX11_parseStatement_0 : decode cX11_parseStatement 0 = .ok (.aload_n 0, 1) := by decide +kernel
theorem dX11_parseStatement_1 : decode cX11_parseStatement 1 = .ok (.ldc_w 341, 3) := by decide +kernel
theorem dX11_parseStatement_4 : decode cX11_parseStatement 4 = .ok (.invokevirtual 342, 3) := by decide +kernel
theorem dX11_parseStatement_7 : decode cX11_parseStatement 7 = .ok (.ifCond .eq 10, 3) := by decide +kernel
theorem dX11_parseStatement_10 : decode cX11_parseStatement 10 = .ok (.aload_n 0, 1) := by decide +kernel
theorem dX11_parseStatement_11 : decode cX11_parseStatement 11 = .ok (.invokevirtual 346, 3) := by decide +kernel
theorem dX11_parseStatement_14 : decode cX11_parseStatement 14 = .ok (.goto 68, 3) := by decide +kernel
theorem dX11_parseStatement_17 : decode cX11_parseStatement 17 = .ok (.aload_n 0, 1) := by decide +kernel
theorem dX11_parseStatement_18 : decode cX11_parseStatement 18 = .ok (.ldc_w 349, 3) := by decide +kernel
theorem dX11_parseStatement_21 : decode cX11_parseStatement 21 = .ok (.invokevirtual 342, 3) := by decide +kernel
theorem dX11_parseStatement_24 : decode cX11_parseStatement 24 = .ok (.ifCond .eq 10, 3) := by decide +kernel
theorem dX11_parseStatement_27 : decode cX11_parseStatement 27 = .ok (.aload_n 0, 1) := by decide +kernel
theorem dX11_parseStatement_28 : decode cX11_parseStatement 28 = .ok (.invokevirtual 350, 3) := by decide +kernel
theorem dX11_parseStatement_31 : decode cX11_parseStatement 31 = .ok (.goto 51, 3) := by decide +kernel
theorem dX11_parseStatement_34 : decode cX11_parseStatement 34 = .ok (.aload_n 0, 1) := by decide +kernel
theorem dX11_parseStatement_35 : decode cX11_parseStatement 35 = .ok (.aload_n 0, 1) := by decide +kernel
theorem dX11_parseStatement_36 : decode cX11_parseStatement 36 = .ok (.ldc_w 353, 3) := by decide +kernel
theorem dX11_parseStatement_39 : decode cX11_parseStatement 39 = .ok (.invokevirtual 342, 3) := by decide +kernel
theorem dX11_parseStatement_42 : decode cX11_parseStatement 42 = .ok (.iconst 1, 1) := by decide +kernel
theorem dX11_parseStatement_43 : decode cX11_parseStatement 43 = .ok (.invokevirtual 328, 3) := by decide +kernel
theorem dX11_parseStatement_46 : decode cX11_parseStatement 46 = .ok (.aload_n 0, 1) := by decide +kernel
theorem dX11_parseStatement_47 : decode cX11_parseStatement 47 = .ok (.invokevirtual 332, 3) := by decide +kernel
theorem dX11_parseStatement_50 : decode cX11_parseStatement 50 = .ok (.aload_n 0, 1) := by decide +kernel
theorem dX11_parseStatement_51 : decode cX11_parseStatement 51 = .ok (.iconst 0, 1) := by decide +kernel
theorem dX11_parseStatement_52 : decode cX11_parseStatement 52 = .ok (.sipush 9999, 3) := by decide +kernel
theorem dX11_parseStatement_55 : decode cX11_parseStatement 55 = .ok (.invokevirtual 335, 3) := by decide +kernel
theorem dX11_parseStatement_58 : decode cX11_parseStatement 58 = .ok (.istore_n 1, 1) := by decide +kernel
theorem dX11_parseStatement_59 : decode cX11_parseStatement 59 = .ok (.aload_n 0, 1) := by decide +kernel
theorem dX11_parseStatement_60 : decode cX11_parseStatement 60 = .ok (.getfield 7, 3) := by decide +kernel
theorem dX11_parseStatement_63 : decode cX11_parseStatement 63 = .ok (.iconst 0, 1) := by decide +kernel
theorem dX11_parseStatement_64 : decode cX11_parseStatement 64 = .ok (.aload_n 0, 1) := by decide +kernel
theorem dX11_parseStatement_65 : decode cX11_parseStatement 65 = .ok (.getfield 322, 3) := by decide +kernel
theorem dX11_parseStatement_68 : decode cX11_parseStatement 68 = .ok (.ifCond .ne 7, 3) := by decide +kernel
theorem dX11_parseStatement_71 : decode cX11_parseStatement 71 = .ok (.iload_n 1, 1) := by decide +kernel
theorem dX11_parseStatement_72 : decode cX11_parseStatement 72 = .ok (.goto 9, 3) := by decide +kernel
theorem dX11_parseStatement_75 : decode cX11_parseStatement 75 = .ok (.aload_n 0, 1) := by decide +kernel
theorem dX11_parseStatement_76 : decode cX11_parseStatement 76 = .ok (.getfield 7, 3) := by decide +kernel
theorem dX11_parseStatement_79 : decode cX11_parseStatement 79 = .ok (.iconst 0, 1) := by decide +kernel
theorem dX11_parseStatement_80 : decode cX11_parseStatement 80 = .ok (.iaload, 1) := by decide +kernel
theorem dX11_parseStatement_81 : decode cX11_parseStatement 81 = .ok (.iastore, 1) := by decide +kernel
theorem dX11_parseStatement_82 : decode cX11_parseStatement 82 = .ok (.aload_n 0, 1) := by decide +kernel
theorem dX11_parseStatement_83 : decode cX11_parseStatement 83 = .ok (.aload_n 0, 1) := by decide +kernel
theorem dX11_parseStatement_84 : decode cX11_parseStatement 84 = .ok (.getfield 299, 3) := by decide +kernel
theorem dX11_parseStatement_87 : decode cX11_parseStatement 87 = .ok (.iconst 4, 1) := by decide +kernel
theorem dX11_parseStatement_88 : decode cX11_parseStatement 88 = .ok (.if_icmp .ne 7, 3) := by decide +kernel
theorem dX11_parseStatement_91 : decode cX11_parseStatement 91 = .ok (.iconst 1, 1) := by decide +kernel
theorem dX11_parseStatement_92 : decode cX11_parseStatement 92 = .ok (.goto 4, 3) := by decide +kernel
theorem dX11_parseStatement_95 : decode cX11_parseStatement 95 = .ok (.iconst 0, 1) := by decide +kernel
theorem dX11_parseStatement_96 : decode cX11_parseStatement 96 = .ok (.iconst 1, 1) := by decide +kernel
theorem dX11_parseStatement_97 : decode cX11_parseStatement 97 = .ok (.invokevirtual 328, 3) := by decide +kernel
theorem dX11_parseStatement_100 : decode cX11_parseStatement 100 = .ok (.aload_n 0, 1) := by decide +kernel
theorem dX11_parseStatement_101 : decode cX11_parseStatement 101 = .ok (.invokevirtual 332, 3) := by decide +kernel
theorem dX11_parseStatement_104 : decode cX11_parseStatement 104 = .ok (.return_, 1) := by decide +kernel
theorem dX11_copyInts_0 : decode cX11_copyInts 0 = .ok (.iconst 0, 1) := by decide +kernel
theorem dX11_copyInts_1 : decode cX11_copyInts 1 = .ok (.istore 4, 2) := by decide +kernel
theorem dX11_copyInts_3 : decode cX11_copyInts 3 = .ok (.iload 4, 2) := by decide +kernel
theorem dX11_copyInts_5 : decode cX11_copyInts 5 = .ok (.sipush 568, 3) := by decide +kernel
theorem dX11_copyInts_8 : decode cX11_copyInts 8 = .ok (.if_icmp .ge 21, 3) := by decide +kernel
theorem dX11_copyInts_11 : decode cX11_copyInts 11 = .ok (.aload_n 2, 1) := by decide +kernel
theorem dX11_copyInts_12 : decode cX11_copyInts 12 = .ok (.iload_n 3, 1) := by decide +kernel
theorem dX11_copyInts_13 : decode cX11_copyInts 13 = .ok (.iload 4, 2) := by decide +kernel
theorem dX11_copyInts_15 : decode cX11_copyInts 15 = .ok (.iadd, 1) := by decide +kernel
theorem dX11_copyInts_16 : decode cX11_copyInts 16 = .ok (.aload_n 0, 1) := by decide +kernel
theorem dX11_copyInts_17 : decode cX11_copyInts 17 = .ok (.iload_n 1, 1) := by decide +kernel
theorem dX11_copyInts_18 : decode cX11_copyInts 18 = .ok (.iload 4, 2) := by decide +kernel
theorem dX11_copyInts_20 : decode cX11_copyInts 20 = .ok (.iadd, 1) := by decide +kernel
theorem dX11_copyInts_21 : decode cX11_copyInts 21 = .ok (.iaload, 1) := by decide +kernel
theorem dX11_copyInts_22 : decode cX11_copyInts 22 = .ok (.iastore, 1) := by decide +kernel
theorem dX11_copyInts_23 : decode cX11_copyInts 23 = .ok (.iinc 4 1, 3) := by decide +kernel
theorem dX11_copyInts_26 : decode cX11_copyInts 26 = .ok (.goto (-23), 3) := by decide +kernel
theorem dX11_copyInts_29 : decode cX11_copyInts 29 = .ok (.return_, 1) := by decide +kernel
theorem dX11_copyCredits_0 : decode cX11_copyCredits 0 = .ok (.iconst 0, 1) := by decide +kernel
theorem dX11_copyCredits_1 : decode cX11_copyCredits 1 = .ok (.istore 4, 2) := by decide +kernel
theorem dX11_copyCredits_3 : decode cX11_copyCredits 3 = .ok (.iload 4, 2) := by decide +kernel
theorem dX11_copyCredits_5 : decode cX11_copyCredits 5 = .ok (.bipush 28, 2) := by decide +kernel
theorem dX11_copyCredits_7 : decode cX11_copyCredits 7 = .ok (.if_icmp .ge 21, 3) := by decide +kernel
theorem dX11_copyCredits_10 : decode cX11_copyCredits 10 = .ok (.aload_n 2, 1) := by decide +kernel
theorem dX11_copyCredits_11 : decode cX11_copyCredits 11 = .ok (.iload_n 3, 1) := by decide +kernel
theorem dX11_copyCredits_12 : decode cX11_copyCredits 12 = .ok (.iload 4, 2) := by decide +kernel
theorem dX11_copyCredits_14 : decode cX11_copyCredits 14 = .ok (.iadd, 1) := by decide +kernel
theorem dX11_copyCredits_15 : decode cX11_copyCredits 15 = .ok (.aload_n 0, 1) := by decide +kernel
theorem dX11_copyCredits_16 : decode cX11_copyCredits 16 = .ok (.iload_n 1, 1) := by decide +kernel
theorem dX11_copyCredits_17 : decode cX11_copyCredits 17 = .ok (.iload 4, 2) := by decide +kernel
theorem dX11_copyCredits_19 : decode cX11_copyCredits 19 = .ok (.iadd, 1) := by decide +kernel
theorem dX11_copyCredits_20 : decode cX11_copyCredits 20 = .ok (.laload, 1) := by decide +kernel
theorem dX11_copyCredits_21 : decode cX11_copyCredits 21 = .ok (.lastore, 1) := by decide +kernel
theorem dX11_copyCredits_22 : decode cX11_copyCredits 22 = .ok (.iinc 4 1, 3) := by decide +kernel
theorem dX11_copyCredits_25 : decode cX11_copyCredits 25 = .ok (.goto (-22), 3) := by decide +kernel
theorem dX11_copyCredits_28 : decode cX11_copyCredits 28 = .ok (.return_, 1) := by decide +kernel
theorem dX11_clearBoard_0 : decode cX11_clearBoard 0 = .ok (.iconst 0, 1) := by decide +kernel
theorem dX11_clearBoard_1 : decode cX11_clearBoard 1 = .ok (.istore_n 1, 1) := by decide +kernel
theorem dX11_clearBoard_2 : decode cX11_clearBoard 2 = .ok (.iload_n 1, 1) := by decide +kernel
theorem dX11_clearBoard_3 : decode cX11_clearBoard 3 = .ok (.sipush 568, 3) := by decide +kernel
theorem dX11_clearBoard_6 : decode cX11_clearBoard 6 = .ok (.if_icmp .ge 16, 3) := by decide +kernel
theorem dX11_clearBoard_9 : decode cX11_clearBoard 9 = .ok (.aload_n 0, 1) := by decide +kernel
theorem dX11_clearBoard_10 : decode cX11_clearBoard 10 = .ok (.getfield 7, 3) := by decide +kernel
theorem dX11_clearBoard_13 : decode cX11_clearBoard 13 = .ok (.iload_n 1, 1) := by decide +kernel
theorem dX11_clearBoard_14 : decode cX11_clearBoard 14 = .ok (.iconst 0, 1) := by decide +kernel
theorem dX11_clearBoard_15 : decode cX11_clearBoard 15 = .ok (.iastore, 1) := by decide +kernel
theorem dX11_clearBoard_16 : decode cX11_clearBoard 16 = .ok (.iinc 1 1, 3) := by decide +kernel
theorem dX11_clearBoard_19 : decode cX11_clearBoard 19 = .ok (.goto (-17), 3) := by decide +kernel
theorem dX11_clearBoard_22 : decode cX11_clearBoard 22 = .ok (.iconst 0, 1) := by decide +kernel
theorem dX11_clearBoard_23 : decode cX11_clearBoard 23 = .ok (.istore_n 1, 1) := by decide +kernel
theorem dX11_clearBoard_24 : decode cX11_clearBoard 24 = .ok (.iload_n 1, 1) := by decide +kernel
theorem dX11_clearBoard_25 : decode cX11_clearBoard 25 = .ok (.bipush 28, 2) := by decide +kernel
theorem dX11_clearBoard_27 : decode cX11_clearBoard 27 = .ok (.if_icmp .ge 16, 3) := by decide +kernel
theorem dX11_clearBoard_30 : decode cX11_clearBoard 30 = .ok (.aload_n 0, 1) := by decide +kernel
theorem dX11_clearBoard_31 : decode cX11_clearBoard 31 = .ok (.getfield 19, 3) := by decide +kernel
theorem dX11_clearBoard_34 : decode cX11_clearBoard 34 = .ok (.iload_n 1, 1) := by decide +kernel
theorem dX11_clearBoard_35 : decode cX11_clearBoard 35 = .ok (.lconst 0, 1) := by decide +kernel
theorem dX11_clearBoard_36 : decode cX11_clearBoard 36 = .ok (.lastore, 1) := by decide +kernel
theorem dX11_clearBoard_37 : decode cX11_clearBoard 37 = .ok (.iinc 1 1, 3) := by decide +kernel
theorem dX11_clearBoard_40 : decode cX11_clearBoard 40 = .ok (.goto (-16), 3) := by decide +kernel
theorem dX11_clearBoard_43 : decode cX11_clearBoard 43 = .ok (.aload_n 0, 1) := by decide +kernel
theorem dX11_clearBoard_44 : decode cX11_clearBoard 44 = .ok (.getfield 7, 3) := by decide +kernel
theorem dX11_clearBoard_47 : decode cX11_clearBoard 47 = .ok (.iconst 0, 1) := by decide +kernel
theorem dX11_clearBoard_48 : decode cX11_clearBoard 48 = .ok (.sipush 500, 3) := by decide +kernel
theorem dX11_clearBoard_51 : decode cX11_clearBoard 51 = .ok (.iastore, 1) := by decide +kernel
theorem dX11_clearBoard_52 : decode cX11_clearBoard 52 = .ok (.return_, 1) := by decide +kernel
theorem dX11_load_0 : decode cX11_load 0 = .ok (.aload_n 0, 1) := by decide +kernel
theorem dX11_load_1 : decode cX11_load 1 = .ok (.iconst 0, 1) := by decide +kernel
theorem dX11_load_2 : decode cX11_load 2 = .ok (.putfield 61, 3) := by decide +kernel
theorem dX11_load_5 : decode cX11_load 5 = .ok (.aload_n 0, 1) := by decide +kernel
theorem dX11_load_6 : decode cX11_load 6 = .ok (.getfield 7, 3) := by decide +kernel
theorem dX11_load_9 : decode cX11_load 9 = .ok (.iconst 0, 1) := by decide +kernel
theorem dX11_load_10 : decode cX11_load 10 = .ok (.aload_n 0, 1) := by decide +kernel
theorem dX11_load_11 : decode cX11_load 11 = .ok (.getfield 13, 3) := by decide +kernel
theorem dX11_load_14 : decode cX11_load 14 = .ok (.iconst 0, 1) := by decide +kernel
theorem dX11_load_15 : decode cX11_load 15 = .ok (.invokestatic 355, 3) := by decide +kernel
theorem dX11_load_18 : decode cX11_load 18 = .ok (.aload_n 0, 1) := by decide +kernel
theorem dX11_load_19 : decode cX11_load 19 = .ok (.getfield 19, 3) := by decide +kernel
theorem dX11_load_22 : decode cX11_load 22 = .ok (.iconst 0, 1) := by decide +kernel
theorem dX11_load_23 : decode cX11_load 23 = .ok (.aload_n 0, 1) := by decide +kernel
theorem dX11_load_24 : decode cX11_load 24 = .ok (.getfield 23, 3) := by decide +kernel
theorem dX11_load_27 : decode cX11_load 27 = .ok (.iconst 0, 1) := by decide +kernel
theorem dX11_load_28 : decode cX11_load 28 = .ok (.invokestatic 359, 3) := by decide +kernel
theorem dX11_load_31 : decode cX11_load 31 = .ok (.aload_n 0, 1) := by decide +kernel
theorem dX11_load_32 : decode cX11_load 32 = .ok (.invokevirtual 363, 3) := by decide +kernel
theorem dX11_load_35 : decode cX11_load 35 = .ok (.aload_n 0, 1) := by decide +kernel
theorem dX11_load_36 : decode cX11_load 36 = .ok (.iconst 0, 1) := by decide +kernel
theorem dX11_load_37 : decode cX11_load 37 = .ok (.putfield 322, 3) := by decide +kernel
theorem dX11_load_40 : decode cX11_load 40 = .ok (.aload_n 0, 1) := by decide +kernel
theorem dX11_load_41 : decode cX11_load 41 = .ok (.iconst (-1), 1) := by decide +kernel
theorem dX11_load_42 : decode cX11_load 42 = .ok (.putfield 54, 3) := by decide +kernel
theorem dX11_load_45 : decode cX11_load 45 = .ok (.aload_n 0, 1) := by decide +kernel
theorem dX11_load_46 : decode cX11_load 46 = .ok (.iconst 0, 1) := by decide +kernel
theorem dX11_load_47 : decode cX11_load 47 = .ok (.putfield 280, 3) := by decide +kernel
theorem dX11_load_50 : decode cX11_load 50 = .ok (.aload_n 0, 1) := by decide +kernel
theorem dX11_load_51 : decode cX11_load 51 = .ok (.invokevirtual 325, 3) := by decide +kernel
theorem dX11_load_54 : decode cX11_load 54 = .ok (.iconst 0, 1) := by decide +kernel
theorem dX11_load_55 : decode cX11_load 55 = .ok (.istore_n 1, 1) := by decide +kernel
theorem dX11_load_56 : decode cX11_load 56 = .ok (.aload_n 0, 1) := by decide +kernel
theorem dX11_load_57 : decode cX11_load 57 = .ok (.getfield 322, 3) := by decide +kernel
theorem dX11_load_60 : decode cX11_load 60 = .ok (.ifCond .ne 20, 3) := by decide +kernel
theorem dX11_load_63 : decode cX11_load 63 = .ok (.aload_n 0, 1) := by decide +kernel
theorem dX11_load_64 : decode cX11_load 64 = .ok (.getfield 299, 3) := by decide +kernel
theorem dX11_load_67 : decode cX11_load 67 = .ok (.ifCond .eq 13, 3) := by decide +kernel
theorem dX11_load_70 : decode cX11_load 70 = .ok (.aload_n 0, 1) := by decide +kernel
theorem dX11_load_71 : decode cX11_load 71 = .ok (.invokevirtual 366, 3) := by decide +kernel
theorem dX11_load_74 : decode cX11_load 74 = .ok (.iinc 1 1, 3) := by decide +kernel
theorem dX11_load_77 : decode cX11_load 77 = .ok (.goto (-21), 3) := by decide +kernel
theorem dX11_load_80 : decode cX11_load 80 = .ok (.aload_n 0, 1) := by decide +kernel
theorem dX11_load_81 : decode cX11_load 81 = .ok (.iconst 0, 1) := by decide +kernel
theorem dX11_load_82 : decode cX11_load 82 = .ok (.putfield 277, 3) := by decide +kernel
theorem dX11_load_85 : decode cX11_load 85 = .ok (.aload_n 0, 1) := by decide +kernel
theorem dX11_load_86 : decode cX11_load 86 = .ok (.getfield 322, 3) := by decide +kernel
theorem dX11_load_89 : decode cX11_load 89 = .ok (.ifCond .eq 31, 3) := by decide +kernel
theorem dX11_load_92 : decode cX11_load 92 = .ok (.aload_n 0, 1) := by decide +kernel
theorem dX11_load_93 : decode cX11_load 93 = .ok (.getfield 13, 3) := by decide +kernel
theorem dX11_load_96 : decode cX11_load 96 = .ok (.iconst 0, 1) := by decide +kernel
theorem dX11_load_97 : decode cX11_load 97 = .ok (.aload_n 0, 1) := by decide +kernel
theorem dX11_load_98 : decode cX11_load 98 = .ok (.getfield 7, 3) := by decide +kernel
theorem dX11_load_101 : decode cX11_load 101 = .ok (.iconst 0, 1) := by decide +kernel
theorem dX11_load_102 : decode cX11_load 102 = .ok (.invokestatic 355, 3) := by decide +kernel
theorem dX11_load_105 : decode cX11_load 105 = .ok (.aload_n 0, 1) := by decide +kernel
theorem dX11_load_106 : decode cX11_load 106 = .ok (.getfield 23, 3) := by decide +kernel
theorem dX11_load_109 : decode cX11_load 109 = .ok (.iconst 0, 1) := by decide +kernel
theorem dX11_load_110 : decode cX11_load 110 = .ok (.aload_n 0, 1) := by decide +kernel
theorem dX11_load_111 : decode cX11_load 111 = .ok (.getfield 19, 3) := by decide +kernel
theorem dX11_load_114 : decode cX11_load 114 = .ok (.iconst 0, 1) := by decide +kernel
theorem dX11_load_115 : decode cX11_load 115 = .ok (.invokestatic 359, 3) := by decide +kernel
theorem dX11_load_118 : decode cX11_load 118 = .ok (.iconst (-1), 1) := by decide +kernel
theorem dX11_load_119 : decode cX11_load 119 = .ok (.ireturn, 1) := by decide +kernel
theorem dX11_load_120 : decode cX11_load 120 = .ok (.iload_n 1, 1) := by decide +kernel
theorem dX11_load_121 : decode cX11_load 121 = .ok (.ireturn, 1) := by decide +kernel
theorem dX11_errorCode_0 : decode cX11_errorCode 0 = .ok (.aload_n 0, 1) := by decide +kernel
theorem dX11_errorCode_1 : decode cX11_errorCode 1 = .ok (.iconst 0, 1) := by decide +kernel
theorem dX11_errorCode_2 : decode cX11_errorCode 2 = .ok (.putfield 61, 3) := by decide +kernel
theorem dX11_errorCode_5 : decode cX11_errorCode 5 = .ok (.aload_n 0, 1) := by decide +kernel
theorem dX11_errorCode_6 : decode cX11_errorCode 6 = .ok (.getfield 322, 3) := by decide +kernel
theorem dX11_errorCode_9 : decode cX11_errorCode 9 = .ok (.ireturn, 1) := by decide +kernel
theorem dX11_errorPosition_0 : decode cX11_errorPosition 0 = .ok (.aload_n 0, 1) := by decide +kernel
theorem dX11_errorPosition_1 : decode cX11_errorPosition 1 = .ok (.iconst 0, 1) := by decide +kernel
theorem dX11_errorPosition_2 : decode cX11_errorPosition 2 = .ok (.putfield 61, 3) := by decide +kernel
theorem dX11_errorPosition_5 : decode cX11_errorPosition 5 = .ok (.aload_n 0, 1) := by decide +kernel
theorem dX11_errorPosition_6 : decode cX11_errorPosition 6 = .ok (.getfield 54, 3) := by decide +kernel
theorem dX11_errorPosition_9 : decode cX11_errorPosition 9 = .ok (.ireturn, 1) := by decide +kernel
theorem dX11_save_0 : decode cX11_save 0 = .ok (.aload_n 0, 1) := by decide +kernel
theorem dX11_save_1 : decode cX11_save 1 = .ok (.iload_n 1, 1) := by decide +kernel
theorem dX11_save_2 : decode cX11_save 2 = .ok (.iconst 0, 1) := by decide +kernel
theorem dX11_save_3 : decode cX11_save 3 = .ok (.iconst 1, 1) := by decide +kernel
theorem dX11_save_4 : decode cX11_save 4 = .ok (.invokestatic 64, 3) := by decide +kernel
theorem dX11_save_7 : decode cX11_save 7 = .ok (.ifCond .eq 7, 3) := by decide +kernel
theorem dX11_save_10 : decode cX11_save 10 = .ok (.iconst 0, 1) := by decide +kernel
theorem dX11_save_11 : decode cX11_save 11 = .ok (.goto 4, 3) := by decide +kernel
theorem dX11_save_14 : decode cX11_save 14 = .ok (.iconst 1, 1) := by decide +kernel
theorem dX11_save_15 : decode cX11_save 15 = .ok (.putfield 61, 3) := by decide +kernel
theorem dX11_save_18 : decode cX11_save 18 = .ok (.aload_n 0, 1) := by decide +kernel
theorem dX11_save_19 : decode cX11_save 19 = .ok (.getfield 61, 3) := by decide +kernel
theorem dX11_save_22 : decode cX11_save 22 = .ok (.ifCond .ne 43, 3) := by decide +kernel
theorem dX11_save_25 : decode cX11_save 25 = .ok (.aload_n 0, 1) := by decide +kernel
theorem dX11_save_26 : decode cX11_save 26 = .ok (.getfield 7, 3) := by decide +kernel
theorem dX11_save_29 : decode cX11_save 29 = .ok (.iconst 0, 1) := by decide +kernel
theorem dX11_save_30 : decode cX11_save 30 = .ok (.aload_n 0, 1) := by decide +kernel
theorem dX11_save_31 : decode cX11_save 31 = .ok (.getfield 16, 3) := by decide +kernel
theorem dX11_save_34 : decode cX11_save 34 = .ok (.sipush 568, 3) := by decide +kernel
theorem dX11_save_37 : decode cX11_save 37 = .ok (.iload_n 1, 1) := by decide +kernel
theorem dX11_save_38 : decode cX11_save 38 = .ok (.imul, 1) := by decide +kernel
theorem dX11_save_39 : decode cX11_save 39 = .ok (.invokestatic 355, 3) := by decide +kernel
theorem dX11_save_42 : decode cX11_save 42 = .ok (.aload_n 0, 1) := by decide +kernel
theorem dX11_save_43 : decode cX11_save 43 = .ok (.getfield 19, 3) := by decide +kernel
theorem dX11_save_46 : decode cX11_save 46 = .ok (.iconst 0, 1) := by decide +kernel
theorem dX11_save_47 : decode cX11_save 47 = .ok (.aload_n 0, 1) := by decide +kernel
theorem dX11_save_48 : decode cX11_save 48 = .ok (.getfield 26, 3) := by decide +kernel
theorem dX11_save_51 : decode cX11_save 51 = .ok (.bipush 28, 2) := by decide +kernel
theorem dX11_save_53 : decode cX11_save 53 = .ok (.iload_n 1, 1) := by decide +kernel
theorem dX11_save_54 : decode cX11_save 54 = .ok (.imul, 1) := by decide +kernel
theorem dX11_save_55 : decode cX11_save 55 = .ok (.invokestatic 359, 3) := by decide +kernel
theorem dX11_save_58 : decode cX11_save 58 = .ok (.aload_n 0, 1) := by decide +kernel
theorem dX11_save_59 : decode cX11_save 59 = .ok (.getfield 29, 3) := by decide +kernel
theorem dX11_save_62 : decode cX11_save 62 = .ok (.iload_n 1, 1) := by decide +kernel
theorem dX11_save_63 : decode cX11_save 63 = .ok (.iconst 1, 1) := by decide +kernel
theorem dX11_save_64 : decode cX11_save 64 = .ok (.bastore, 1) := by decide +kernel
theorem dX11_save_65 : decode cX11_save 65 = .ok (.return_, 1) := by decide +kernel
theorem dX11_restore_0 : decode cX11_restore 0 = .ok (.aload_n 0, 1) := by decide +kernel
theorem dX11_restore_1 : decode cX11_restore 1 = .ok (.iload_n 1, 1) := by decide +kernel
theorem dX11_restore_2 : decode cX11_restore 2 = .ok (.iconst 0, 1) := by decide +kernel
theorem dX11_restore_3 : decode cX11_restore 3 = .ok (.iconst 1, 1) := by decide +kernel
theorem dX11_restore_4 : decode cX11_restore 4 = .ok (.invokestatic 64, 3) := by decide +kernel
theorem dX11_restore_7 : decode cX11_restore 7 = .ok (.ifCond .ne 7, 3) := by decide +kernel
theorem dX11_restore_10 : decode cX11_restore 10 = .ok (.iconst 1, 1) := by decide +kernel
theorem dX11_restore_11 : decode cX11_restore 11 = .ok (.goto 17, 3) := by decide +kernel
theorem dX11_restore_14 : decode cX11_restore 14 = .ok (.aload_n 0, 1) := by decide +kernel
theorem dX11_restore_15 : decode cX11_restore 15 = .ok (.getfield 29, 3) := by decide +kernel
theorem dX11_restore_18 : decode cX11_restore 18 = .ok (.iload_n 1, 1) := by decide +kernel
theorem dX11_restore_19 : decode cX11_restore 19 = .ok (.baload, 1) := by decide +kernel
theorem dX11_restore_20 : decode cX11_restore 20 = .ok (.ifCond .ne 7, 3) := by decide +kernel
theorem dX11_restore_23 : decode cX11_restore 23 = .ok (.iconst 2, 1) := by decide +kernel
theorem dX11_restore_24 : decode cX11_restore 24 = .ok (.goto 4, 3) := by decide +kernel
theorem dX11_restore_27 : decode cX11_restore 27 = .ok (.iconst 0, 1) := by decide +kernel
theorem dX11_restore_28 : decode cX11_restore 28 = .ok (.putfield 61, 3) := by decide +kernel
theorem dX11_restore_31 : decode cX11_restore 31 = .ok (.aload_n 0, 1) := by decide +kernel
theorem dX11_restore_32 : decode cX11_restore 32 = .ok (.getfield 61, 3) := by decide +kernel
theorem dX11_restore_35 : decode cX11_restore 35 = .ok (.ifCond .ne 36, 3) := by decide +kernel
theorem dX11_restore_38 : decode cX11_restore 38 = .ok (.aload_n 0, 1) := by decide +kernel
theorem dX11_restore_39 : decode cX11_restore 39 = .ok (.getfield 16, 3) := by decide +kernel
theorem dX11_restore_42 : decode cX11_restore 42 = .ok (.sipush 568, 3) := by decide +kernel
theorem dX11_restore_45 : decode cX11_restore 45 = .ok (.iload_n 1, 1) := by decide +kernel
theorem dX11_restore_46 : decode cX11_restore 46 = .ok (.imul, 1) := by decide +kernel
theorem dX11_restore_47 : decode cX11_restore 47 = .ok (.aload_n 0, 1) := by decide +kernel
theorem dX11_restore_48 : decode cX11_restore 48 = .ok (.getfield 7, 3) := by decide +kernel
theorem dX11_restore_51 : decode cX11_restore 51 = .ok (.iconst 0, 1) := by decide +kernel
theorem dX11_restore_52 : decode cX11_restore 52 = .ok (.invokestatic 355, 3) := by decide +kernel
theorem dX11_restore_55 : decode cX11_restore 55 = .ok (.aload_n 0, 1) := by decide +kernel
theorem dX11_restore_56 : decode cX11_restore 56 = .ok (.getfield 26, 3) := by decide +kernel
theorem dX11_restore_59 : decode cX11_restore 59 = .ok (.bipush 28, 2) := by decide +kernel
theorem dX11_restore_61 : decode cX11_restore 61 = .ok (.iload_n 1, 1) := by decide +kernel
theorem dX11_restore_62 : decode cX11_restore 62 = .ok (.imul, 1) := by decide +kernel
theorem dX11_restore_63 : decode cX11_restore 63 = .ok (.aload_n 0, 1) := by decide +kernel
theorem dX11_restore_64 : decode cX11_restore 64 = .ok (.getfield 19, 3) := by decide +kernel
theorem dX11_restore_67 : decode cX11_restore 67 = .ok (.iconst 0, 1) := by decide +kernel
theorem dX11_restore_68 : decode cX11_restore 68 = .ok (.invokestatic 359, 3) := by decide +kernel
theorem dX11_restore_71 : decode cX11_restore 71 = .ok (.return_, 1) := by decide +kernel
theorem dL_addDriver_0 : decode cL_addDriver 0 = .ok (.aload 5, 2) := by decide +kernel
theorem dL_addDriver_2 : decode cL_addDriver 2 = .ok (.iconst 0, 1) := by decide +kernel
theorem dL_addDriver_3 : decode cL_addDriver 3 = .ok (.aload_n 0, 1) := by decide +kernel
theorem dL_addDriver_4 : decode cL_addDriver 4 = .ok (.iload_n 1, 1) := by decide +kernel
theorem dL_addDriver_5 : decode cL_addDriver 5 = .ok (.iload_n 2, 1) := by decide +kernel
theorem dL_addDriver_6 : decode cL_addDriver 6 = .ok (.iload_n 3, 1) := by decide +kernel
theorem dL_addDriver_7 : decode cL_addDriver 7 = .ok (.iload 4, 2) := by decide +kernel
theorem dL_addDriver_9 : decode cL_addDriver 9 = .ok (.invokevirtual 7, 3) := by decide +kernel
theorem dL_addDriver_12 : decode cL_addDriver 12 = .ok (.i2l, 1) := by decide +kernel
theorem dL_addDriver_13 : decode cL_addDriver 13 = .ok (.lastore, 1) := by decide +kernel
theorem dL_addDriver_14 : decode cL_addDriver 14 = .ok (.goto 11, 3) := by decide +kernel
theorem dL_addDriver_17 : decode cL_addDriver 17 = .ok (.astore 6, 2) := by decide +kernel
theorem dL_addDriver_19 : decode cL_addDriver 19 = .ok (.iconst 1, 1) := by decide +kernel
theorem dL_addDriver_20 : decode cL_addDriver 20 = .ok (.ireturn, 1) := by decide +kernel
theorem dL_addDriver_21 : decode cL_addDriver 21 = .ok (.astore 6, 2) := by decide +kernel
theorem dL_addDriver_23 : decode cL_addDriver 23 = .ok (.iconst 2, 1) := by decide +kernel
theorem dL_addDriver_24 : decode cL_addDriver 24 = .ok (.ireturn, 1) := by decide +kernel
theorem dL_addDriver_25 : decode cL_addDriver 25 = .ok (.iconst 0, 1) := by decide +kernel
theorem dL_addDriver_26 : decode cL_addDriver 26 = .ok (.ireturn, 1) := by decide +kernel
theorem dL_setTrip_0 : decode cL_setTrip 0 = .ok (.aload 6, 2) := by decide +kernel
theorem dL_setTrip_2 : decode cL_setTrip 2 = .ok (.iconst 0, 1) := by decide +kernel
theorem dL_setTrip_3 : decode cL_setTrip 3 = .ok (.aload_n 0, 1) := by decide +kernel
theorem dL_setTrip_4 : decode cL_setTrip 4 = .ok (.iload_n 1, 1) := by decide +kernel
theorem dL_setTrip_5 : decode cL_setTrip 5 = .ok (.iload_n 2, 1) := by decide +kernel
theorem dL_setTrip_6 : decode cL_setTrip 6 = .ok (.iload_n 3, 1) := by decide +kernel
theorem dL_setTrip_7 : decode cL_setTrip 7 = .ok (.iload 4, 2) := by decide +kernel
theorem dL_setTrip_9 : decode cL_setTrip 9 = .ok (.iload 5, 2) := by decide +kernel
theorem dL_setTrip_11 : decode cL_setTrip 11 = .ok (.invokevirtual 17, 3) := by decide +kernel
theorem dL_setTrip_14 : decode cL_setTrip 14 = .ok (.i2l, 1) := by decide +kernel
theorem dL_setTrip_15 : decode cL_setTrip 15 = .ok (.lastore, 1) := by decide +kernel
theorem dL_setTrip_16 : decode cL_setTrip 16 = .ok (.goto 15, 3) := by decide +kernel
theorem dL_setTrip_19 : decode cL_setTrip 19 = .ok (.astore 7, 2) := by decide +kernel
theorem dL_setTrip_21 : decode cL_setTrip 21 = .ok (.iconst 1, 1) := by decide +kernel
theorem dL_setTrip_22 : decode cL_setTrip 22 = .ok (.ireturn, 1) := by decide +kernel
theorem dL_setTrip_23 : decode cL_setTrip 23 = .ok (.astore 7, 2) := by decide +kernel
theorem dL_setTrip_25 : decode cL_setTrip 25 = .ok (.iconst 2, 1) := by decide +kernel
theorem dL_setTrip_26 : decode cL_setTrip 26 = .ok (.ireturn, 1) := by decide +kernel
theorem dL_setTrip_27 : decode cL_setTrip 27 = .ok (.astore 7, 2) := by decide +kernel
theorem dL_setTrip_29 : decode cL_setTrip 29 = .ok (.iconst 3, 1) := by decide +kernel
theorem dL_setTrip_30 : decode cL_setTrip 30 = .ok (.ireturn, 1) := by decide +kernel
theorem dL_setTrip_31 : decode cL_setTrip 31 = .ok (.iconst 0, 1) := by decide +kernel
theorem dL_setTrip_32 : decode cL_setTrip 32 = .ok (.ireturn, 1) := by decide +kernel
theorem dL_addRider_0 : decode cL_addRider 0 = .ok (.aload 7, 2) := by decide +kernel
theorem dL_addRider_2 : decode cL_addRider 2 = .ok (.iconst 0, 1) := by decide +kernel
theorem dL_addRider_3 : decode cL_addRider 3 = .ok (.aload_n 0, 1) := by decide +kernel
theorem dL_addRider_4 : decode cL_addRider 4 = .ok (.iload_n 1, 1) := by decide +kernel
theorem dL_addRider_5 : decode cL_addRider 5 = .ok (.iload_n 2, 1) := by decide +kernel
theorem dL_addRider_6 : decode cL_addRider 6 = .ok (.iload_n 3, 1) := by decide +kernel
theorem dL_addRider_7 : decode cL_addRider 7 = .ok (.iload 4, 2) := by decide +kernel
theorem dL_addRider_9 : decode cL_addRider 9 = .ok (.iload 5, 2) := by decide +kernel
theorem dL_addRider_11 : decode cL_addRider 11 = .ok (.iload 6, 2) := by decide +kernel
theorem dL_addRider_13 : decode cL_addRider 13 = .ok (.invokevirtual 23, 3) := by decide +kernel
theorem dL_addRider_16 : decode cL_addRider 16 = .ok (.i2l, 1) := by decide +kernel
theorem dL_addRider_17 : decode cL_addRider 17 = .ok (.lastore, 1) := by decide +kernel
theorem dL_addRider_18 : decode cL_addRider 18 = .ok (.goto 11, 3) := by decide +kernel
theorem dL_addRider_21 : decode cL_addRider 21 = .ok (.astore 8, 2) := by decide +kernel
theorem dL_addRider_23 : decode cL_addRider 23 = .ok (.iconst 1, 1) := by decide +kernel
theorem dL_addRider_24 : decode cL_addRider 24 = .ok (.ireturn, 1) := by decide +kernel
theorem dL_addRider_25 : decode cL_addRider 25 = .ok (.astore 8, 2) := by decide +kernel
theorem dL_addRider_27 : decode cL_addRider 27 = .ok (.iconst 2, 1) := by decide +kernel
theorem dL_addRider_28 : decode cL_addRider 28 = .ok (.ireturn, 1) := by decide +kernel
theorem dL_addRider_29 : decode cL_addRider 29 = .ok (.iconst 0, 1) := by decide +kernel
theorem dL_addRider_30 : decode cL_addRider 30 = .ok (.ireturn, 1) := by decide +kernel
theorem dL_isDone_0 : decode cL_isDone 0 = .ok (.aload_n 2, 1) := by decide +kernel
theorem dL_isDone_1 : decode cL_isDone 1 = .ok (.iconst 0, 1) := by decide +kernel
theorem dL_isDone_2 : decode cL_isDone 2 = .ok (.aload_n 0, 1) := by decide +kernel
theorem dL_isDone_3 : decode cL_isDone 3 = .ok (.iload_n 1, 1) := by decide +kernel
theorem dL_isDone_4 : decode cL_isDone 4 = .ok (.invokevirtual 27, 3) := by decide +kernel
theorem dL_isDone_7 : decode cL_isDone 7 = .ok (.ifCond .eq 7, 3) := by decide +kernel
theorem dL_isDone_10 : decode cL_isDone 10 = .ok (.lconst 1, 1) := by decide +kernel
theorem dL_isDone_11 : decode cL_isDone 11 = .ok (.goto 4, 3) := by decide +kernel
theorem dL_isDone_14 : decode cL_isDone 14 = .ok (.lconst 0, 1) := by decide +kernel
theorem dL_isDone_15 : decode cL_isDone 15 = .ok (.lastore, 1) := by decide +kernel
theorem dL_isDone_16 : decode cL_isDone 16 = .ok (.goto 6, 3) := by decide +kernel
theorem dL_isDone_19 : decode cL_isDone 19 = .ok (.astore_n 3, 1) := by decide +kernel
theorem dL_isDone_20 : decode cL_isDone 20 = .ok (.iconst 1, 1) := by decide +kernel
theorem dL_isDone_21 : decode cL_isDone 21 = .ok (.ireturn, 1) := by decide +kernel
theorem dL_isDone_22 : decode cL_isDone 22 = .ok (.iconst 0, 1) := by decide +kernel
theorem dL_isDone_23 : decode cL_isDone 23 = .ok (.ireturn, 1) := by decide +kernel
theorem dL_riderState_0 : decode cL_riderState 0 = .ok (.aload_n 2, 1) := by decide +kernel
theorem dL_riderState_1 : decode cL_riderState 1 = .ok (.iconst 0, 1) := by decide +kernel
theorem dL_riderState_2 : decode cL_riderState 2 = .ok (.aload_n 0, 1) := by decide +kernel
theorem dL_riderState_3 : decode cL_riderState 3 = .ok (.iload_n 1, 1) := by decide +kernel
theorem dL_riderState_4 : decode cL_riderState 4 = .ok (.invokevirtual 31, 3) := by decide +kernel
theorem dL_riderState_7 : decode cL_riderState 7 = .ok (.i2l, 1) := by decide +kernel
theorem dL_riderState_8 : decode cL_riderState 8 = .ok (.lastore, 1) := by decide +kernel
theorem dL_riderState_9 : decode cL_riderState 9 = .ok (.goto 6, 3) := by decide +kernel
theorem dL_riderState_12 : decode cL_riderState 12 = .ok (.astore_n 3, 1) := by decide +kernel
theorem dL_riderState_13 : decode cL_riderState 13 = .ok (.iconst 1, 1) := by decide +kernel
theorem dL_riderState_14 : decode cL_riderState 14 = .ok (.ireturn, 1) := by decide +kernel
theorem dL_riderState_15 : decode cL_riderState 15 = .ok (.iconst 0, 1) := by decide +kernel
theorem dL_riderState_16 : decode cL_riderState 16 = .ok (.ireturn, 1) := by decide +kernel
theorem dL_driverOf_0 : decode cL_driverOf 0 = .ok (.aload_n 2, 1) := by decide +kernel
theorem dL_driverOf_1 : decode cL_driverOf 1 = .ok (.iconst 0, 1) := by decide +kernel
theorem dL_driverOf_2 : decode cL_driverOf 2 = .ok (.aload_n 0, 1) := by decide +kernel
theorem dL_driverOf_3 : decode cL_driverOf 3 = .ok (.iload_n 1, 1) := by decide +kernel
theorem dL_driverOf_4 : decode cL_driverOf 4 = .ok (.invokevirtual 35, 3) := by decide +kernel
theorem dL_driverOf_7 : decode cL_driverOf 7 = .ok (.i2l, 1) := by decide +kernel
theorem dL_driverOf_8 : decode cL_driverOf 8 = .ok (.lastore, 1) := by decide +kernel
theorem dL_driverOf_9 : decode cL_driverOf 9 = .ok (.goto 6, 3) := by decide +kernel
theorem dL_driverOf_12 : decode cL_driverOf 12 = .ok (.astore_n 3, 1) := by decide +kernel
theorem dL_driverOf_13 : decode cL_driverOf 13 = .ok (.iconst 1, 1) := by decide +kernel
theorem dL_driverOf_14 : decode cL_driverOf 14 = .ok (.ireturn, 1) := by decide +kernel
theorem dL_driverOf_15 : decode cL_driverOf 15 = .ok (.iconst 0, 1) := by decide +kernel
theorem dL_driverOf_16 : decode cL_driverOf 16 = .ok (.ireturn, 1) := by decide +kernel
theorem dL_ridersOf_0 : decode cL_ridersOf 0 = .ok (.aload_n 2, 1) := by decide +kernel
theorem dL_ridersOf_1 : decode cL_ridersOf 1 = .ok (.iconst 0, 1) := by decide +kernel
theorem dL_ridersOf_2 : decode cL_ridersOf 2 = .ok (.aload_n 0, 1) := by decide +kernel
theorem dL_ridersOf_3 : decode cL_ridersOf 3 = .ok (.iload_n 1, 1) := by decide +kernel
theorem dL_ridersOf_4 : decode cL_ridersOf 4 = .ok (.invokevirtual 38, 3) := by decide +kernel
theorem dL_ridersOf_7 : decode cL_ridersOf 7 = .ok (.i2l, 1) := by decide +kernel
theorem dL_ridersOf_8 : decode cL_ridersOf 8 = .ok (.lastore, 1) := by decide +kernel
theorem dL_ridersOf_9 : decode cL_ridersOf 9 = .ok (.goto 6, 3) := by decide +kernel
theorem dL_ridersOf_12 : decode cL_ridersOf 12 = .ok (.astore_n 3, 1) := by decide +kernel
theorem dL_ridersOf_13 : decode cL_ridersOf 13 = .ok (.iconst 1, 1) := by decide +kernel
theorem dL_ridersOf_14 : decode cL_ridersOf 14 = .ok (.ireturn, 1) := by decide +kernel
theorem dL_ridersOf_15 : decode cL_ridersOf 15 = .ok (.iconst 0, 1) := by decide +kernel
theorem dL_ridersOf_16 : decode cL_ridersOf 16 = .ok (.ireturn, 1) := by decide +kernel
theorem dL_setPenalty_0 : decode cL_setPenalty 0 = .ok (.aload_n 2, 1) := by decide +kernel
theorem dL_setPenalty_1 : decode cL_setPenalty 1 = .ok (.iconst 0, 1) := by decide +kernel
theorem dL_setPenalty_2 : decode cL_setPenalty 2 = .ok (.aload_n 0, 1) := by decide +kernel
theorem dL_setPenalty_3 : decode cL_setPenalty 3 = .ok (.iload_n 1, 1) := by decide +kernel
theorem dL_setPenalty_4 : decode cL_setPenalty 4 = .ok (.invokevirtual 41, 3) := by decide +kernel
theorem dL_setPenalty_7 : decode cL_setPenalty 7 = .ok (.i2l, 1) := by decide +kernel
theorem dL_setPenalty_8 : decode cL_setPenalty 8 = .ok (.lastore, 1) := by decide +kernel
theorem dL_setPenalty_9 : decode cL_setPenalty 9 = .ok (.goto 6, 3) := by decide +kernel
theorem dL_setPenalty_12 : decode cL_setPenalty 12 = .ok (.astore_n 3, 1) := by decide +kernel
theorem dL_setPenalty_13 : decode cL_setPenalty 13 = .ok (.iconst 1, 1) := by decide +kernel
theorem dL_setPenalty_14 : decode cL_setPenalty 14 = .ok (.ireturn, 1) := by decide +kernel
theorem dL_setPenalty_15 : decode cL_setPenalty 15 = .ok (.iconst 0, 1) := by decide +kernel
theorem dL_setPenalty_16 : decode cL_setPenalty 16 = .ok (.ireturn, 1) := by decide +kernel
theorem dL_stopCount_0 : decode cL_stopCount 0 = .ok (.aload_n 2, 1) := by decide +kernel
theorem dL_stopCount_1 : decode cL_stopCount 1 = .ok (.iconst 0, 1) := by decide +kernel
theorem dL_stopCount_2 : decode cL_stopCount 2 = .ok (.aload_n 0, 1) := by decide +kernel
theorem dL_stopCount_3 : decode cL_stopCount 3 = .ok (.iload_n 1, 1) := by decide +kernel
theorem dL_stopCount_4 : decode cL_stopCount 4 = .ok (.invokevirtual 44, 3) := by decide +kernel
theorem dL_stopCount_7 : decode cL_stopCount 7 = .ok (.i2l, 1) := by decide +kernel
theorem dL_stopCount_8 : decode cL_stopCount 8 = .ok (.lastore, 1) := by decide +kernel
theorem dL_stopCount_9 : decode cL_stopCount 9 = .ok (.goto 6, 3) := by decide +kernel
theorem dL_stopCount_12 : decode cL_stopCount 12 = .ok (.astore_n 3, 1) := by decide +kernel
theorem dL_stopCount_13 : decode cL_stopCount 13 = .ok (.iconst 1, 1) := by decide +kernel
theorem dL_stopCount_14 : decode cL_stopCount 14 = .ok (.ireturn, 1) := by decide +kernel
theorem dL_stopCount_15 : decode cL_stopCount 15 = .ok (.iconst 0, 1) := by decide +kernel
theorem dL_stopCount_16 : decode cL_stopCount 16 = .ok (.ireturn, 1) := by decide +kernel
theorem dL_stopRider_0 : decode cL_stopRider 0 = .ok (.aload_n 3, 1) := by decide +kernel
theorem dL_stopRider_1 : decode cL_stopRider 1 = .ok (.iconst 0, 1) := by decide +kernel
theorem dL_stopRider_2 : decode cL_stopRider 2 = .ok (.aload_n 0, 1) := by decide +kernel
theorem dL_stopRider_3 : decode cL_stopRider 3 = .ok (.iload_n 1, 1) := by decide +kernel
theorem dL_stopRider_4 : decode cL_stopRider 4 = .ok (.iload_n 2, 1) := by decide +kernel
theorem dL_stopRider_5 : decode cL_stopRider 5 = .ok (.invokevirtual 47, 3) := by decide +kernel
theorem dL_stopRider_8 : decode cL_stopRider 8 = .ok (.i2l, 1) := by decide +kernel
theorem dL_stopRider_9 : decode cL_stopRider 9 = .ok (.lastore, 1) := by decide +kernel
theorem dL_stopRider_10 : decode cL_stopRider 10 = .ok (.goto 7, 3) := by decide +kernel
theorem dL_stopRider_13 : decode cL_stopRider 13 = .ok (.astore 4, 2) := by decide +kernel
theorem dL_stopRider_15 : decode cL_stopRider 15 = .ok (.iconst 1, 1) := by decide +kernel
theorem dL_stopRider_16 : decode cL_stopRider 16 = .ok (.ireturn, 1) := by decide +kernel
theorem dL_stopRider_17 : decode cL_stopRider 17 = .ok (.iconst 0, 1) := by decide +kernel
theorem dL_stopRider_18 : decode cL_stopRider 18 = .ok (.ireturn, 1) := by decide +kernel
theorem dL_arrival_0 : decode cL_arrival 0 = .ok (.aload_n 3, 1) := by decide +kernel
theorem dL_arrival_1 : decode cL_arrival 1 = .ok (.iconst 0, 1) := by decide +kernel
theorem dL_arrival_2 : decode cL_arrival 2 = .ok (.aload_n 0, 1) := by decide +kernel
theorem dL_arrival_3 : decode cL_arrival 3 = .ok (.iload_n 1, 1) := by decide +kernel
theorem dL_arrival_4 : decode cL_arrival 4 = .ok (.iload_n 2, 1) := by decide +kernel
theorem dL_arrival_5 : decode cL_arrival 5 = .ok (.invokevirtual 51, 3) := by decide +kernel
theorem dL_arrival_8 : decode cL_arrival 8 = .ok (.i2l, 1) := by decide +kernel
theorem dL_arrival_9 : decode cL_arrival 9 = .ok (.lastore, 1) := by decide +kernel
theorem dL_arrival_10 : decode cL_arrival 10 = .ok (.goto 7, 3) := by decide +kernel
theorem dL_arrival_13 : decode cL_arrival 13 = .ok (.astore 4, 2) := by decide +kernel
theorem dL_arrival_15 : decode cL_arrival 15 = .ok (.iconst 1, 1) := by decide +kernel
theorem dL_arrival_16 : decode cL_arrival 16 = .ok (.ireturn, 1) := by decide +kernel
theorem dL_arrival_17 : decode cL_arrival 17 = .ok (.iconst 0, 1) := by decide +kernel
theorem dL_arrival_18 : decode cL_arrival 18 = .ok (.ireturn, 1) := by decide +kernel
theorem dL_routeLength_0 : decode cL_routeLength 0 = .ok (.aload_n 2, 1) := by decide +kernel
theorem dL_routeLength_1 : decode cL_routeLength 1 = .ok (.iconst 0, 1) := by decide +kernel
theorem dL_routeLength_2 : decode cL_routeLength 2 = .ok (.aload_n 0, 1) := by decide +kernel
theorem dL_routeLength_3 : decode cL_routeLength 3 = .ok (.iload_n 1, 1) := by decide +kernel
theorem dL_routeLength_4 : decode cL_routeLength 4 = .ok (.invokevirtual 54, 3) := by decide +kernel
theorem dL_routeLength_7 : decode cL_routeLength 7 = .ok (.i2l, 1) := by decide +kernel
theorem dL_routeLength_8 : decode cL_routeLength 8 = .ok (.lastore, 1) := by decide +kernel
theorem dL_routeLength_9 : decode cL_routeLength 9 = .ok (.goto 6, 3) := by decide +kernel
theorem dL_routeLength_12 : decode cL_routeLength 12 = .ok (.astore_n 3, 1) := by decide +kernel
theorem dL_routeLength_13 : decode cL_routeLength 13 = .ok (.iconst 1, 1) := by decide +kernel
theorem dL_routeLength_14 : decode cL_routeLength 14 = .ok (.ireturn, 1) := by decide +kernel
theorem dL_routeLength_15 : decode cL_routeLength 15 = .ok (.iconst 0, 1) := by decide +kernel
theorem dL_routeLength_16 : decode cL_routeLength 16 = .ok (.ireturn, 1) := by decide +kernel
theorem dL_detour_0 : decode cL_detour 0 = .ok (.aload_n 2, 1) := by decide +kernel
theorem dL_detour_1 : decode cL_detour 1 = .ok (.iconst 0, 1) := by decide +kernel
theorem dL_detour_2 : decode cL_detour 2 = .ok (.aload_n 0, 1) := by decide +kernel
theorem dL_detour_3 : decode cL_detour 3 = .ok (.iload_n 1, 1) := by decide +kernel
theorem dL_detour_4 : decode cL_detour 4 = .ok (.invokevirtual 57, 3) := by decide +kernel
theorem dL_detour_7 : decode cL_detour 7 = .ok (.i2l, 1) := by decide +kernel
theorem dL_detour_8 : decode cL_detour 8 = .ok (.lastore, 1) := by decide +kernel
theorem dL_detour_9 : decode cL_detour 9 = .ok (.goto 6, 3) := by decide +kernel
theorem dL_detour_12 : decode cL_detour 12 = .ok (.astore_n 3, 1) := by decide +kernel
theorem dL_detour_13 : decode cL_detour 13 = .ok (.iconst 1, 1) := by decide +kernel
theorem dL_detour_14 : decode cL_detour 14 = .ok (.ireturn, 1) := by decide +kernel
theorem dL_detour_15 : decode cL_detour 15 = .ok (.iconst 0, 1) := by decide +kernel
theorem dL_detour_16 : decode cL_detour 16 = .ok (.ireturn, 1) := by decide +kernel
theorem dL_extra_0 : decode cL_extra 0 = .ok (.aload_n 3, 1) := by decide +kernel
theorem dL_extra_1 : decode cL_extra 1 = .ok (.iconst 0, 1) := by decide +kernel
theorem dL_extra_2 : decode cL_extra 2 = .ok (.aload_n 0, 1) := by decide +kernel
theorem dL_extra_3 : decode cL_extra 3 = .ok (.iload_n 1, 1) := by decide +kernel
theorem dL_extra_4 : decode cL_extra 4 = .ok (.iload_n 2, 1) := by decide +kernel
theorem dL_extra_5 : decode cL_extra 5 = .ok (.invokevirtual 60, 3) := by decide +kernel
theorem dL_extra_8 : decode cL_extra 8 = .ok (.i2l, 1) := by decide +kernel
theorem dL_extra_9 : decode cL_extra 9 = .ok (.lastore, 1) := by decide +kernel
theorem dL_extra_10 : decode cL_extra 10 = .ok (.goto 7, 3) := by decide +kernel
theorem dL_extra_13 : decode cL_extra 13 = .ok (.astore 4, 2) := by decide +kernel
theorem dL_extra_15 : decode cL_extra 15 = .ok (.iconst 1, 1) := by decide +kernel
theorem dL_extra_16 : decode cL_extra 16 = .ok (.ireturn, 1) := by decide +kernel
theorem dL_extra_17 : decode cL_extra 17 = .ok (.iconst 0, 1) := by decide +kernel
theorem dL_extra_18 : decode cL_extra 18 = .ok (.ireturn, 1) := by decide +kernel
theorem dL_soloExtra_0 : decode cL_soloExtra 0 = .ok (.aload_n 3, 1) := by decide +kernel
theorem dL_soloExtra_1 : decode cL_soloExtra 1 = .ok (.iconst 0, 1) := by decide +kernel
theorem dL_soloExtra_2 : decode cL_soloExtra 2 = .ok (.aload_n 0, 1) := by decide +kernel
theorem dL_soloExtra_3 : decode cL_soloExtra 3 = .ok (.iload_n 1, 1) := by decide +kernel
theorem dL_soloExtra_4 : decode cL_soloExtra 4 = .ok (.iload_n 2, 1) := by decide +kernel
theorem dL_soloExtra_5 : decode cL_soloExtra 5 = .ok (.invokevirtual 63, 3) := by decide +kernel
theorem dL_soloExtra_8 : decode cL_soloExtra 8 = .ok (.i2l, 1) := by decide +kernel
theorem dL_soloExtra_9 : decode cL_soloExtra 9 = .ok (.lastore, 1) := by decide +kernel
theorem dL_soloExtra_10 : decode cL_soloExtra 10 = .ok (.goto 7, 3) := by decide +kernel
theorem dL_soloExtra_13 : decode cL_soloExtra 13 = .ok (.astore 4, 2) := by decide +kernel
theorem dL_soloExtra_15 : decode cL_soloExtra 15 = .ok (.iconst 1, 1) := by decide +kernel
theorem dL_soloExtra_16 : decode cL_soloExtra 16 = .ok (.ireturn, 1) := by decide +kernel
theorem dL_soloExtra_17 : decode cL_soloExtra 17 = .ok (.iconst 0, 1) := by decide +kernel
theorem dL_soloExtra_18 : decode cL_soloExtra 18 = .ok (.ireturn, 1) := by decide +kernel
theorem dL_bestDriver_0 : decode cL_bestDriver 0 = .ok (.aload_n 2, 1) := by decide +kernel
theorem dL_bestDriver_1 : decode cL_bestDriver 1 = .ok (.iconst 0, 1) := by decide +kernel
theorem dL_bestDriver_2 : decode cL_bestDriver 2 = .ok (.aload_n 0, 1) := by decide +kernel
theorem dL_bestDriver_3 : decode cL_bestDriver 3 = .ok (.iload_n 1, 1) := by decide +kernel
theorem dL_bestDriver_4 : decode cL_bestDriver 4 = .ok (.invokevirtual 66, 3) := by decide +kernel
theorem dL_bestDriver_7 : decode cL_bestDriver 7 = .ok (.i2l, 1) := by decide +kernel
theorem dL_bestDriver_8 : decode cL_bestDriver 8 = .ok (.lastore, 1) := by decide +kernel
theorem dL_bestDriver_9 : decode cL_bestDriver 9 = .ok (.goto 6, 3) := by decide +kernel
theorem dL_bestDriver_12 : decode cL_bestDriver 12 = .ok (.astore_n 3, 1) := by decide +kernel
theorem dL_bestDriver_13 : decode cL_bestDriver 13 = .ok (.iconst 1, 1) := by decide +kernel
theorem dL_bestDriver_14 : decode cL_bestDriver 14 = .ok (.ireturn, 1) := by decide +kernel
theorem dL_bestDriver_15 : decode cL_bestDriver 15 = .ok (.iconst 0, 1) := by decide +kernel
theorem dL_bestDriver_16 : decode cL_bestDriver 16 = .ok (.ireturn, 1) := by decide +kernel
theorem dL_assign_0 : decode cL_assign 0 = .ok (.aload_n 3, 1) := by decide +kernel
theorem dL_assign_1 : decode cL_assign 1 = .ok (.iconst 0, 1) := by decide +kernel
theorem dL_assign_2 : decode cL_assign 2 = .ok (.aload_n 0, 1) := by decide +kernel
theorem dL_assign_3 : decode cL_assign 3 = .ok (.iload_n 1, 1) := by decide +kernel
theorem dL_assign_4 : decode cL_assign 4 = .ok (.iload_n 2, 1) := by decide +kernel
theorem dL_assign_5 : decode cL_assign 5 = .ok (.invokevirtual 69, 3) := by decide +kernel
theorem dL_assign_8 : decode cL_assign 8 = .ok (.i2l, 1) := by decide +kernel
theorem dL_assign_9 : decode cL_assign 9 = .ok (.lastore, 1) := by decide +kernel
theorem dL_assign_10 : decode cL_assign 10 = .ok (.goto 11, 3) := by decide +kernel
theorem dL_assign_13 : decode cL_assign 13 = .ok (.astore 4, 2) := by decide +kernel
theorem dL_assign_15 : decode cL_assign 15 = .ok (.iconst 1, 1) := by decide +kernel
theorem dL_assign_16 : decode cL_assign 16 = .ok (.ireturn, 1) := by decide +kernel
theorem dL_assign_17 : decode cL_assign 17 = .ok (.astore 4, 2) := by decide +kernel
theorem dL_assign_19 : decode cL_assign 19 = .ok (.iconst 2, 1) := by decide +kernel
theorem dL_assign_20 : decode cL_assign 20 = .ok (.ireturn, 1) := by decide +kernel
theorem dL_assign_21 : decode cL_assign 21 = .ok (.iconst 0, 1) := by decide +kernel
theorem dL_assign_22 : decode cL_assign 22 = .ok (.ireturn, 1) := by decide +kernel
theorem dL_unassign_0 : decode cL_unassign 0 = .ok (.aload_n 2, 1) := by decide +kernel
theorem dL_unassign_1 : decode cL_unassign 1 = .ok (.iconst 0, 1) := by decide +kernel
theorem dL_unassign_2 : decode cL_unassign 2 = .ok (.aload_n 0, 1) := by decide +kernel
theorem dL_unassign_3 : decode cL_unassign 3 = .ok (.iload_n 1, 1) := by decide +kernel
theorem dL_unassign_4 : decode cL_unassign 4 = .ok (.invokevirtual 72, 3) := by decide +kernel
theorem dL_unassign_7 : decode cL_unassign 7 = .ok (.i2l, 1) := by decide +kernel
theorem dL_unassign_8 : decode cL_unassign 8 = .ok (.lastore, 1) := by decide +kernel
theorem dL_unassign_9 : decode cL_unassign 9 = .ok (.goto 9, 3) := by decide +kernel
theorem dL_unassign_12 : decode cL_unassign 12 = .ok (.astore_n 3, 1) := by decide +kernel
theorem dL_unassign_13 : decode cL_unassign 13 = .ok (.iconst 1, 1) := by decide +kernel
theorem dL_unassign_14 : decode cL_unassign 14 = .ok (.ireturn, 1) := by decide +kernel
theorem dL_unassign_15 : decode cL_unassign 15 = .ok (.astore_n 3, 1) := by decide +kernel
theorem dL_unassign_16 : decode cL_unassign 16 = .ok (.iconst 2, 1) := by decide +kernel
theorem dL_unassign_17 : decode cL_unassign 17 = .ok (.ireturn, 1) := by decide +kernel
theorem dL_unassign_18 : decode cL_unassign 18 = .ok (.iconst 0, 1) := by decide +kernel
theorem dL_unassign_19 : decode cL_unassign 19 = .ok (.ireturn, 1) := by decide +kernel
theorem dL_riderChoice_0 : decode cL_riderChoice 0 = .ok (.aload_n 3, 1) := by decide +kernel
theorem dL_riderChoice_1 : decode cL_riderChoice 1 = .ok (.iconst 0, 1) := by decide +kernel
theorem dL_riderChoice_2 : decode cL_riderChoice 2 = .ok (.aload_n 0, 1) := by decide +kernel
theorem dL_riderChoice_3 : decode cL_riderChoice 3 = .ok (.iload_n 1, 1) := by decide +kernel
theorem dL_riderChoice_4 : decode cL_riderChoice 4 = .ok (.iload_n 2, 1) := by decide +kernel
theorem dL_riderChoice_5 : decode cL_riderChoice 5 = .ok (.invokevirtual 75, 3) := by decide +kernel
theorem dL_riderChoice_8 : decode cL_riderChoice 8 = .ok (.i2l, 1) := by decide +kernel
theorem dL_riderChoice_9 : decode cL_riderChoice 9 = .ok (.lastore, 1) := by decide +kernel
theorem dL_riderChoice_10 : decode cL_riderChoice 10 = .ok (.goto 7, 3) := by decide +kernel
theorem dL_riderChoice_13 : decode cL_riderChoice 13 = .ok (.astore 4, 2) := by decide +kernel
theorem dL_riderChoice_15 : decode cL_riderChoice 15 = .ok (.iconst 1, 1) := by decide +kernel
theorem dL_riderChoice_16 : decode cL_riderChoice 16 = .ok (.ireturn, 1) := by decide +kernel
theorem dL_riderChoice_17 : decode cL_riderChoice 17 = .ok (.iconst 0, 1) := by decide +kernel
theorem dL_riderChoice_18 : decode cL_riderChoice 18 = .ok (.ireturn, 1) := by decide +kernel
theorem dL_driverChoice_0 : decode cL_driverChoice 0 = .ok (.aload_n 3, 1) := by decide +kernel
theorem dL_driverChoice_1 : decode cL_driverChoice 1 = .ok (.iconst 0, 1) := by decide +kernel
theorem dL_driverChoice_2 : decode cL_driverChoice 2 = .ok (.aload_n 0, 1) := by decide +kernel
theorem dL_driverChoice_3 : decode cL_driverChoice 3 = .ok (.iload_n 1, 1) := by decide +kernel
theorem dL_driverChoice_4 : decode cL_driverChoice 4 = .ok (.iload_n 2, 1) := by decide +kernel
theorem dL_driverChoice_5 : decode cL_driverChoice 5 = .ok (.invokevirtual 78, 3) := by decide +kernel
theorem dL_driverChoice_8 : decode cL_driverChoice 8 = .ok (.i2l, 1) := by decide +kernel
theorem dL_driverChoice_9 : decode cL_driverChoice 9 = .ok (.lastore, 1) := by decide +kernel
theorem dL_driverChoice_10 : decode cL_driverChoice 10 = .ok (.goto 7, 3) := by decide +kernel
theorem dL_driverChoice_13 : decode cL_driverChoice 13 = .ok (.astore 4, 2) := by decide +kernel
theorem dL_driverChoice_15 : decode cL_driverChoice 15 = .ok (.iconst 1, 1) := by decide +kernel
theorem dL_driverChoice_16 : decode cL_driverChoice 16 = .ok (.ireturn, 1) := by decide +kernel
theorem dL_driverChoice_17 : decode cL_driverChoice 17 = .ok (.iconst 0, 1) := by decide +kernel
theorem dL_driverChoice_18 : decode cL_driverChoice 18 = .ok (.ireturn, 1) := by decide +kernel
theorem dL_noShow_0 : decode cL_noShow 0 = .ok (.aload_n 2, 1) := by decide +kernel
theorem dL_noShow_1 : decode cL_noShow 1 = .ok (.iconst 0, 1) := by decide +kernel
theorem dL_noShow_2 : decode cL_noShow 2 = .ok (.aload_n 0, 1) := by decide +kernel
theorem dL_noShow_3 : decode cL_noShow 3 = .ok (.iload_n 1, 1) := by decide +kernel
theorem dL_noShow_4 : decode cL_noShow 4 = .ok (.invokevirtual 81, 3) := by decide +kernel
theorem dL_noShow_7 : decode cL_noShow 7 = .ok (.i2l, 1) := by decide +kernel
theorem dL_noShow_8 : decode cL_noShow 8 = .ok (.lastore, 1) := by decide +kernel
theorem dL_noShow_9 : decode cL_noShow 9 = .ok (.goto 9, 3) := by decide +kernel
theorem dL_noShow_12 : decode cL_noShow 12 = .ok (.astore_n 3, 1) := by decide +kernel
theorem dL_noShow_13 : decode cL_noShow 13 = .ok (.iconst 1, 1) := by decide +kernel
theorem dL_noShow_14 : decode cL_noShow 14 = .ok (.ireturn, 1) := by decide +kernel
theorem dL_noShow_15 : decode cL_noShow 15 = .ok (.astore_n 3, 1) := by decide +kernel
theorem dL_noShow_16 : decode cL_noShow 16 = .ok (.iconst 2, 1) := by decide +kernel
theorem dL_noShow_17 : decode cL_noShow 17 = .ok (.ireturn, 1) := by decide +kernel
theorem dL_noShow_18 : decode cL_noShow 18 = .ok (.iconst 0, 1) := by decide +kernel
theorem dL_noShow_19 : decode cL_noShow 19 = .ok (.ireturn, 1) := by decide +kernel
theorem dL_comeBack_0 : decode cL_comeBack 0 = .ok (.aload_n 2, 1) := by decide +kernel
theorem dL_comeBack_1 : decode cL_comeBack 1 = .ok (.iconst 0, 1) := by decide +kernel
theorem dL_comeBack_2 : decode cL_comeBack 2 = .ok (.aload_n 0, 1) := by decide +kernel
theorem dL_comeBack_3 : decode cL_comeBack 3 = .ok (.iload_n 1, 1) := by decide +kernel
theorem dL_comeBack_4 : decode cL_comeBack 4 = .ok (.invokevirtual 84, 3) := by decide +kernel
theorem dL_comeBack_7 : decode cL_comeBack 7 = .ok (.lastore, 1) := by decide +kernel
theorem dL_comeBack_8 : decode cL_comeBack 8 = .ok (.goto 9, 3) := by decide +kernel
theorem dL_comeBack_11 : decode cL_comeBack 11 = .ok (.astore_n 3, 1) := by decide +kernel
theorem dL_comeBack_12 : decode cL_comeBack 12 = .ok (.iconst 1, 1) := by decide +kernel
theorem dL_comeBack_13 : decode cL_comeBack 13 = .ok (.ireturn, 1) := by decide +kernel
theorem dL_comeBack_14 : decode cL_comeBack 14 = .ok (.astore_n 3, 1) := by decide +kernel
theorem dL_comeBack_15 : decode cL_comeBack 15 = .ok (.iconst 2, 1) := by decide +kernel
theorem dL_comeBack_16 : decode cL_comeBack 16 = .ok (.ireturn, 1) := by decide +kernel
theorem dL_comeBack_17 : decode cL_comeBack 17 = .ok (.iconst 0, 1) := by decide +kernel
theorem dL_comeBack_18 : decode cL_comeBack 18 = .ok (.ireturn, 1) := by decide +kernel
theorem dL_replacement_0 : decode cL_replacement 0 = .ok (.aload_n 2, 1) := by decide +kernel
theorem dL_replacement_1 : decode cL_replacement 1 = .ok (.iconst 0, 1) := by decide +kernel
theorem dL_replacement_2 : decode cL_replacement 2 = .ok (.aload_n 0, 1) := by decide +kernel
theorem dL_replacement_3 : decode cL_replacement 3 = .ok (.iload_n 1, 1) := by decide +kernel
theorem dL_replacement_4 : decode cL_replacement 4 = .ok (.invokevirtual 88, 3) := by decide +kernel
theorem dL_replacement_7 : decode cL_replacement 7 = .ok (.i2l, 1) := by decide +kernel
theorem dL_replacement_8 : decode cL_replacement 8 = .ok (.lastore, 1) := by decide +kernel
theorem dL_replacement_9 : decode cL_replacement 9 = .ok (.goto 6, 3) := by decide +kernel
theorem dL_replacement_12 : decode cL_replacement 12 = .ok (.astore_n 3, 1) := by decide +kernel
theorem dL_replacement_13 : decode cL_replacement 13 = .ok (.iconst 1, 1) := by decide +kernel
theorem dL_replacement_14 : decode cL_replacement 14 = .ok (.ireturn, 1) := by decide +kernel
theorem dL_replacement_15 : decode cL_replacement 15 = .ok (.iconst 0, 1) := by decide +kernel
theorem dL_replacement_16 : decode cL_replacement 16 = .ok (.ireturn, 1) := by decide +kernel
theorem dL_fill_0 : decode cL_fill 0 = .ok (.aload_n 2, 1) := by decide +kernel
theorem dL_fill_1 : decode cL_fill 1 = .ok (.iconst 0, 1) := by decide +kernel
theorem dL_fill_2 : decode cL_fill 2 = .ok (.aload_n 0, 1) := by decide +kernel
theorem dL_fill_3 : decode cL_fill 3 = .ok (.iload_n 1, 1) := by decide +kernel
theorem dL_fill_4 : decode cL_fill 4 = .ok (.invokevirtual 91, 3) := by decide +kernel
theorem dL_fill_7 : decode cL_fill 7 = .ok (.i2l, 1) := by decide +kernel
theorem dL_fill_8 : decode cL_fill 8 = .ok (.lastore, 1) := by decide +kernel
theorem dL_fill_9 : decode cL_fill 9 = .ok (.goto 6, 3) := by decide +kernel
theorem dL_fill_12 : decode cL_fill 12 = .ok (.astore_n 3, 1) := by decide +kernel
theorem dL_fill_13 : decode cL_fill 13 = .ok (.iconst 1, 1) := by decide +kernel
theorem dL_fill_14 : decode cL_fill 14 = .ok (.ireturn, 1) := by decide +kernel
theorem dL_fill_15 : decode cL_fill 15 = .ok (.iconst 0, 1) := by decide +kernel
theorem dL_fill_16 : decode cL_fill 16 = .ok (.ireturn, 1) := by decide +kernel
theorem dL_tripCost_0 : decode cL_tripCost 0 = .ok (.aload_n 2, 1) := by decide +kernel
theorem dL_tripCost_1 : decode cL_tripCost 1 = .ok (.iconst 0, 1) := by decide +kernel
theorem dL_tripCost_2 : decode cL_tripCost 2 = .ok (.aload_n 0, 1) := by decide +kernel
theorem dL_tripCost_3 : decode cL_tripCost 3 = .ok (.iload_n 1, 1) := by decide +kernel
theorem dL_tripCost_4 : decode cL_tripCost 4 = .ok (.invokevirtual 94, 3) := by decide +kernel
theorem dL_tripCost_7 : decode cL_tripCost 7 = .ok (.i2l, 1) := by decide +kernel
theorem dL_tripCost_8 : decode cL_tripCost 8 = .ok (.lastore, 1) := by decide +kernel
theorem dL_tripCost_9 : decode cL_tripCost 9 = .ok (.goto 6, 3) := by decide +kernel
theorem dL_tripCost_12 : decode cL_tripCost 12 = .ok (.astore_n 3, 1) := by decide +kernel
theorem dL_tripCost_13 : decode cL_tripCost 13 = .ok (.iconst 1, 1) := by decide +kernel
theorem dL_tripCost_14 : decode cL_tripCost 14 = .ok (.ireturn, 1) := by decide +kernel
theorem dL_tripCost_15 : decode cL_tripCost 15 = .ok (.iconst 0, 1) := by decide +kernel
theorem dL_tripCost_16 : decode cL_tripCost 16 = .ok (.ireturn, 1) := by decide +kernel
theorem dL_marginal_0 : decode cL_marginal 0 = .ok (.aload_n 2, 1) := by decide +kernel
theorem dL_marginal_1 : decode cL_marginal 1 = .ok (.iconst 0, 1) := by decide +kernel
theorem dL_marginal_2 : decode cL_marginal 2 = .ok (.aload_n 0, 1) := by decide +kernel
theorem dL_marginal_3 : decode cL_marginal 3 = .ok (.iload_n 1, 1) := by decide +kernel
theorem dL_marginal_4 : decode cL_marginal 4 = .ok (.invokevirtual 97, 3) := by decide +kernel
theorem dL_marginal_7 : decode cL_marginal 7 = .ok (.i2l, 1) := by decide +kernel
theorem dL_marginal_8 : decode cL_marginal 8 = .ok (.lastore, 1) := by decide +kernel
theorem dL_marginal_9 : decode cL_marginal 9 = .ok (.goto 6, 3) := by decide +kernel
theorem dL_marginal_12 : decode cL_marginal 12 = .ok (.astore_n 3, 1) := by decide +kernel
theorem dL_marginal_13 : decode cL_marginal 13 = .ok (.iconst 1, 1) := by decide +kernel
theorem dL_marginal_14 : decode cL_marginal 14 = .ok (.ireturn, 1) := by decide +kernel
theorem dL_marginal_15 : decode cL_marginal 15 = .ok (.iconst 0, 1) := by decide +kernel
theorem dL_marginal_16 : decode cL_marginal 16 = .ok (.ireturn, 1) := by decide +kernel
theorem dL_share_0 : decode cL_share 0 = .ok (.aload_n 2, 1) := by decide +kernel
theorem dL_share_1 : decode cL_share 1 = .ok (.iconst 0, 1) := by decide +kernel
theorem dL_share_2 : decode cL_share 2 = .ok (.aload_n 0, 1) := by decide +kernel
theorem dL_share_3 : decode cL_share 3 = .ok (.iload_n 1, 1) := by decide +kernel
theorem dL_share_4 : decode cL_share 4 = .ok (.invokevirtual 100, 3) := by decide +kernel
theorem dL_share_7 : decode cL_share 7 = .ok (.i2l, 1) := by decide +kernel
theorem dL_share_8 : decode cL_share 8 = .ok (.lastore, 1) := by decide +kernel
theorem dL_share_9 : decode cL_share 9 = .ok (.goto 6, 3) := by decide +kernel
theorem dL_share_12 : decode cL_share 12 = .ok (.astore_n 3, 1) := by decide +kernel
theorem dL_share_13 : decode cL_share 13 = .ok (.iconst 1, 1) := by decide +kernel
theorem dL_share_14 : decode cL_share 14 = .ok (.ireturn, 1) := by decide +kernel
theorem dL_share_15 : decode cL_share 15 = .ok (.iconst 0, 1) := by decide +kernel
theorem dL_share_16 : decode cL_share 16 = .ok (.ireturn, 1) := by decide +kernel
theorem dL_driverShare_0 : decode cL_driverShare 0 = .ok (.aload_n 2, 1) := by decide +kernel
theorem dL_driverShare_1 : decode cL_driverShare 1 = .ok (.iconst 0, 1) := by decide +kernel
theorem dL_driverShare_2 : decode cL_driverShare 2 = .ok (.aload_n 0, 1) := by decide +kernel
theorem dL_driverShare_3 : decode cL_driverShare 3 = .ok (.iload_n 1, 1) := by decide +kernel
theorem dL_driverShare_4 : decode cL_driverShare 4 = .ok (.invokevirtual 103, 3) := by decide +kernel
theorem dL_driverShare_7 : decode cL_driverShare 7 = .ok (.i2l, 1) := by decide +kernel
theorem dL_driverShare_8 : decode cL_driverShare 8 = .ok (.lastore, 1) := by decide +kernel
theorem dL_driverShare_9 : decode cL_driverShare 9 = .ok (.goto 6, 3) := by decide +kernel
theorem dL_driverShare_12 : decode cL_driverShare 12 = .ok (.astore_n 3, 1) := by decide +kernel
theorem dL_driverShare_13 : decode cL_driverShare 13 = .ok (.iconst 1, 1) := by decide +kernel
theorem dL_driverShare_14 : decode cL_driverShare 14 = .ok (.ireturn, 1) := by decide +kernel
theorem dL_driverShare_15 : decode cL_driverShare 15 = .ok (.iconst 0, 1) := by decide +kernel
theorem dL_driverShare_16 : decode cL_driverShare 16 = .ok (.ireturn, 1) := by decide +kernel
theorem dL_complete_0 : decode cL_complete 0 = .ok (.aload_n 2, 1) := by decide +kernel
theorem dL_complete_1 : decode cL_complete 1 = .ok (.iconst 0, 1) := by decide +kernel
theorem dL_complete_2 : decode cL_complete 2 = .ok (.aload_n 0, 1) := by decide +kernel
theorem dL_complete_3 : decode cL_complete 3 = .ok (.iload_n 1, 1) := by decide +kernel
theorem dL_complete_4 : decode cL_complete 4 = .ok (.invokevirtual 106, 3) := by decide +kernel
theorem dL_complete_7 : decode cL_complete 7 = .ok (.i2l, 1) := by decide +kernel
theorem dL_complete_8 : decode cL_complete 8 = .ok (.lastore, 1) := by decide +kernel
theorem dL_complete_9 : decode cL_complete 9 = .ok (.goto 9, 3) := by decide +kernel
theorem dL_complete_12 : decode cL_complete 12 = .ok (.astore_n 3, 1) := by decide +kernel
theorem dL_complete_13 : decode cL_complete 13 = .ok (.iconst 1, 1) := by decide +kernel
theorem dL_complete_14 : decode cL_complete 14 = .ok (.ireturn, 1) := by decide +kernel
theorem dL_complete_15 : decode cL_complete 15 = .ok (.astore_n 3, 1) := by decide +kernel
theorem dL_complete_16 : decode cL_complete 16 = .ok (.iconst 2, 1) := by decide +kernel
theorem dL_complete_17 : decode cL_complete 17 = .ok (.ireturn, 1) := by decide +kernel
theorem dL_complete_18 : decode cL_complete 18 = .ok (.iconst 0, 1) := by decide +kernel
theorem dL_complete_19 : decode cL_complete 19 = .ok (.ireturn, 1) := by decide +kernel
theorem dL_riderCredit_0 : decode cL_riderCredit 0 = .ok (.aload_n 2, 1) := by decide +kernel
theorem dL_riderCredit_1 : decode cL_riderCredit 1 = .ok (.iconst 0, 1) := by decide +kernel
theorem dL_riderCredit_2 : decode cL_riderCredit 2 = .ok (.aload_n 0, 1) := by decide +kernel
theorem dL_riderCredit_3 : decode cL_riderCredit 3 = .ok (.iload_n 1, 1) := by decide +kernel
theorem dL_riderCredit_4 : decode cL_riderCredit 4 = .ok (.invokevirtual 109, 3) := by decide +kernel
theorem dL_riderCredit_7 : decode cL_riderCredit 7 = .ok (.lastore, 1) := by decide +kernel
theorem dL_riderCredit_8 : decode cL_riderCredit 8 = .ok (.goto 6, 3) := by decide +kernel
theorem dL_riderCredit_11 : decode cL_riderCredit 11 = .ok (.astore_n 3, 1) := by decide +kernel
theorem dL_riderCredit_12 : decode cL_riderCredit 12 = .ok (.iconst 1, 1) := by decide +kernel
theorem dL_riderCredit_13 : decode cL_riderCredit 13 = .ok (.ireturn, 1) := by decide +kernel
theorem dL_riderCredit_14 : decode cL_riderCredit 14 = .ok (.iconst 0, 1) := by decide +kernel
theorem dL_riderCredit_15 : decode cL_riderCredit 15 = .ok (.ireturn, 1) := by decide +kernel
theorem dL_driverCredit_0 : decode cL_driverCredit 0 = .ok (.aload_n 2, 1) := by decide +kernel
theorem dL_driverCredit_1 : decode cL_driverCredit 1 = .ok (.iconst 0, 1) := by decide +kernel
theorem dL_driverCredit_2 : decode cL_driverCredit 2 = .ok (.aload_n 0, 1) := by decide +kernel
theorem dL_driverCredit_3 : decode cL_driverCredit 3 = .ok (.iload_n 1, 1) := by decide +kernel
theorem dL_driverCredit_4 : decode cL_driverCredit 4 = .ok (.invokevirtual 112, 3) := by decide +kernel
theorem dL_driverCredit_7 : decode cL_driverCredit 7 = .ok (.lastore, 1) := by decide +kernel
theorem dL_driverCredit_8 : decode cL_driverCredit 8 = .ok (.goto 6, 3) := by decide +kernel
theorem dL_driverCredit_11 : decode cL_driverCredit 11 = .ok (.astore_n 3, 1) := by decide +kernel
theorem dL_driverCredit_12 : decode cL_driverCredit 12 = .ok (.iconst 1, 1) := by decide +kernel
theorem dL_driverCredit_13 : decode cL_driverCredit 13 = .ok (.ireturn, 1) := by decide +kernel
theorem dL_driverCredit_14 : decode cL_driverCredit 14 = .ok (.iconst 0, 1) := by decide +kernel
theorem dL_driverCredit_15 : decode cL_driverCredit 15 = .ok (.ireturn, 1) := by decide +kernel
theorem dL_pay_0 : decode cL_pay 0 = .ok (.aload_n 3, 1) := by decide +kernel
theorem dL_pay_1 : decode cL_pay 1 = .ok (.iconst 0, 1) := by decide +kernel
theorem dL_pay_2 : decode cL_pay 2 = .ok (.aload_n 0, 1) := by decide +kernel
theorem dL_pay_3 : decode cL_pay 3 = .ok (.iload_n 1, 1) := by decide +kernel
theorem dL_pay_4 : decode cL_pay 4 = .ok (.iload_n 2, 1) := by decide +kernel
theorem dL_pay_5 : decode cL_pay 5 = .ok (.invokevirtual 115, 3) := by decide +kernel
theorem dL_pay_8 : decode cL_pay 8 = .ok (.lastore, 1) := by decide +kernel
theorem dL_pay_9 : decode cL_pay 9 = .ok (.goto 11, 3) := by decide +kernel
theorem dL_pay_12 : decode cL_pay 12 = .ok (.astore 4, 2) := by decide +kernel
theorem dL_pay_14 : decode cL_pay 14 = .ok (.iconst 1, 1) := by decide +kernel
theorem dL_pay_15 : decode cL_pay 15 = .ok (.ireturn, 1) := by decide +kernel
theorem dL_pay_16 : decode cL_pay 16 = .ok (.astore 4, 2) := by decide +kernel
theorem dL_pay_18 : decode cL_pay 18 = .ok (.iconst 2, 1) := by decide +kernel
theorem dL_pay_19 : decode cL_pay 19 = .ok (.ireturn, 1) := by decide +kernel
theorem dL_pay_20 : decode cL_pay 20 = .ok (.iconst 0, 1) := by decide +kernel
theorem dL_pay_21 : decode cL_pay 21 = .ok (.ireturn, 1) := by decide +kernel
theorem dL_appendText_0 : decode cL_appendText 0 = .ok (.aload_n 2, 1) := by decide +kernel
theorem dL_appendText_1 : decode cL_appendText 1 = .ok (.iconst 0, 1) := by decide +kernel
theorem dL_appendText_2 : decode cL_appendText 2 = .ok (.aload_n 0, 1) := by decide +kernel
theorem dL_appendText_3 : decode cL_appendText 3 = .ok (.iload_n 1, 1) := by decide +kernel
theorem dL_appendText_4 : decode cL_appendText 4 = .ok (.invokevirtual 119, 3) := by decide +kernel
theorem dL_appendText_7 : decode cL_appendText 7 = .ok (.i2l, 1) := by decide +kernel
theorem dL_appendText_8 : decode cL_appendText 8 = .ok (.lastore, 1) := by decide +kernel
theorem dL_appendText_9 : decode cL_appendText 9 = .ok (.goto 6, 3) := by decide +kernel
theorem dL_appendText_12 : decode cL_appendText 12 = .ok (.astore_n 3, 1) := by decide +kernel
theorem dL_appendText_13 : decode cL_appendText 13 = .ok (.iconst 1, 1) := by decide +kernel
theorem dL_appendText_14 : decode cL_appendText 14 = .ok (.ireturn, 1) := by decide +kernel
theorem dL_appendText_15 : decode cL_appendText 15 = .ok (.iconst 0, 1) := by decide +kernel
theorem dL_appendText_16 : decode cL_appendText 16 = .ok (.ireturn, 1) := by decide +kernel
theorem dL_truncateText_0 : decode cL_truncateText 0 = .ok (.aload_n 2, 1) := by decide +kernel
theorem dL_truncateText_1 : decode cL_truncateText 1 = .ok (.iconst 0, 1) := by decide +kernel
theorem dL_truncateText_2 : decode cL_truncateText 2 = .ok (.aload_n 0, 1) := by decide +kernel
theorem dL_truncateText_3 : decode cL_truncateText 3 = .ok (.iload_n 1, 1) := by decide +kernel
theorem dL_truncateText_4 : decode cL_truncateText 4 = .ok (.invokevirtual 122, 3) := by decide +kernel
theorem dL_truncateText_7 : decode cL_truncateText 7 = .ok (.i2l, 1) := by decide +kernel
theorem dL_truncateText_8 : decode cL_truncateText 8 = .ok (.lastore, 1) := by decide +kernel
theorem dL_truncateText_9 : decode cL_truncateText 9 = .ok (.goto 6, 3) := by decide +kernel
theorem dL_truncateText_12 : decode cL_truncateText 12 = .ok (.astore_n 3, 1) := by decide +kernel
theorem dL_truncateText_13 : decode cL_truncateText 13 = .ok (.iconst 1, 1) := by decide +kernel
theorem dL_truncateText_14 : decode cL_truncateText 14 = .ok (.ireturn, 1) := by decide +kernel
theorem dL_truncateText_15 : decode cL_truncateText 15 = .ok (.iconst 0, 1) := by decide +kernel
theorem dL_truncateText_16 : decode cL_truncateText 16 = .ok (.ireturn, 1) := by decide +kernel
theorem dL_save_0 : decode cL_save 0 = .ok (.aload_n 0, 1) := by decide +kernel
theorem dL_save_1 : decode cL_save 1 = .ok (.iload_n 1, 1) := by decide +kernel
theorem dL_save_2 : decode cL_save 2 = .ok (.invokevirtual 125, 3) := by decide +kernel
theorem dL_save_5 : decode cL_save 5 = .ok (.goto 6, 3) := by decide +kernel
theorem dL_save_8 : decode cL_save 8 = .ok (.astore_n 2, 1) := by decide +kernel
theorem dL_save_9 : decode cL_save 9 = .ok (.iconst 1, 1) := by decide +kernel
theorem dL_save_10 : decode cL_save 10 = .ok (.ireturn, 1) := by decide +kernel
theorem dL_save_11 : decode cL_save 11 = .ok (.iconst 0, 1) := by decide +kernel
theorem dL_save_12 : decode cL_save 12 = .ok (.ireturn, 1) := by decide +kernel
theorem dL_restore_0 : decode cL_restore 0 = .ok (.aload_n 0, 1) := by decide +kernel
theorem dL_restore_1 : decode cL_restore 1 = .ok (.iload_n 1, 1) := by decide +kernel
theorem dL_restore_2 : decode cL_restore 2 = .ok (.invokevirtual 129, 3) := by decide +kernel
theorem dL_restore_5 : decode cL_restore 5 = .ok (.goto 9, 3) := by decide +kernel
theorem dL_restore_8 : decode cL_restore 8 = .ok (.astore_n 2, 1) := by decide +kernel
theorem dL_restore_9 : decode cL_restore 9 = .ok (.iconst 1, 1) := by decide +kernel
theorem dL_restore_10 : decode cL_restore 10 = .ok (.ireturn, 1) := by decide +kernel
theorem dL_restore_11 : decode cL_restore 11 = .ok (.astore_n 2, 1) := by decide +kernel
theorem dL_restore_12 : decode cL_restore 12 = .ok (.iconst 2, 1) := by decide +kernel
theorem dL_restore_13 : decode cL_restore 13 = .ok (.ireturn, 1) := by decide +kernel
theorem dL_restore_14 : decode cL_restore 14 = .ok (.iconst 0, 1) := by decide +kernel
theorem dL_restore_15 : decode cL_restore 15 = .ok (.ireturn, 1) := by decide +kernel
theorem dL_law_0 : decode cL_law 0 = .ok (.new 8, 3) := by decide +kernel
theorem dL_law_3 : decode cL_law 3 = .ok (.dup, 1) := by decide +kernel
theorem dL_law_4 : decode cL_law 4 = .ok (.invokespecial 132, 3) := by decide +kernel
theorem dL_law_7 : decode cL_law 7 = .ok (.astore_n 1, 1) := by decide +kernel
theorem dL_law_8 : decode cL_law 8 = .ok (.new 133, 3) := by decide +kernel
theorem dL_law_11 : decode cL_law 11 = .ok (.dup, 1) := by decide +kernel
theorem dL_law_12 : decode cL_law 12 = .ok (.invokespecial 135, 3) := by decide +kernel
theorem dL_law_15 : decode cL_law 15 = .ok (.astore_n 2, 1) := by decide +kernel
theorem dL_law_16 : decode cL_law 16 = .ok (.iconst 1, 1) := by decide +kernel
theorem dL_law_17 : decode cL_law 17 = .ok (.newarray .long, 2) := by decide +kernel
theorem dL_law_19 : decode cL_law 19 = .ok (.astore_n 3, 1) := by decide +kernel
theorem dL_law_20 : decode cL_law 20 = .ok (.iconst 0, 1) := by decide +kernel
theorem dL_law_21 : decode cL_law 21 = .ok (.istore 4, 2) := by decide +kernel
theorem dL_law_23 : decode cL_law 23 = .ok (.iload 4, 2) := by decide +kernel
theorem dL_law_25 : decode cL_law 25 = .ok (.aload_n 0, 1) := by decide +kernel
theorem dL_law_26 : decode cL_law 26 = .ok (.arraylength, 1) := by decide +kernel
theorem dL_law_27 : decode cL_law 27 = .ok (.bipush 7, 2) := by decide +kernel
theorem dL_law_29 : decode cL_law 29 = .ok (.isub, 1) := by decide +kernel
theorem dL_law_30 : decode cL_law 30 = .ok (.if_icmp .gt 2579, 3) := by decide +kernel
theorem dL_law_33 : decode cL_law 33 = .ok (.aload_n 0, 1) := by decide +kernel
theorem dL_law_34 : decode cL_law 34 = .ok (.iload 4, 2) := by decide +kernel
theorem dL_law_36 : decode cL_law 36 = .ok (.iaload, 1) := by decide +kernel
theorem dL_law_37 : decode cL_law 37 = .ok (.bipush 63, 2) := by decide +kernel
theorem dL_law_39 : decode cL_law 39 = .ok (.iand, 1) := by decide +kernel
theorem dL_law_40 : decode cL_law 40 = .ok (.tableswitch 2563 0 45 #[200, 292, 396, 514, 527, 540, 603, 659, 715, 771, 827, 883, 951, 1019, 1075, 1131, 1199, 1267, 1323, 1391, 1447, 1460, 1528, 1596, 1609, 1665, 1720, 1776, 1832, 1888, 1944, 2000, 2056, 2112, 2167, 2222, 2289, 2314, 2327, 2340, 2396, 2452, 2465, 2478, 2491, 2527], 200) := by decide +kernel
theorem dL_law_240 : decode cL_law 240 = .ok (.aload_n 1, 1) := by decide +kernel
theorem dL_law_241 : decode cL_law 241 = .ok (.aload_n 0, 1) := by decide +kernel
theorem dL_law_242 : decode cL_law 242 = .ok (.iload 4, 2) := by decide +kernel
theorem dL_law_244 : decode cL_law 244 = .ok (.iconst 1, 1) := by decide +kernel
theorem dL_law_245 : decode cL_law 245 = .ok (.iadd, 1) := by decide +kernel
theorem dL_law_246 : decode cL_law 246 = .ok (.iaload, 1) := by decide +kernel
theorem dL_law_247 : decode cL_law 247 = .ok (.aload_n 0, 1) := by decide +kernel
theorem dL_law_248 : decode cL_law 248 = .ok (.iload 4, 2) := by decide +kernel
theorem dL_law_250 : decode cL_law 250 = .ok (.iconst 2, 1) := by decide +kernel
theorem dL_law_251 : decode cL_law 251 = .ok (.iadd, 1) := by decide +kernel
theorem dL_law_252 : decode cL_law 252 = .ok (.iaload, 1) := by decide +kernel
theorem dL_law_253 : decode cL_law 253 = .ok (.aload_n 0, 1) := by decide +kernel
theorem dL_law_254 : decode cL_law 254 = .ok (.iload 4, 2) := by decide +kernel
theorem dL_law_256 : decode cL_law 256 = .ok (.iconst 3, 1) := by decide +kernel
theorem dL_law_257 : decode cL_law 257 = .ok (.iadd, 1) := by decide +kernel
theorem dL_law_258 : decode cL_law 258 = .ok (.iaload, 1) := by decide +kernel
theorem dL_law_259 : decode cL_law 259 = .ok (.aload_n 0, 1) := by decide +kernel
theorem dL_law_260 : decode cL_law 260 = .ok (.iload 4, 2) := by decide +kernel
theorem dL_law_262 : decode cL_law 262 = .ok (.iconst 4, 1) := by decide +kernel
theorem dL_law_263 : decode cL_law 263 = .ok (.iadd, 1) := by decide +kernel
theorem dL_law_264 : decode cL_law 264 = .ok (.iaload, 1) := by decide +kernel
theorem dL_law_265 : decode cL_law 265 = .ok (.aload_n 3, 1) := by decide +kernel
theorem dL_law_266 : decode cL_law 266 = .ok (.invokestatic 136, 3) := by decide +kernel
theorem dL_law_269 : decode cL_law 269 = .ok (.istore 5, 2) := by decide +kernel
theorem dL_law_271 : decode cL_law 271 = .ok (.aload_n 2, 1) := by decide +kernel
theorem dL_law_272 : decode cL_law 272 = .ok (.aload_n 0, 1) := by decide +kernel
theorem dL_law_273 : decode cL_law 273 = .ok (.iload 4, 2) := by decide +kernel
theorem dL_law_275 : decode cL_law 275 = .ok (.iconst 1, 1) := by decide +kernel
theorem dL_law_276 : decode cL_law 276 = .ok (.iadd, 1) := by decide +kernel
theorem dL_law_277 : decode cL_law 277 = .ok (.iaload, 1) := by decide +kernel
theorem dL_law_278 : decode cL_law 278 = .ok (.aload_n 0, 1) := by decide +kernel
theorem dL_law_279 : decode cL_law 279 = .ok (.iload 4, 2) := by decide +kernel
theorem dL_law_281 : decode cL_law 281 = .ok (.iconst 2, 1) := by decide +kernel
theorem dL_law_282 : decode cL_law 282 = .ok (.iadd, 1) := by decide +kernel
theorem dL_law_283 : decode cL_law 283 = .ok (.iaload, 1) := by decide +kernel
theorem dL_law_284 : decode cL_law 284 = .ok (.aload_n 0, 1) := by decide +kernel
theorem dL_law_285 : decode cL_law 285 = .ok (.iload 4, 2) := by decide +kernel
theorem dL_law_287 : decode cL_law 287 = .ok (.iconst 3, 1) := by decide +kernel
theorem dL_law_288 : decode cL_law 288 = .ok (.iadd, 1) := by decide +kernel
theorem dL_law_289 : decode cL_law 289 = .ok (.iaload, 1) := by decide +kernel
theorem dL_law_290 : decode cL_law 290 = .ok (.aload_n 0, 1) := by decide +kernel
theorem dL_law_291 : decode cL_law 291 = .ok (.iload 4, 2) := by decide +kernel
theorem dL_law_293 : decode cL_law 293 = .ok (.iconst 4, 1) := by decide +kernel
theorem dL_law_294 : decode cL_law 294 = .ok (.iadd, 1) := by decide +kernel
theorem dL_law_295 : decode cL_law 295 = .ok (.iaload, 1) := by decide +kernel
theorem dL_law_296 : decode cL_law 296 = .ok (.invokevirtual 141, 3) := by decide +kernel
theorem dL_law_299 : decode cL_law 299 = .ok (.istore 6, 2) := by decide +kernel
theorem dL_law_301 : decode cL_law 301 = .ok (.aload_n 2, 1) := by decide +kernel
theorem dL_law_302 : decode cL_law 302 = .ok (.invokevirtual 142, 3) := by decide +kernel
theorem dL_law_305 : decode cL_law 305 = .ok (.iload 5, 2) := by decide +kernel
theorem dL_law_307 : decode cL_law 307 = .ok (.if_icmp .eq 5, 3) := by decide +kernel
theorem dL_law_310 : decode cL_law 310 = .ok (.iconst 0, 1) := by decide +kernel
theorem dL_law_311 : decode cL_law 311 = .ok (.ireturn, 1) := by decide +kernel
theorem dL_law_312 : decode cL_law 312 = .ok (.iload 5, 2) := by decide +kernel
theorem dL_law_314 : decode cL_law 314 = .ok (.ifCond .ne 15, 3) := by decide +kernel
theorem dL_law_317 : decode cL_law 317 = .ok (.aload_n 3, 1) := by decide +kernel
theorem dL_law_318 : decode cL_law 318 = .ok (.iconst 0, 1) := by decide +kernel
theorem dL_law_319 : decode cL_law 319 = .ok (.laload, 1) := by decide +kernel
theorem dL_law_320 : decode cL_law 320 = .ok (.iload 6, 2) := by decide +kernel
theorem dL_law_322 : decode cL_law 322 = .ok (.i2l, 1) := by decide +kernel
theorem dL_law_323 : decode cL_law 323 = .ok (.lcmp, 1) := by decide +kernel
theorem dL_law_324 : decode cL_law 324 = .ok (.ifCond .eq 5, 3) := by decide +kernel
theorem dL_law_327 : decode cL_law 327 = .ok (.iconst 0, 1) := by decide +kernel
theorem dL_law_328 : decode cL_law 328 = .ok (.ireturn, 1) := by decide +kernel
theorem dL_law_329 : decode cL_law 329 = .ok (.goto 2274, 3) := by decide +kernel
theorem dL_law_332 : decode cL_law 332 = .ok (.aload_n 1, 1) := by decide +kernel
theorem dL_law_333 : decode cL_law 333 = .ok (.aload_n 0, 1) := by decide +kernel
theorem dL_law_334 : decode cL_law 334 = .ok (.iload 4, 2) := by decide +kernel
theorem dL_law_336 : decode cL_law 336 = .ok (.iconst 1, 1) := by decide +kernel
theorem dL_law_337 : decode cL_law 337 = .ok (.iadd, 1) := by decide +kernel
theorem dL_law_338 : decode cL_law 338 = .ok (.iaload, 1) := by decide +kernel
theorem dL_law_339 : decode cL_law 339 = .ok (.aload_n 0, 1) := by decide +kernel
theorem dL_law_340 : decode cL_law 340 = .ok (.iload 4, 2) := by decide +kernel
theorem dL_law_342 : decode cL_law 342 = .ok (.iconst 2, 1) := by decide +kernel
theorem dL_law_343 : decode cL_law 343 = .ok (.iadd, 1) := by decide +kernel
theorem dL_law_344 : decode cL_law 344 = .ok (.iaload, 1) := by decide +kernel
theorem dL_law_345 : decode cL_law 345 = .ok (.aload_n 0, 1) := by decide +kernel
theorem dL_law_346 : decode cL_law 346 = .ok (.iload 4, 2) := by decide +kernel
theorem dL_law_348 : decode cL_law 348 = .ok (.iconst 3, 1) := by decide +kernel
theorem dL_law_349 : decode cL_law 349 = .ok (.iadd, 1) := by decide +kernel
theorem dL_law_350 : decode cL_law 350 = .ok (.iaload, 1) := by decide +kernel
theorem dL_law_351 : decode cL_law 351 = .ok (.aload_n 0, 1) := by decide +kernel
theorem dL_law_352 : decode cL_law 352 = .ok (.iload 4, 2) := by decide +kernel
theorem dL_law_354 : decode cL_law 354 = .ok (.iconst 4, 1) := by decide +kernel
theorem dL_law_355 : decode cL_law 355 = .ok (.iadd, 1) := by decide +kernel
theorem dL_law_356 : decode cL_law 356 = .ok (.iaload, 1) := by decide +kernel
theorem dL_law_357 : decode cL_law 357 = .ok (.aload_n 0, 1) := by decide +kernel
theorem dL_law_358 : decode cL_law 358 = .ok (.iload 4, 2) := by decide +kernel
theorem dL_law_360 : decode cL_law 360 = .ok (.iconst 5, 1) := by decide +kernel
theorem dL_law_361 : decode cL_law 361 = .ok (.iadd, 1) := by decide +kernel
theorem dL_law_362 : decode cL_law 362 = .ok (.iaload, 1) := by decide +kernel
theorem dL_law_363 : decode cL_law 363 = .ok (.aload_n 3, 1) := by decide +kernel
theorem dL_law_364 : decode cL_law 364 = .ok (.invokestatic 146, 3) := by decide +kernel
theorem dL_law_367 : decode cL_law 367 = .ok (.istore 5, 2) := by decide +kernel
theorem dL_law_369 : decode cL_law 369 = .ok (.aload_n 2, 1) := by decide +kernel
theorem dL_law_370 : decode cL_law 370 = .ok (.aload_n 0, 1) := by decide +kernel
theorem dL_law_371 : decode cL_law 371 = .ok (.iload 4, 2) := by decide +kernel
theorem dL_law_373 : decode cL_law 373 = .ok (.iconst 1, 1) := by decide +kernel
theorem dL_law_374 : decode cL_law 374 = .ok (.iadd, 1) := by decide +kernel
theorem dL_law_375 : decode cL_law 375 = .ok (.iaload, 1) := by decide +kernel
theorem dL_law_376 : decode cL_law 376 = .ok (.aload_n 0, 1) := by decide +kernel
theorem dL_law_377 : decode cL_law 377 = .ok (.iload 4, 2) := by decide +kernel
theorem dL_law_379 : decode cL_law 379 = .ok (.iconst 2, 1) := by decide +kernel
theorem dL_law_380 : decode cL_law 380 = .ok (.iadd, 1) := by decide +kernel
theorem dL_law_381 : decode cL_law 381 = .ok (.iaload, 1) := by decide +kernel
theorem dL_law_382 : decode cL_law 382 = .ok (.aload_n 0, 1) := by decide +kernel
theorem dL_law_383 : decode cL_law 383 = .ok (.iload 4, 2) := by decide +kernel
theorem dL_law_385 : decode cL_law 385 = .ok (.iconst 3, 1) := by decide +kernel
theorem dL_law_386 : decode cL_law 386 = .ok (.iadd, 1) := by decide +kernel
theorem dL_law_387 : decode cL_law 387 = .ok (.iaload, 1) := by decide +kernel
theorem dL_law_388 : decode cL_law 388 = .ok (.aload_n 0, 1) := by decide +kernel
theorem dL_law_389 : decode cL_law 389 = .ok (.iload 4, 2) := by decide +kernel
theorem dL_law_391 : decode cL_law 391 = .ok (.iconst 4, 1) := by decide +kernel
theorem dL_law_392 : decode cL_law 392 = .ok (.iadd, 1) := by decide +kernel
theorem dL_law_393 : decode cL_law 393 = .ok (.iaload, 1) := by decide +kernel
theorem dL_law_394 : decode cL_law 394 = .ok (.aload_n 0, 1) := by decide +kernel
theorem dL_law_395 : decode cL_law 395 = .ok (.iload 4, 2) := by decide +kernel
theorem dL_law_397 : decode cL_law 397 = .ok (.iconst 5, 1) := by decide +kernel
theorem dL_law_398 : decode cL_law 398 = .ok (.iadd, 1) := by decide +kernel
theorem dL_law_399 : decode cL_law 399 = .ok (.iaload, 1) := by decide +kernel
theorem dL_law_400 : decode cL_law 400 = .ok (.invokevirtual 149, 3) := by decide +kernel
theorem dL_law_403 : decode cL_law 403 = .ok (.istore 6, 2) := by decide +kernel
theorem dL_law_405 : decode cL_law 405 = .ok (.aload_n 2, 1) := by decide +kernel
theorem dL_law_406 : decode cL_law 406 = .ok (.invokevirtual 142, 3) := by decide +kernel
theorem dL_law_409 : decode cL_law 409 = .ok (.iload 5, 2) := by decide +kernel
theorem dL_law_411 : decode cL_law 411 = .ok (.if_icmp .eq 5, 3) := by decide +kernel
theorem dL_law_414 : decode cL_law 414 = .ok (.iconst 0, 1) := by decide +kernel
theorem dL_law_415 : decode cL_law 415 = .ok (.ireturn, 1) := by decide +kernel
theorem dL_law_416 : decode cL_law 416 = .ok (.iload 5, 2) := by decide +kernel
theorem dL_law_418 : decode cL_law 418 = .ok (.ifCond .ne 15, 3) := by decide +kernel
theorem dL_law_421 : decode cL_law 421 = .ok (.aload_n 3, 1) := by decide +kernel
theorem dL_law_422 : decode cL_law 422 = .ok (.iconst 0, 1) := by decide +kernel
theorem dL_law_423 : decode cL_law 423 = .ok (.laload, 1) := by decide +kernel
theorem dL_law_424 : decode cL_law 424 = .ok (.iload 6, 2) := by decide +kernel
theorem dL_law_426 : decode cL_law 426 = .ok (.i2l, 1) := by decide +kernel
theorem dL_law_427 : decode cL_law 427 = .ok (.lcmp, 1) := by decide +kernel
theorem dL_law_428 : decode cL_law 428 = .ok (.ifCond .eq 5, 3) := by decide +kernel
theorem dL_law_431 : decode cL_law 431 = .ok (.iconst 0, 1) := by decide +kernel
theorem dL_law_432 : decode cL_law 432 = .ok (.ireturn, 1) := by decide +kernel
theorem dL_law_433 : decode cL_law 433 = .ok (.goto 2170, 3) := by decide +kernel
theorem dL_law_436 : decode cL_law 436 = .ok (.aload_n 1, 1) := by decide +kernel
theorem dL_law_437 : decode cL_law 437 = .ok (.aload_n 0, 1) := by decide +kernel
theorem dL_law_438 : decode cL_law 438 = .ok (.iload 4, 2) := by decide +kernel
theorem dL_law_440 : decode cL_law 440 = .ok (.iconst 1, 1) := by decide +kernel
theorem dL_law_441 : decode cL_law 441 = .ok (.iadd, 1) := by decide +kernel
theorem dL_law_442 : decode cL_law 442 = .ok (.iaload, 1) := by decide +kernel
theorem dL_law_443 : decode cL_law 443 = .ok (.aload_n 0, 1) := by decide +kernel
theorem dL_law_444 : decode cL_law 444 = .ok (.iload 4, 2) := by decide +kernel
theorem dL_law_446 : decode cL_law 446 = .ok (.iconst 2, 1) := by decide +kernel
theorem dL_law_447 : decode cL_law 447 = .ok (.iadd, 1) := by decide +kernel
theorem dL_law_448 : decode cL_law 448 = .ok (.iaload, 1) := by decide +kernel
theorem dL_law_449 : decode cL_law 449 = .ok (.aload_n 0, 1) := by decide +kernel
theorem dL_law_450 : decode cL_law 450 = .ok (.iload 4, 2) := by decide +kernel
theorem dL_law_452 : decode cL_law 452 = .ok (.iconst 3, 1) := by decide +kernel
theorem dL_law_453 : decode cL_law 453 = .ok (.iadd, 1) := by decide +kernel
theorem dL_law_454 : decode cL_law 454 = .ok (.iaload, 1) := by decide +kernel
theorem dL_law_455 : decode cL_law 455 = .ok (.aload_n 0, 1) := by decide +kernel
theorem dL_law_456 : decode cL_law 456 = .ok (.iload 4, 2) := by decide +kernel
theorem dL_law_458 : decode cL_law 458 = .ok (.iconst 4, 1) := by decide +kernel
theorem dL_law_459 : decode cL_law 459 = .ok (.iadd, 1) := by decide +kernel
theorem dL_law_460 : decode cL_law 460 = .ok (.iaload, 1) := by decide +kernel
theorem dL_law_461 : decode cL_law 461 = .ok (.aload_n 0, 1) := by decide +kernel
theorem dL_law_462 : decode cL_law 462 = .ok (.iload 4, 2) := by decide +kernel
theorem dL_law_464 : decode cL_law 464 = .ok (.iconst 5, 1) := by decide +kernel
theorem dL_law_465 : decode cL_law 465 = .ok (.iadd, 1) := by decide +kernel
theorem dL_law_466 : decode cL_law 466 = .ok (.iaload, 1) := by decide +kernel
theorem dL_law_467 : decode cL_law 467 = .ok (.aload_n 0, 1) := by decide +kernel
theorem dL_law_468 : decode cL_law 468 = .ok (.iload 4, 2) := by decide +kernel
theorem dL_law_470 : decode cL_law 470 = .ok (.bipush 6, 2) := by decide +kernel
theorem dL_law_472 : decode cL_law 472 = .ok (.iadd, 1) := by decide +kernel
theorem dL_law_473 : decode cL_law 473 = .ok (.iaload, 1) := by decide +kernel
theorem dL_law_474 : decode cL_law 474 = .ok (.aload_n 3, 1) := by decide +kernel
theorem dL_law_475 : decode cL_law 475 = .ok (.invokestatic 150, 3) := by decide +kernel
theorem dL_law_478 : decode cL_law 478 = .ok (.istore 5, 2) := by decide +kernel
theorem dL_law_480 : decode cL_law 480 = .ok (.aload_n 2, 1) := by decide +kernel
theorem dL_law_481 : decode cL_law 481 = .ok (.aload_n 0, 1) := by decide +kernel
theorem dL_law_482 : decode cL_law 482 = .ok (.iload 4, 2) := by decide +kernel
theorem dL_law_484 : decode cL_law 484 = .ok (.iconst 1, 1) := by decide +kernel
theorem dL_law_485 : decode cL_law 485 = .ok (.iadd, 1) := by decide +kernel
theorem dL_law_486 : decode cL_law 486 = .ok (.iaload, 1) := by decide +kernel
theorem dL_law_487 : decode cL_law 487 = .ok (.aload_n 0, 1) := by decide +kernel
theorem dL_law_488 : decode cL_law 488 = .ok (.iload 4, 2) := by decide +kernel
theorem dL_law_490 : decode cL_law 490 = .ok (.iconst 2, 1) := by decide +kernel
theorem dL_law_491 : decode cL_law 491 = .ok (.iadd, 1) := by decide +kernel
theorem dL_law_492 : decode cL_law 492 = .ok (.iaload, 1) := by decide +kernel
theorem dL_law_493 : decode cL_law 493 = .ok (.aload_n 0, 1) := by decide +kernel
theorem dL_law_494 : decode cL_law 494 = .ok (.iload 4, 2) := by decide +kernel
theorem dL_law_496 : decode cL_law 496 = .ok (.iconst 3, 1) := by decide +kernel
theorem dL_law_497 : decode cL_law 497 = .ok (.iadd, 1) := by decide +kernel
theorem dL_law_498 : decode cL_law 498 = .ok (.iaload, 1) := by decide +kernel
theorem dL_law_499 : decode cL_law 499 = .ok (.aload_n 0, 1) := by decide +kernel
theorem dL_law_500 : decode cL_law 500 = .ok (.iload 4, 2) := by decide +kernel
theorem dL_law_502 : decode cL_law 502 = .ok (.iconst 4, 1) := by decide +kernel
theorem dL_law_503 : decode cL_law 503 = .ok (.iadd, 1) := by decide +kernel
theorem dL_law_504 : decode cL_law 504 = .ok (.iaload, 1) := by decide +kernel
theorem dL_law_505 : decode cL_law 505 = .ok (.aload_n 0, 1) := by decide +kernel
theorem dL_law_506 : decode cL_law 506 = .ok (.iload 4, 2) := by decide +kernel
theorem dL_law_508 : decode cL_law 508 = .ok (.iconst 5, 1) := by decide +kernel
theorem dL_law_509 : decode cL_law 509 = .ok (.iadd, 1) := by decide +kernel
theorem dL_law_510 : decode cL_law 510 = .ok (.iaload, 1) := by decide +kernel
theorem dL_law_511 : decode cL_law 511 = .ok (.aload_n 0, 1) := by decide +kernel
theorem dL_law_512 : decode cL_law 512 = .ok (.iload 4, 2) := by decide +kernel
theorem dL_law_514 : decode cL_law 514 = .ok (.bipush 6, 2) := by decide +kernel
theorem dL_law_516 : decode cL_law 516 = .ok (.iadd, 1) := by decide +kernel
theorem dL_law_517 : decode cL_law 517 = .ok (.iaload, 1) := by decide +kernel
theorem dL_law_518 : decode cL_law 518 = .ok (.invokevirtual 153, 3) := by decide +kernel
theorem dL_law_521 : decode cL_law 521 = .ok (.istore 6, 2) := by decide +kernel
theorem dL_law_523 : decode cL_law 523 = .ok (.aload_n 2, 1) := by decide +kernel
theorem dL_law_524 : decode cL_law 524 = .ok (.invokevirtual 142, 3) := by decide +kernel
theorem dL_law_527 : decode cL_law 527 = .ok (.iload 5, 2) := by decide +kernel
theorem dL_law_529 : decode cL_law 529 = .ok (.if_icmp .eq 5, 3) := by decide +kernel
theorem dL_law_532 : decode cL_law 532 = .ok (.iconst 0, 1) := by decide +kernel
theorem dL_law_533 : decode cL_law 533 = .ok (.ireturn, 1) := by decide +kernel
theorem dL_law_534 : decode cL_law 534 = .ok (.iload 5, 2) := by decide +kernel
theorem dL_law_536 : decode cL_law 536 = .ok (.ifCond .ne 15, 3) := by decide +kernel
theorem dL_law_539 : decode cL_law 539 = .ok (.aload_n 3, 1) := by decide +kernel
theorem dL_law_540 : decode cL_law 540 = .ok (.iconst 0, 1) := by decide +kernel
theorem dL_law_541 : decode cL_law 541 = .ok (.laload, 1) := by decide +kernel
theorem dL_law_542 : decode cL_law 542 = .ok (.iload 6, 2) := by decide +kernel
theorem dL_law_544 : decode cL_law 544 = .ok (.i2l, 1) := by decide +kernel
theorem dL_law_545 : decode cL_law 545 = .ok (.lcmp, 1) := by decide +kernel
theorem dL_law_546 : decode cL_law 546 = .ok (.ifCond .eq 5, 3) := by decide +kernel
theorem dL_law_549 : decode cL_law 549 = .ok (.iconst 0, 1) := by decide +kernel
theorem dL_law_550 : decode cL_law 550 = .ok (.ireturn, 1) := by decide +kernel
theorem dL_law_551 : decode cL_law 551 = .ok (.goto 2052, 3) := by decide +kernel
theorem dL_law_554 : decode cL_law 554 = .ok (.aload_n 1, 1) := by decide +kernel
theorem dL_law_555 : decode cL_law 555 = .ok (.invokevirtual 154, 3) := by decide +kernel
theorem dL_law_558 : decode cL_law 558 = .ok (.aload_n 2, 1) := by decide +kernel
theorem dL_law_559 : decode cL_law 559 = .ok (.invokevirtual 157, 3) := by decide +kernel
theorem dL_law_562 : decode cL_law 562 = .ok (.if_icmp .eq 2041, 3) := by decide +kernel
theorem dL_law_565 : decode cL_law 565 = .ok (.iconst 0, 1) := by decide +kernel
theorem dL_law_566 : decode cL_law 566 = .ok (.ireturn, 1) := by decide +kernel
theorem dL_law_567 : decode cL_law 567 = .ok (.aload_n 1, 1) := by decide +kernel
theorem dL_law_568 : decode cL_law 568 = .ok (.invokevirtual 158, 3) := by decide +kernel
theorem dL_law_571 : decode cL_law 571 = .ok (.aload_n 2, 1) := by decide +kernel
theorem dL_law_572 : decode cL_law 572 = .ok (.invokevirtual 161, 3) := by decide +kernel
theorem dL_law_575 : decode cL_law 575 = .ok (.if_icmp .eq 2028, 3) := by decide +kernel
theorem dL_law_578 : decode cL_law 578 = .ok (.iconst 0, 1) := by decide +kernel
theorem dL_law_579 : decode cL_law 579 = .ok (.ireturn, 1) := by decide +kernel
theorem dL_law_580 : decode cL_law 580 = .ok (.aload_n 1, 1) := by decide +kernel
theorem dL_law_581 : decode cL_law 581 = .ok (.aload_n 0, 1) := by decide +kernel
theorem dL_law_582 : decode cL_law 582 = .ok (.iload 4, 2) := by decide +kernel
theorem dL_law_584 : decode cL_law 584 = .ok (.iconst 1, 1) := by decide +kernel
theorem dL_law_585 : decode cL_law 585 = .ok (.iadd, 1) := by decide +kernel
theorem dL_law_586 : decode cL_law 586 = .ok (.iaload, 1) := by decide +kernel
theorem dL_law_587 : decode cL_law 587 = .ok (.aload_n 3, 1) := by decide +kernel
theorem dL_law_588 : decode cL_law 588 = .ok (.invokestatic 162, 3) := by decide +kernel
theorem dL_law_591 : decode cL_law 591 = .ok (.istore 5, 2) := by decide +kernel
theorem dL_law_593 : decode cL_law 593 = .ok (.aload_n 2, 1) := by decide +kernel
theorem dL_law_594 : decode cL_law 594 = .ok (.aload_n 0, 1) := by decide +kernel
theorem dL_law_595 : decode cL_law 595 = .ok (.iload 4, 2) := by decide +kernel
theorem dL_law_597 : decode cL_law 597 = .ok (.iconst 1, 1) := by decide +kernel
theorem dL_law_598 : decode cL_law 598 = .ok (.iadd, 1) := by decide +kernel
theorem dL_law_599 : decode cL_law 599 = .ok (.iaload, 1) := by decide +kernel
theorem dL_law_600 : decode cL_law 600 = .ok (.invokevirtual 165, 3) := by decide +kernel
theorem dL_law_603 : decode cL_law 603 = .ok (.istore 6, 2) := by decide +kernel
theorem dL_law_605 : decode cL_law 605 = .ok (.aload_n 2, 1) := by decide +kernel
theorem dL_law_606 : decode cL_law 606 = .ok (.invokevirtual 142, 3) := by decide +kernel
theorem dL_law_609 : decode cL_law 609 = .ok (.iload 5, 2) := by decide +kernel
theorem dL_law_611 : decode cL_law 611 = .ok (.if_icmp .eq 5, 3) := by decide +kernel
theorem dL_law_614 : decode cL_law 614 = .ok (.iconst 0, 1) := by decide +kernel
theorem dL_law_615 : decode cL_law 615 = .ok (.ireturn, 1) := by decide +kernel
theorem dL_law_616 : decode cL_law 616 = .ok (.iload 5, 2) := by decide +kernel
theorem dL_law_618 : decode cL_law 618 = .ok (.ifCond .ne 22, 3) := by decide +kernel
theorem dL_law_621 : decode cL_law 621 = .ok (.aload_n 3, 1) := by decide +kernel
theorem dL_law_622 : decode cL_law 622 = .ok (.iconst 0, 1) := by decide +kernel
theorem dL_law_623 : decode cL_law 623 = .ok (.laload, 1) := by decide +kernel
theorem dL_law_624 : decode cL_law 624 = .ok (.iload 6, 2) := by decide +kernel
theorem dL_law_626 : decode cL_law 626 = .ok (.ifCond .eq 7, 3) := by decide +kernel
theorem dL_law_629 : decode cL_law 629 = .ok (.lconst 1, 1) := by decide +kernel
theorem dL_law_630 : decode cL_law 630 = .ok (.goto 4, 3) := by decide +kernel
theorem dL_law_633 : decode cL_law 633 = .ok (.lconst 0, 1) := by decide +kernel
theorem dL_law_634 : decode cL_law 634 = .ok (.lcmp, 1) := by decide +kernel
theorem dL_law_635 : decode cL_law 635 = .ok (.ifCond .eq 5, 3) := by decide +kernel
theorem dL_law_638 : decode cL_law 638 = .ok (.iconst 0, 1) := by decide +kernel
theorem dL_law_639 : decode cL_law 639 = .ok (.ireturn, 1) := by decide +kernel
theorem dL_law_640 : decode cL_law 640 = .ok (.goto 1963, 3) := by decide +kernel
theorem dL_law_643 : decode cL_law 643 = .ok (.aload_n 1, 1) := by decide +kernel
theorem dL_law_644 : decode cL_law 644 = .ok (.aload_n 0, 1) := by decide +kernel
theorem dL_law_645 : decode cL_law 645 = .ok (.iload 4, 2) := by decide +kernel
theorem dL_law_647 : decode cL_law 647 = .ok (.iconst 1, 1) := by decide +kernel
theorem dL_law_648 : decode cL_law 648 = .ok (.iadd, 1) := by decide +kernel
theorem dL_law_649 : decode cL_law 649 = .ok (.iaload, 1) := by decide +kernel
theorem dL_law_650 : decode cL_law 650 = .ok (.aload_n 3, 1) := by decide +kernel
theorem dL_law_651 : decode cL_law 651 = .ok (.invokestatic 166, 3) := by decide +kernel
theorem dL_law_654 : decode cL_law 654 = .ok (.istore 5, 2) := by decide +kernel
theorem dL_law_656 : decode cL_law 656 = .ok (.aload_n 2, 1) := by decide +kernel
theorem dL_law_657 : decode cL_law 657 = .ok (.aload_n 0, 1) := by decide +kernel
theorem dL_law_658 : decode cL_law 658 = .ok (.iload 4, 2) := by decide +kernel
theorem dL_law_660 : decode cL_law 660 = .ok (.iconst 1, 1) := by decide +kernel
theorem dL_law_661 : decode cL_law 661 = .ok (.iadd, 1) := by decide +kernel
theorem dL_law_662 : decode cL_law 662 = .ok (.iaload, 1) := by decide +kernel
theorem dL_law_663 : decode cL_law 663 = .ok (.invokevirtual 168, 3) := by decide +kernel
theorem dL_law_666 : decode cL_law 666 = .ok (.istore 6, 2) := by decide +kernel
theorem dL_law_668 : decode cL_law 668 = .ok (.aload_n 2, 1) := by decide +kernel
theorem dL_law_669 : decode cL_law 669 = .ok (.invokevirtual 142, 3) := by decide +kernel
theorem dL_law_672 : decode cL_law 672 = .ok (.iload 5, 2) := by decide +kernel
theorem dL_law_674 : decode cL_law 674 = .ok (.if_icmp .eq 5, 3) := by decide +kernel
theorem dL_law_677 : decode cL_law 677 = .ok (.iconst 0, 1) := by decide +kernel
theorem dL_law_678 : decode cL_law 678 = .ok (.ireturn, 1) := by decide +kernel
theorem dL_law_679 : decode cL_law 679 = .ok (.iload 5, 2) := by decide +kernel
theorem dL_law_681 : decode cL_law 681 = .ok (.ifCond .ne 15, 3) := by decide +kernel
theorem dL_law_684 : decode cL_law 684 = .ok (.aload_n 3, 1) := by decide +kernel
theorem dL_law_685 : decode cL_law 685 = .ok (.iconst 0, 1) := by decide +kernel
theorem dL_law_686 : decode cL_law 686 = .ok (.laload, 1) := by decide +kernel
theorem dL_law_687 : decode cL_law 687 = .ok (.iload 6, 2) := by decide +kernel
theorem dL_law_689 : decode cL_law 689 = .ok (.i2l, 1) := by decide +kernel
theorem dL_law_690 : decode cL_law 690 = .ok (.lcmp, 1) := by decide +kernel
theorem dL_law_691 : decode cL_law 691 = .ok (.ifCond .eq 5, 3) := by decide +kernel
theorem dL_law_694 : decode cL_law 694 = .ok (.iconst 0, 1) := by decide +kernel
theorem dL_law_695 : decode cL_law 695 = .ok (.ireturn, 1) := by decide +kernel
theorem dL_law_696 : decode cL_law 696 = .ok (.goto 1907, 3) := by decide +kernel
theorem dL_law_699 : decode cL_law 699 = .ok (.aload_n 1, 1) := by decide +kernel
theorem dL_law_700 : decode cL_law 700 = .ok (.aload_n 0, 1) := by decide +kernel
theorem dL_law_701 : decode cL_law 701 = .ok (.iload 4, 2) := by decide +kernel
theorem dL_law_703 : decode cL_law 703 = .ok (.iconst 1, 1) := by decide +kernel
theorem dL_law_704 : decode cL_law 704 = .ok (.iadd, 1) := by decide +kernel
theorem dL_law_705 : decode cL_law 705 = .ok (.iaload, 1) := by decide +kernel
theorem dL_law_706 : decode cL_law 706 = .ok (.aload_n 3, 1) := by decide +kernel
theorem dL_law_707 : decode cL_law 707 = .ok (.invokestatic 169, 3) := by decide +kernel
theorem dL_law_710 : decode cL_law 710 = .ok (.istore 5, 2) := by decide +kernel
theorem dL_law_712 : decode cL_law 712 = .ok (.aload_n 2, 1) := by decide +kernel
theorem dL_law_713 : decode cL_law 713 = .ok (.aload_n 0, 1) := by decide +kernel
theorem dL_law_714 : decode cL_law 714 = .ok (.iload 4, 2) := by decide +kernel
theorem dL_law_716 : decode cL_law 716 = .ok (.iconst 1, 1) := by decide +kernel
theorem dL_law_717 : decode cL_law 717 = .ok (.iadd, 1) := by decide +kernel
theorem dL_law_718 : decode cL_law 718 = .ok (.iaload, 1) := by decide +kernel
theorem dL_law_719 : decode cL_law 719 = .ok (.invokevirtual 171, 3) := by decide +kernel
theorem dL_law_722 : decode cL_law 722 = .ok (.istore 6, 2) := by decide +kernel
theorem dL_law_724 : decode cL_law 724 = .ok (.aload_n 2, 1) := by decide +kernel
theorem dL_law_725 : decode cL_law 725 = .ok (.invokevirtual 142, 3) := by decide +kernel
theorem dL_law_728 : decode cL_law 728 = .ok (.iload 5, 2) := by decide +kernel
theorem dL_law_730 : decode cL_law 730 = .ok (.if_icmp .eq 5, 3) := by decide +kernel
theorem dL_law_733 : decode cL_law 733 = .ok (.iconst 0, 1) := by decide +kernel
theorem dL_law_734 : decode cL_law 734 = .ok (.ireturn, 1) := by decide +kernel
theorem dL_law_735 : decode cL_law 735 = .ok (.iload 5, 2) := by decide +kernel
theorem dL_law_737 : decode cL_law 737 = .ok (.ifCond .ne 15, 3) := by decide +kernel
theorem dL_law_740 : decode cL_law 740 = .ok (.aload_n 3, 1) := by decide +kernel
theorem dL_law_741 : decode cL_law 741 = .ok (.iconst 0, 1) := by decide +kernel
theorem dL_law_742 : decode cL_law 742 = .ok (.laload, 1) := by decide +kernel
theorem dL_law_743 : decode cL_law 743 = .ok (.iload 6, 2) := by decide +kernel
theorem dL_law_745 : decode cL_law 745 = .ok (.i2l, 1) := by decide +kernel
theorem dL_law_746 : decode cL_law 746 = .ok (.lcmp, 1) := by decide +kernel
theorem dL_law_747 : decode cL_law 747 = .ok (.ifCond .eq 5, 3) := by decide +kernel
theorem dL_law_750 : decode cL_law 750 = .ok (.iconst 0, 1) := by decide +kernel
theorem dL_law_751 : decode cL_law 751 = .ok (.ireturn, 1) := by decide +kernel
theorem dL_law_752 : decode cL_law 752 = .ok (.goto 1851, 3) := by decide +kernel
theorem dL_law_755 : decode cL_law 755 = .ok (.aload_n 1, 1) := by decide +kernel
theorem dL_law_756 : decode cL_law 756 = .ok (.aload_n 0, 1) := by decide +kernel
theorem dL_law_757 : decode cL_law 757 = .ok (.iload 4, 2) := by decide +kernel
theorem dL_law_759 : decode cL_law 759 = .ok (.iconst 1, 1) := by decide +kernel
theorem dL_law_760 : decode cL_law 760 = .ok (.iadd, 1) := by decide +kernel
theorem dL_law_761 : decode cL_law 761 = .ok (.iaload, 1) := by decide +kernel
theorem dL_law_762 : decode cL_law 762 = .ok (.aload_n 3, 1) := by decide +kernel
theorem dL_law_763 : decode cL_law 763 = .ok (.invokestatic 172, 3) := by decide +kernel
theorem dL_law_766 : decode cL_law 766 = .ok (.istore 5, 2) := by decide +kernel
theorem dL_law_768 : decode cL_law 768 = .ok (.aload_n 2, 1) := by decide +kernel
theorem dL_law_769 : decode cL_law 769 = .ok (.aload_n 0, 1) := by decide +kernel
theorem dL_law_770 : decode cL_law 770 = .ok (.iload 4, 2) := by decide +kernel
theorem dL_law_772 : decode cL_law 772 = .ok (.iconst 1, 1) := by decide +kernel
theorem dL_law_773 : decode cL_law 773 = .ok (.iadd, 1) := by decide +kernel
theorem dL_law_774 : decode cL_law 774 = .ok (.iaload, 1) := by decide +kernel
theorem dL_law_775 : decode cL_law 775 = .ok (.invokevirtual 174, 3) := by decide +kernel
theorem dL_law_778 : decode cL_law 778 = .ok (.istore 6, 2) := by decide +kernel
theorem dL_law_780 : decode cL_law 780 = .ok (.aload_n 2, 1) := by decide +kernel
theorem dL_law_781 : decode cL_law 781 = .ok (.invokevirtual 142, 3) := by decide +kernel
theorem dL_law_784 : decode cL_law 784 = .ok (.iload 5, 2) := by decide +kernel
theorem dL_law_786 : decode cL_law 786 = .ok (.if_icmp .eq 5, 3) := by decide +kernel
theorem dL_law_789 : decode cL_law 789 = .ok (.iconst 0, 1) := by decide +kernel
theorem dL_law_790 : decode cL_law 790 = .ok (.ireturn, 1) := by decide +kernel
theorem dL_law_791 : decode cL_law 791 = .ok (.iload 5, 2) := by decide +kernel
theorem dL_law_793 : decode cL_law 793 = .ok (.ifCond .ne 15, 3) := by decide +kernel
theorem dL_law_796 : decode cL_law 796 = .ok (.aload_n 3, 1) := by decide +kernel
theorem dL_law_797 : decode cL_law 797 = .ok (.iconst 0, 1) := by decide +kernel
theorem dL_law_798 : decode cL_law 798 = .ok (.laload, 1) := by decide +kernel
theorem dL_law_799 : decode cL_law 799 = .ok (.iload 6, 2) := by decide +kernel
theorem dL_law_801 : decode cL_law 801 = .ok (.i2l, 1) := by decide +kernel
theorem dL_law_802 : decode cL_law 802 = .ok (.lcmp, 1) := by decide +kernel
theorem dL_law_803 : decode cL_law 803 = .ok (.ifCond .eq 5, 3) := by decide +kernel
theorem dL_law_806 : decode cL_law 806 = .ok (.iconst 0, 1) := by decide +kernel
theorem dL_law_807 : decode cL_law 807 = .ok (.ireturn, 1) := by decide +kernel
theorem dL_law_808 : decode cL_law 808 = .ok (.goto 1795, 3) := by decide +kernel
theorem dL_law_811 : decode cL_law 811 = .ok (.aload_n 1, 1) := by decide +kernel
theorem dL_law_812 : decode cL_law 812 = .ok (.aload_n 0, 1) := by decide +kernel
theorem dL_law_813 : decode cL_law 813 = .ok (.iload 4, 2) := by decide +kernel
theorem dL_law_815 : decode cL_law 815 = .ok (.iconst 1, 1) := by decide +kernel
theorem dL_law_816 : decode cL_law 816 = .ok (.iadd, 1) := by decide +kernel
theorem dL_law_817 : decode cL_law 817 = .ok (.iaload, 1) := by decide +kernel
theorem dL_law_818 : decode cL_law 818 = .ok (.aload_n 3, 1) := by decide +kernel
theorem dL_law_819 : decode cL_law 819 = .ok (.invokestatic 175, 3) := by decide +kernel
theorem dL_law_822 : decode cL_law 822 = .ok (.istore 5, 2) := by decide +kernel
theorem dL_law_824 : decode cL_law 824 = .ok (.aload_n 2, 1) := by decide +kernel
theorem dL_law_825 : decode cL_law 825 = .ok (.aload_n 0, 1) := by decide +kernel
theorem dL_law_826 : decode cL_law 826 = .ok (.iload 4, 2) := by decide +kernel
theorem dL_law_828 : decode cL_law 828 = .ok (.iconst 1, 1) := by decide +kernel
theorem dL_law_829 : decode cL_law 829 = .ok (.iadd, 1) := by decide +kernel
theorem dL_law_830 : decode cL_law 830 = .ok (.iaload, 1) := by decide +kernel
theorem dL_law_831 : decode cL_law 831 = .ok (.invokevirtual 177, 3) := by decide +kernel
theorem dL_law_834 : decode cL_law 834 = .ok (.istore 6, 2) := by decide +kernel
theorem dL_law_836 : decode cL_law 836 = .ok (.aload_n 2, 1) := by decide +kernel
theorem dL_law_837 : decode cL_law 837 = .ok (.invokevirtual 142, 3) := by decide +kernel
theorem dL_law_840 : decode cL_law 840 = .ok (.iload 5, 2) := by decide +kernel
theorem dL_law_842 : decode cL_law 842 = .ok (.if_icmp .eq 5, 3) := by decide +kernel
theorem dL_law_845 : decode cL_law 845 = .ok (.iconst 0, 1) := by decide +kernel
theorem dL_law_846 : decode cL_law 846 = .ok (.ireturn, 1) := by decide +kernel
theorem dL_law_847 : decode cL_law 847 = .ok (.iload 5, 2) := by decide +kernel
theorem dL_law_849 : decode cL_law 849 = .ok (.ifCond .ne 15, 3) := by decide +kernel
theorem dL_law_852 : decode cL_law 852 = .ok (.aload_n 3, 1) := by decide +kernel
theorem dL_law_853 : decode cL_law 853 = .ok (.iconst 0, 1) := by decide +kernel
theorem dL_law_854 : decode cL_law 854 = .ok (.laload, 1) := by decide +kernel
theorem dL_law_855 : decode cL_law 855 = .ok (.iload 6, 2) := by decide +kernel
theorem dL_law_857 : decode cL_law 857 = .ok (.i2l, 1) := by decide +kernel
theorem dL_law_858 : decode cL_law 858 = .ok (.lcmp, 1) := by decide +kernel
theorem dL_law_859 : decode cL_law 859 = .ok (.ifCond .eq 5, 3) := by decide +kernel
theorem dL_law_862 : decode cL_law 862 = .ok (.iconst 0, 1) := by decide +kernel
theorem dL_law_863 : decode cL_law 863 = .ok (.ireturn, 1) := by decide +kernel
theorem dL_law_864 : decode cL_law 864 = .ok (.goto 1739, 3) := by decide +kernel
theorem dL_law_867 : decode cL_law 867 = .ok (.aload_n 1, 1) := by decide +kernel
theorem dL_law_868 : decode cL_law 868 = .ok (.aload_n 0, 1) := by decide +kernel
theorem dL_law_869 : decode cL_law 869 = .ok (.iload 4, 2) := by decide +kernel
theorem dL_law_871 : decode cL_law 871 = .ok (.iconst 1, 1) := by decide +kernel
theorem dL_law_872 : decode cL_law 872 = .ok (.iadd, 1) := by decide +kernel
theorem dL_law_873 : decode cL_law 873 = .ok (.iaload, 1) := by decide +kernel
theorem dL_law_874 : decode cL_law 874 = .ok (.aload_n 3, 1) := by decide +kernel
theorem dL_law_875 : decode cL_law 875 = .ok (.invokestatic 178, 3) := by decide +kernel
theorem dL_law_878 : decode cL_law 878 = .ok (.istore 5, 2) := by decide +kernel
theorem dL_law_880 : decode cL_law 880 = .ok (.aload_n 2, 1) := by decide +kernel
theorem dL_law_881 : decode cL_law 881 = .ok (.aload_n 0, 1) := by decide +kernel
theorem dL_law_882 : decode cL_law 882 = .ok (.iload 4, 2) := by decide +kernel
theorem dL_law_884 : decode cL_law 884 = .ok (.iconst 1, 1) := by decide +kernel
theorem dL_law_885 : decode cL_law 885 = .ok (.iadd, 1) := by decide +kernel
theorem dL_law_886 : decode cL_law 886 = .ok (.iaload, 1) := by decide +kernel
theorem dL_law_887 : decode cL_law 887 = .ok (.invokevirtual 180, 3) := by decide +kernel
theorem dL_law_890 : decode cL_law 890 = .ok (.istore 6, 2) := by decide +kernel
theorem dL_law_892 : decode cL_law 892 = .ok (.aload_n 2, 1) := by decide +kernel
theorem dL_law_893 : decode cL_law 893 = .ok (.invokevirtual 142, 3) := by decide +kernel
theorem dL_law_896 : decode cL_law 896 = .ok (.iload 5, 2) := by decide +kernel
theorem dL_law_898 : decode cL_law 898 = .ok (.if_icmp .eq 5, 3) := by decide +kernel
theorem dL_law_901 : decode cL_law 901 = .ok (.iconst 0, 1) := by decide +kernel
theorem dL_law_902 : decode cL_law 902 = .ok (.ireturn, 1) := by decide +kernel
theorem dL_law_903 : decode cL_law 903 = .ok (.iload 5, 2) := by decide +kernel
theorem dL_law_905 : decode cL_law 905 = .ok (.ifCond .ne 15, 3) := by decide +kernel
theorem dL_law_908 : decode cL_law 908 = .ok (.aload_n 3, 1) := by decide +kernel
theorem dL_law_909 : decode cL_law 909 = .ok (.iconst 0, 1) := by decide +kernel
theorem dL_law_910 : decode cL_law 910 = .ok (.laload, 1) := by decide +kernel
theorem dL_law_911 : decode cL_law 911 = .ok (.iload 6, 2) := by decide +kernel
theorem dL_law_913 : decode cL_law 913 = .ok (.i2l, 1) := by decide +kernel
theorem dL_law_914 : decode cL_law 914 = .ok (.lcmp, 1) := by decide +kernel
theorem dL_law_915 : decode cL_law 915 = .ok (.ifCond .eq 5, 3) := by decide +kernel
theorem dL_law_918 : decode cL_law 918 = .ok (.iconst 0, 1) := by decide +kernel
theorem dL_law_919 : decode cL_law 919 = .ok (.ireturn, 1) := by decide +kernel
theorem dL_law_920 : decode cL_law 920 = .ok (.goto 1683, 3) := by decide +kernel
theorem dL_law_923 : decode cL_law 923 = .ok (.aload_n 1, 1) := by decide +kernel
theorem dL_law_924 : decode cL_law 924 = .ok (.aload_n 0, 1) := by decide +kernel
theorem dL_law_925 : decode cL_law 925 = .ok (.iload 4, 2) := by decide +kernel
theorem dL_law_927 : decode cL_law 927 = .ok (.iconst 1, 1) := by decide +kernel
theorem dL_law_928 : decode cL_law 928 = .ok (.iadd, 1) := by decide +kernel
theorem dL_law_929 : decode cL_law 929 = .ok (.iaload, 1) := by decide +kernel
theorem dL_law_930 : decode cL_law 930 = .ok (.aload_n 0, 1) := by decide +kernel
theorem dL_law_931 : decode cL_law 931 = .ok (.iload 4, 2) := by decide +kernel
theorem dL_law_933 : decode cL_law 933 = .ok (.iconst 2, 1) := by decide +kernel
theorem dL_law_934 : decode cL_law 934 = .ok (.iadd, 1) := by decide +kernel
theorem dL_law_935 : decode cL_law 935 = .ok (.iaload, 1) := by decide +kernel
theorem dL_law_936 : decode cL_law 936 = .ok (.aload_n 3, 1) := by decide +kernel
theorem dL_law_937 : decode cL_law 937 = .ok (.invokestatic 181, 3) := by decide +kernel
theorem dL_law_940 : decode cL_law 940 = .ok (.istore 5, 2) := by decide +kernel
theorem dL_law_942 : decode cL_law 942 = .ok (.aload_n 2, 1) := by decide +kernel
theorem dL_law_943 : decode cL_law 943 = .ok (.aload_n 0, 1) := by decide +kernel
theorem dL_law_944 : decode cL_law 944 = .ok (.iload 4, 2) := by decide +kernel
theorem dL_law_946 : decode cL_law 946 = .ok (.iconst 1, 1) := by decide +kernel
theorem dL_law_947 : decode cL_law 947 = .ok (.iadd, 1) := by decide +kernel
theorem dL_law_948 : decode cL_law 948 = .ok (.iaload, 1) := by decide +kernel
theorem dL_law_949 : decode cL_law 949 = .ok (.aload_n 0, 1) := by decide +kernel
theorem dL_law_950 : decode cL_law 950 = .ok (.iload 4, 2) := by decide +kernel
theorem dL_law_952 : decode cL_law 952 = .ok (.iconst 2, 1) := by decide +kernel
theorem dL_law_953 : decode cL_law 953 = .ok (.iadd, 1) := by decide +kernel
theorem dL_law_954 : decode cL_law 954 = .ok (.iaload, 1) := by decide +kernel
theorem dL_law_955 : decode cL_law 955 = .ok (.invokevirtual 184, 3) := by decide +kernel
theorem dL_law_958 : decode cL_law 958 = .ok (.istore 6, 2) := by decide +kernel
theorem dL_law_960 : decode cL_law 960 = .ok (.aload_n 2, 1) := by decide +kernel
theorem dL_law_961 : decode cL_law 961 = .ok (.invokevirtual 142, 3) := by decide +kernel
theorem dL_law_964 : decode cL_law 964 = .ok (.iload 5, 2) := by decide +kernel
theorem dL_law_966 : decode cL_law 966 = .ok (.if_icmp .eq 5, 3) := by decide +kernel
theorem dL_law_969 : decode cL_law 969 = .ok (.iconst 0, 1) := by decide +kernel
theorem dL_law_970 : decode cL_law 970 = .ok (.ireturn, 1) := by decide +kernel
theorem dL_law_971 : decode cL_law 971 = .ok (.iload 5, 2) := by decide +kernel
theorem dL_law_973 : decode cL_law 973 = .ok (.ifCond .ne 15, 3) := by decide +kernel
theorem dL_law_976 : decode cL_law 976 = .ok (.aload_n 3, 1) := by decide +kernel
theorem dL_law_977 : decode cL_law 977 = .ok (.iconst 0, 1) := by decide +kernel
theorem dL_law_978 : decode cL_law 978 = .ok (.laload, 1) := by decide +kernel
theorem dL_law_979 : decode cL_law 979 = .ok (.iload 6, 2) := by decide +kernel
theorem dL_law_981 : decode cL_law 981 = .ok (.i2l, 1) := by decide +kernel
theorem dL_law_982 : decode cL_law 982 = .ok (.lcmp, 1) := by decide +kernel
theorem dL_law_983 : decode cL_law 983 = .ok (.ifCond .eq 5, 3) := by decide +kernel
theorem dL_law_986 : decode cL_law 986 = .ok (.iconst 0, 1) := by decide +kernel
theorem dL_law_987 : decode cL_law 987 = .ok (.ireturn, 1) := by decide +kernel
theorem dL_law_988 : decode cL_law 988 = .ok (.goto 1615, 3) := by decide +kernel
theorem dL_law_991 : decode cL_law 991 = .ok (.aload_n 1, 1) := by decide +kernel
theorem dL_law_992 : decode cL_law 992 = .ok (.aload_n 0, 1) := by decide +kernel
theorem dL_law_993 : decode cL_law 993 = .ok (.iload 4, 2) := by decide +kernel
theorem dL_law_995 : decode cL_law 995 = .ok (.iconst 1, 1) := by decide +kernel
theorem dL_law_996 : decode cL_law 996 = .ok (.iadd, 1) := by decide +kernel
theorem dL_law_997 : decode cL_law 997 = .ok (.iaload, 1) := by decide +kernel
theorem dL_law_998 : decode cL_law 998 = .ok (.aload_n 0, 1) := by decide +kernel
theorem dL_law_999 : decode cL_law 999 = .ok (.iload 4, 2) := by decide +kernel
theorem dL_law_1001 : decode cL_law 1001 = .ok (.iconst 2, 1) := by decide +kernel
theorem dL_law_1002 : decode cL_law 1002 = .ok (.iadd, 1) := by decide +kernel
theorem dL_law_1003 : decode cL_law 1003 = .ok (.iaload, 1) := by decide +kernel
theorem dL_law_1004 : decode cL_law 1004 = .ok (.aload_n 3, 1) := by decide +kernel
theorem dL_law_1005 : decode cL_law 1005 = .ok (.invokestatic 185, 3) := by decide +kernel
theorem dL_law_1008 : decode cL_law 1008 = .ok (.istore 5, 2) := by decide +kernel
theorem dL_law_1010 : decode cL_law 1010 = .ok (.aload_n 2, 1) := by decide +kernel
theorem dL_law_1011 : decode cL_law 1011 = .ok (.aload_n 0, 1) := by decide +kernel
theorem dL_law_1012 : decode cL_law 1012 = .ok (.iload 4, 2) := by decide +kernel
theorem dL_law_1014 : decode cL_law 1014 = .ok (.iconst 1, 1) := by decide +kernel
theorem dL_law_1015 : decode cL_law 1015 = .ok (.iadd, 1) := by decide +kernel
theorem dL_law_1016 : decode cL_law 1016 = .ok (.iaload, 1) := by decide +kernel
theorem dL_law_1017 : decode cL_law 1017 = .ok (.aload_n 0, 1) := by decide +kernel
theorem dL_law_1018 : decode cL_law 1018 = .ok (.iload 4, 2) := by decide +kernel
theorem dL_law_1020 : decode cL_law 1020 = .ok (.iconst 2, 1) := by decide +kernel
theorem dL_law_1021 : decode cL_law 1021 = .ok (.iadd, 1) := by decide +kernel
theorem dL_law_1022 : decode cL_law 1022 = .ok (.iaload, 1) := by decide +kernel
theorem dL_law_1023 : decode cL_law 1023 = .ok (.invokevirtual 187, 3) := by decide +kernel
theorem dL_law_1026 : decode cL_law 1026 = .ok (.istore 6, 2) := by decide +kernel
theorem dL_law_1028 : decode cL_law 1028 = .ok (.aload_n 2, 1) := by decide +kernel
theorem dL_law_1029 : decode cL_law 1029 = .ok (.invokevirtual 142, 3) := by decide +kernel
theorem dL_law_1032 : decode cL_law 1032 = .ok (.iload 5, 2) := by decide +kernel
theorem dL_law_1034 : decode cL_law 1034 = .ok (.if_icmp .eq 5, 3) := by decide +kernel
theorem dL_law_1037 : decode cL_law 1037 = .ok (.iconst 0, 1) := by decide +kernel
theorem dL_law_1038 : decode cL_law 1038 = .ok (.ireturn, 1) := by decide +kernel
theorem dL_law_1039 : decode cL_law 1039 = .ok (.iload 5, 2) := by decide +kernel
theorem dL_law_1041 : decode cL_law 1041 = .ok (.ifCond .ne 15, 3) := by decide +kernel
theorem dL_law_1044 : decode cL_law 1044 = .ok (.aload_n 3, 1) := by decide +kernel
theorem dL_law_1045 : decode cL_law 1045 = .ok (.iconst 0, 1) := by decide +kernel
theorem dL_law_1046 : decode cL_law 1046 = .ok (.laload, 1) := by decide +kernel
theorem dL_law_1047 : decode cL_law 1047 = .ok (.iload 6, 2) := by decide +kernel
theorem dL_law_1049 : decode cL_law 1049 = .ok (.i2l, 1) := by decide +kernel
theorem dL_law_1050 : decode cL_law 1050 = .ok (.lcmp, 1) := by decide +kernel
theorem dL_law_1051 : decode cL_law 1051 = .ok (.ifCond .eq 5, 3) := by decide +kernel
theorem dL_law_1054 : decode cL_law 1054 = .ok (.iconst 0, 1) := by decide +kernel
theorem dL_law_1055 : decode cL_law 1055 = .ok (.ireturn, 1) := by decide +kernel
theorem dL_law_1056 : decode cL_law 1056 = .ok (.goto 1547, 3) := by decide +kernel
theorem dL_law_1059 : decode cL_law 1059 = .ok (.aload_n 1, 1) := by decide +kernel
theorem dL_law_1060 : decode cL_law 1060 = .ok (.aload_n 0, 1) := by decide +kernel
theorem dL_law_1061 : decode cL_law 1061 = .ok (.iload 4, 2) := by decide +kernel
theorem dL_law_1063 : decode cL_law 1063 = .ok (.iconst 1, 1) := by decide +kernel
theorem dL_law_1064 : decode cL_law 1064 = .ok (.iadd, 1) := by decide +kernel
theorem dL_law_1065 : decode cL_law 1065 = .ok (.iaload, 1) := by decide +kernel
theorem dL_law_1066 : decode cL_law 1066 = .ok (.aload_n 3, 1) := by decide +kernel
theorem dL_law_1067 : decode cL_law 1067 = .ok (.invokestatic 188, 3) := by decide +kernel
theorem dL_law_1070 : decode cL_law 1070 = .ok (.istore 5, 2) := by decide +kernel
theorem dL_law_1072 : decode cL_law 1072 = .ok (.aload_n 2, 1) := by decide +kernel
theorem dL_law_1073 : decode cL_law 1073 = .ok (.aload_n 0, 1) := by decide +kernel
theorem dL_law_1074 : decode cL_law 1074 = .ok (.iload 4, 2) := by decide +kernel
theorem dL_law_1076 : decode cL_law 1076 = .ok (.iconst 1, 1) := by decide +kernel
theorem dL_law_1077 : decode cL_law 1077 = .ok (.iadd, 1) := by decide +kernel
theorem dL_law_1078 : decode cL_law 1078 = .ok (.iaload, 1) := by decide +kernel
theorem dL_law_1079 : decode cL_law 1079 = .ok (.invokevirtual 190, 3) := by decide +kernel
theorem dL_law_1082 : decode cL_law 1082 = .ok (.istore 6, 2) := by decide +kernel
theorem dL_law_1084 : decode cL_law 1084 = .ok (.aload_n 2, 1) := by decide +kernel
theorem dL_law_1085 : decode cL_law 1085 = .ok (.invokevirtual 142, 3) := by decide +kernel
theorem dL_law_1088 : decode cL_law 1088 = .ok (.iload 5, 2) := by decide +kernel
theorem dL_law_1090 : decode cL_law 1090 = .ok (.if_icmp .eq 5, 3) := by decide +kernel
theorem dL_law_1093 : decode cL_law 1093 = .ok (.iconst 0, 1) := by decide +kernel
theorem dL_law_1094 : decode cL_law 1094 = .ok (.ireturn, 1) := by decide +kernel
theorem dL_law_1095 : decode cL_law 1095 = .ok (.iload 5, 2) := by decide +kernel
theorem dL_law_1097 : decode cL_law 1097 = .ok (.ifCond .ne 15, 3) := by decide +kernel
theorem dL_law_1100 : decode cL_law 1100 = .ok (.aload_n 3, 1) := by decide +kernel
theorem dL_law_1101 : decode cL_law 1101 = .ok (.iconst 0, 1) := by decide +kernel
theorem dL_law_1102 : decode cL_law 1102 = .ok (.laload, 1) := by decide +kernel
theorem dL_law_1103 : decode cL_law 1103 = .ok (.iload 6, 2) := by decide +kernel
theorem dL_law_1105 : decode cL_law 1105 = .ok (.i2l, 1) := by decide +kernel
theorem dL_law_1106 : decode cL_law 1106 = .ok (.lcmp, 1) := by decide +kernel
theorem dL_law_1107 : decode cL_law 1107 = .ok (.ifCond .eq 5, 3) := by decide +kernel
theorem dL_law_1110 : decode cL_law 1110 = .ok (.iconst 0, 1) := by decide +kernel
theorem dL_law_1111 : decode cL_law 1111 = .ok (.ireturn, 1) := by decide +kernel
theorem dL_law_1112 : decode cL_law 1112 = .ok (.goto 1491, 3) := by decide +kernel
theorem dL_law_1115 : decode cL_law 1115 = .ok (.aload_n 1, 1) := by decide +kernel
theorem dL_law_1116 : decode cL_law 1116 = .ok (.aload_n 0, 1) := by decide +kernel
theorem dL_law_1117 : decode cL_law 1117 = .ok (.iload 4, 2) := by decide +kernel
theorem dL_law_1119 : decode cL_law 1119 = .ok (.iconst 1, 1) := by decide +kernel
theorem dL_law_1120 : decode cL_law 1120 = .ok (.iadd, 1) := by decide +kernel
theorem dL_law_1121 : decode cL_law 1121 = .ok (.iaload, 1) := by decide +kernel
theorem dL_law_1122 : decode cL_law 1122 = .ok (.aload_n 3, 1) := by decide +kernel
theorem dL_law_1123 : decode cL_law 1123 = .ok (.invokestatic 191, 3) := by decide +kernel
theorem dL_law_1126 : decode cL_law 1126 = .ok (.istore 5, 2) := by decide +kernel
theorem dL_law_1128 : decode cL_law 1128 = .ok (.aload_n 2, 1) := by decide +kernel
theorem dL_law_1129 : decode cL_law 1129 = .ok (.aload_n 0, 1) := by decide +kernel
theorem dL_law_1130 : decode cL_law 1130 = .ok (.iload 4, 2) := by decide +kernel
theorem dL_law_1132 : decode cL_law 1132 = .ok (.iconst 1, 1) := by decide +kernel
theorem dL_law_1133 : decode cL_law 1133 = .ok (.iadd, 1) := by decide +kernel
theorem dL_law_1134 : decode cL_law 1134 = .ok (.iaload, 1) := by decide +kernel
theorem dL_law_1135 : decode cL_law 1135 = .ok (.invokevirtual 193, 3) := by decide +kernel
theorem dL_law_1138 : decode cL_law 1138 = .ok (.istore 6, 2) := by decide +kernel
theorem dL_law_1140 : decode cL_law 1140 = .ok (.aload_n 2, 1) := by decide +kernel
theorem dL_law_1141 : decode cL_law 1141 = .ok (.invokevirtual 142, 3) := by decide +kernel
theorem dL_law_1144 : decode cL_law 1144 = .ok (.iload 5, 2) := by decide +kernel
theorem dL_law_1146 : decode cL_law 1146 = .ok (.if_icmp .eq 5, 3) := by decide +kernel
theorem dL_law_1149 : decode cL_law 1149 = .ok (.iconst 0, 1) := by decide +kernel
theorem dL_law_1150 : decode cL_law 1150 = .ok (.ireturn, 1) := by decide +kernel
theorem dL_law_1151 : decode cL_law 1151 = .ok (.iload 5, 2) := by decide +kernel
theorem dL_law_1153 : decode cL_law 1153 = .ok (.ifCond .ne 15, 3) := by decide +kernel
theorem dL_law_1156 : decode cL_law 1156 = .ok (.aload_n 3, 1) := by decide +kernel
theorem dL_law_1157 : decode cL_law 1157 = .ok (.iconst 0, 1) := by decide +kernel
theorem dL_law_1158 : decode cL_law 1158 = .ok (.laload, 1) := by decide +kernel
theorem dL_law_1159 : decode cL_law 1159 = .ok (.iload 6, 2) := by decide +kernel
theorem dL_law_1161 : decode cL_law 1161 = .ok (.i2l, 1) := by decide +kernel
theorem dL_law_1162 : decode cL_law 1162 = .ok (.lcmp, 1) := by decide +kernel
theorem dL_law_1163 : decode cL_law 1163 = .ok (.ifCond .eq 5, 3) := by decide +kernel
theorem dL_law_1166 : decode cL_law 1166 = .ok (.iconst 0, 1) := by decide +kernel
theorem dL_law_1167 : decode cL_law 1167 = .ok (.ireturn, 1) := by decide +kernel
theorem dL_law_1168 : decode cL_law 1168 = .ok (.goto 1435, 3) := by decide +kernel
theorem dL_law_1171 : decode cL_law 1171 = .ok (.aload_n 1, 1) := by decide +kernel
theorem dL_law_1172 : decode cL_law 1172 = .ok (.aload_n 0, 1) := by decide +kernel
theorem dL_law_1173 : decode cL_law 1173 = .ok (.iload 4, 2) := by decide +kernel
theorem dL_law_1175 : decode cL_law 1175 = .ok (.iconst 1, 1) := by decide +kernel
theorem dL_law_1176 : decode cL_law 1176 = .ok (.iadd, 1) := by decide +kernel
theorem dL_law_1177 : decode cL_law 1177 = .ok (.iaload, 1) := by decide +kernel
theorem dL_law_1178 : decode cL_law 1178 = .ok (.aload_n 0, 1) := by decide +kernel
theorem dL_law_1179 : decode cL_law 1179 = .ok (.iload 4, 2) := by decide +kernel
theorem dL_law_1181 : decode cL_law 1181 = .ok (.iconst 2, 1) := by decide +kernel
theorem dL_law_1182 : decode cL_law 1182 = .ok (.iadd, 1) := by decide +kernel
theorem dL_law_1183 : decode cL_law 1183 = .ok (.iaload, 1) := by decide +kernel
theorem dL_law_1184 : decode cL_law 1184 = .ok (.aload_n 3, 1) := by decide +kernel
theorem dL_law_1185 : decode cL_law 1185 = .ok (.invokestatic 194, 3) := by decide +kernel
theorem dL_law_1188 : decode cL_law 1188 = .ok (.istore 5, 2) := by decide +kernel
theorem dL_law_1190 : decode cL_law 1190 = .ok (.aload_n 2, 1) := by decide +kernel
theorem dL_law_1191 : decode cL_law 1191 = .ok (.aload_n 0, 1) := by decide +kernel
theorem dL_law_1192 : decode cL_law 1192 = .ok (.iload 4, 2) := by decide +kernel
theorem dL_law_1194 : decode cL_law 1194 = .ok (.iconst 1, 1) := by decide +kernel
theorem dL_law_1195 : decode cL_law 1195 = .ok (.iadd, 1) := by decide +kernel
theorem dL_law_1196 : decode cL_law 1196 = .ok (.iaload, 1) := by decide +kernel
theorem dL_law_1197 : decode cL_law 1197 = .ok (.aload_n 0, 1) := by decide +kernel
theorem dL_law_1198 : decode cL_law 1198 = .ok (.iload 4, 2) := by decide +kernel
theorem dL_law_1200 : decode cL_law 1200 = .ok (.iconst 2, 1) := by decide +kernel
theorem dL_law_1201 : decode cL_law 1201 = .ok (.iadd, 1) := by decide +kernel
theorem dL_law_1202 : decode cL_law 1202 = .ok (.iaload, 1) := by decide +kernel
theorem dL_law_1203 : decode cL_law 1203 = .ok (.invokevirtual 196, 3) := by decide +kernel
theorem dL_law_1206 : decode cL_law 1206 = .ok (.istore 6, 2) := by decide +kernel
theorem dL_law_1208 : decode cL_law 1208 = .ok (.aload_n 2, 1) := by decide +kernel
theorem dL_law_1209 : decode cL_law 1209 = .ok (.invokevirtual 142, 3) := by decide +kernel
theorem dL_law_1212 : decode cL_law 1212 = .ok (.iload 5, 2) := by decide +kernel
theorem dL_law_1214 : decode cL_law 1214 = .ok (.if_icmp .eq 5, 3) := by decide +kernel
theorem dL_law_1217 : decode cL_law 1217 = .ok (.iconst 0, 1) := by decide +kernel
theorem dL_law_1218 : decode cL_law 1218 = .ok (.ireturn, 1) := by decide +kernel
theorem dL_law_1219 : decode cL_law 1219 = .ok (.iload 5, 2) := by decide +kernel
theorem dL_law_1221 : decode cL_law 1221 = .ok (.ifCond .ne 15, 3) := by decide +kernel
theorem dL_law_1224 : decode cL_law 1224 = .ok (.aload_n 3, 1) := by decide +kernel
theorem dL_law_1225 : decode cL_law 1225 = .ok (.iconst 0, 1) := by decide +kernel
theorem dL_law_1226 : decode cL_law 1226 = .ok (.laload, 1) := by decide +kernel
theorem dL_law_1227 : decode cL_law 1227 = .ok (.iload 6, 2) := by decide +kernel
theorem dL_law_1229 : decode cL_law 1229 = .ok (.i2l, 1) := by decide +kernel
theorem dL_law_1230 : decode cL_law 1230 = .ok (.lcmp, 1) := by decide +kernel
theorem dL_law_1231 : decode cL_law 1231 = .ok (.ifCond .eq 5, 3) := by decide +kernel
theorem dL_law_1234 : decode cL_law 1234 = .ok (.iconst 0, 1) := by decide +kernel
theorem dL_law_1235 : decode cL_law 1235 = .ok (.ireturn, 1) := by decide +kernel
theorem dL_law_1236 : decode cL_law 1236 = .ok (.goto 1367, 3) := by decide +kernel
theorem dL_law_1239 : decode cL_law 1239 = .ok (.aload_n 1, 1) := by decide +kernel
theorem dL_law_1240 : decode cL_law 1240 = .ok (.aload_n 0, 1) := by decide +kernel
theorem dL_law_1241 : decode cL_law 1241 = .ok (.iload 4, 2) := by decide +kernel
theorem dL_law_1243 : decode cL_law 1243 = .ok (.iconst 1, 1) := by decide +kernel
theorem dL_law_1244 : decode cL_law 1244 = .ok (.iadd, 1) := by decide +kernel
theorem dL_law_1245 : decode cL_law 1245 = .ok (.iaload, 1) := by decide +kernel
theorem dL_law_1246 : decode cL_law 1246 = .ok (.aload_n 0, 1) := by decide +kernel
theorem dL_law_1247 : decode cL_law 1247 = .ok (.iload 4, 2) := by decide +kernel
theorem dL_law_1249 : decode cL_law 1249 = .ok (.iconst 2, 1) := by decide +kernel
theorem dL_law_1250 : decode cL_law 1250 = .ok (.iadd, 1) := by decide +kernel
theorem dL_law_1251 : decode cL_law 1251 = .ok (.iaload, 1) := by decide +kernel
theorem dL_law_1252 : decode cL_law 1252 = .ok (.aload_n 3, 1) := by decide +kernel
theorem dL_law_1253 : decode cL_law 1253 = .ok (.invokestatic 197, 3) := by decide +kernel
theorem dL_law_1256 : decode cL_law 1256 = .ok (.istore 5, 2) := by decide +kernel
theorem dL_law_1258 : decode cL_law 1258 = .ok (.aload_n 2, 1) := by decide +kernel
theorem dL_law_1259 : decode cL_law 1259 = .ok (.aload_n 0, 1) := by decide +kernel
theorem dL_law_1260 : decode cL_law 1260 = .ok (.iload 4, 2) := by decide +kernel
theorem dL_law_1262 : decode cL_law 1262 = .ok (.iconst 1, 1) := by decide +kernel
theorem dL_law_1263 : decode cL_law 1263 = .ok (.iadd, 1) := by decide +kernel
theorem dL_law_1264 : decode cL_law 1264 = .ok (.iaload, 1) := by decide +kernel
theorem dL_law_1265 : decode cL_law 1265 = .ok (.aload_n 0, 1) := by decide +kernel
theorem dL_law_1266 : decode cL_law 1266 = .ok (.iload 4, 2) := by decide +kernel
theorem dL_law_1268 : decode cL_law 1268 = .ok (.iconst 2, 1) := by decide +kernel
theorem dL_law_1269 : decode cL_law 1269 = .ok (.iadd, 1) := by decide +kernel
theorem dL_law_1270 : decode cL_law 1270 = .ok (.iaload, 1) := by decide +kernel
theorem dL_law_1271 : decode cL_law 1271 = .ok (.invokevirtual 199, 3) := by decide +kernel
theorem dL_law_1274 : decode cL_law 1274 = .ok (.istore 6, 2) := by decide +kernel
theorem dL_law_1276 : decode cL_law 1276 = .ok (.aload_n 2, 1) := by decide +kernel
theorem dL_law_1277 : decode cL_law 1277 = .ok (.invokevirtual 142, 3) := by decide +kernel
theorem dL_law_1280 : decode cL_law 1280 = .ok (.iload 5, 2) := by decide +kernel
theorem dL_law_1282 : decode cL_law 1282 = .ok (.if_icmp .eq 5, 3) := by decide +kernel
theorem dL_law_1285 : decode cL_law 1285 = .ok (.iconst 0, 1) := by decide +kernel
theorem dL_law_1286 : decode cL_law 1286 = .ok (.ireturn, 1) := by decide +kernel
theorem dL_law_1287 : decode cL_law 1287 = .ok (.iload 5, 2) := by decide +kernel
theorem dL_law_1289 : decode cL_law 1289 = .ok (.ifCond .ne 15, 3) := by decide +kernel
theorem dL_law_1292 : decode cL_law 1292 = .ok (.aload_n 3, 1) := by decide +kernel
theorem dL_law_1293 : decode cL_law 1293 = .ok (.iconst 0, 1) := by decide +kernel
theorem dL_law_1294 : decode cL_law 1294 = .ok (.laload, 1) := by decide +kernel
theorem dL_law_1295 : decode cL_law 1295 = .ok (.iload 6, 2) := by decide +kernel
theorem dL_law_1297 : decode cL_law 1297 = .ok (.i2l, 1) := by decide +kernel
theorem dL_law_1298 : decode cL_law 1298 = .ok (.lcmp, 1) := by decide +kernel
theorem dL_law_1299 : decode cL_law 1299 = .ok (.ifCond .eq 5, 3) := by decide +kernel
theorem dL_law_1302 : decode cL_law 1302 = .ok (.iconst 0, 1) := by decide +kernel
theorem dL_law_1303 : decode cL_law 1303 = .ok (.ireturn, 1) := by decide +kernel
theorem dL_law_1304 : decode cL_law 1304 = .ok (.goto 1299, 3) := by decide +kernel
theorem dL_law_1307 : decode cL_law 1307 = .ok (.aload_n 1, 1) := by decide +kernel
theorem dL_law_1308 : decode cL_law 1308 = .ok (.aload_n 0, 1) := by decide +kernel
theorem dL_law_1309 : decode cL_law 1309 = .ok (.iload 4, 2) := by decide +kernel
theorem dL_law_1311 : decode cL_law 1311 = .ok (.iconst 1, 1) := by decide +kernel
theorem dL_law_1312 : decode cL_law 1312 = .ok (.iadd, 1) := by decide +kernel
theorem dL_law_1313 : decode cL_law 1313 = .ok (.iaload, 1) := by decide +kernel
theorem dL_law_1314 : decode cL_law 1314 = .ok (.aload_n 3, 1) := by decide +kernel
theorem dL_law_1315 : decode cL_law 1315 = .ok (.invokestatic 200, 3) := by decide +kernel
theorem dL_law_1318 : decode cL_law 1318 = .ok (.istore 5, 2) := by decide +kernel
theorem dL_law_1320 : decode cL_law 1320 = .ok (.aload_n 2, 1) := by decide +kernel
theorem dL_law_1321 : decode cL_law 1321 = .ok (.aload_n 0, 1) := by decide +kernel
theorem dL_law_1322 : decode cL_law 1322 = .ok (.iload 4, 2) := by decide +kernel
theorem dL_law_1324 : decode cL_law 1324 = .ok (.iconst 1, 1) := by decide +kernel
theorem dL_law_1325 : decode cL_law 1325 = .ok (.iadd, 1) := by decide +kernel
theorem dL_law_1326 : decode cL_law 1326 = .ok (.iaload, 1) := by decide +kernel
theorem dL_law_1327 : decode cL_law 1327 = .ok (.invokevirtual 202, 3) := by decide +kernel
theorem dL_law_1330 : decode cL_law 1330 = .ok (.istore 6, 2) := by decide +kernel
theorem dL_law_1332 : decode cL_law 1332 = .ok (.aload_n 2, 1) := by decide +kernel
theorem dL_law_1333 : decode cL_law 1333 = .ok (.invokevirtual 142, 3) := by decide +kernel
theorem dL_law_1336 : decode cL_law 1336 = .ok (.iload 5, 2) := by decide +kernel
theorem dL_law_1338 : decode cL_law 1338 = .ok (.if_icmp .eq 5, 3) := by decide +kernel
theorem dL_law_1341 : decode cL_law 1341 = .ok (.iconst 0, 1) := by decide +kernel
theorem dL_law_1342 : decode cL_law 1342 = .ok (.ireturn, 1) := by decide +kernel
theorem dL_law_1343 : decode cL_law 1343 = .ok (.iload 5, 2) := by decide +kernel
theorem dL_law_1345 : decode cL_law 1345 = .ok (.ifCond .ne 15, 3) := by decide +kernel
theorem dL_law_1348 : decode cL_law 1348 = .ok (.aload_n 3, 1) := by decide +kernel
theorem dL_law_1349 : decode cL_law 1349 = .ok (.iconst 0, 1) := by decide +kernel
theorem dL_law_1350 : decode cL_law 1350 = .ok (.laload, 1) := by decide +kernel
theorem dL_law_1351 : decode cL_law 1351 = .ok (.iload 6, 2) := by decide +kernel
theorem dL_law_1353 : decode cL_law 1353 = .ok (.i2l, 1) := by decide +kernel
theorem dL_law_1354 : decode cL_law 1354 = .ok (.lcmp, 1) := by decide +kernel
theorem dL_law_1355 : decode cL_law 1355 = .ok (.ifCond .eq 5, 3) := by decide +kernel
theorem dL_law_1358 : decode cL_law 1358 = .ok (.iconst 0, 1) := by decide +kernel
theorem dL_law_1359 : decode cL_law 1359 = .ok (.ireturn, 1) := by decide +kernel
theorem dL_law_1360 : decode cL_law 1360 = .ok (.goto 1243, 3) := by decide +kernel
theorem dL_law_1363 : decode cL_law 1363 = .ok (.aload_n 1, 1) := by decide +kernel
theorem dL_law_1364 : decode cL_law 1364 = .ok (.aload_n 0, 1) := by decide +kernel
theorem dL_law_1365 : decode cL_law 1365 = .ok (.iload 4, 2) := by decide +kernel
theorem dL_law_1367 : decode cL_law 1367 = .ok (.iconst 1, 1) := by decide +kernel
theorem dL_law_1368 : decode cL_law 1368 = .ok (.iadd, 1) := by decide +kernel
theorem dL_law_1369 : decode cL_law 1369 = .ok (.iaload, 1) := by decide +kernel
theorem dL_law_1370 : decode cL_law 1370 = .ok (.aload_n 0, 1) := by decide +kernel
theorem dL_law_1371 : decode cL_law 1371 = .ok (.iload 4, 2) := by decide +kernel
theorem dL_law_1373 : decode cL_law 1373 = .ok (.iconst 2, 1) := by decide +kernel
theorem dL_law_1374 : decode cL_law 1374 = .ok (.iadd, 1) := by decide +kernel
theorem dL_law_1375 : decode cL_law 1375 = .ok (.iaload, 1) := by decide +kernel
theorem dL_law_1376 : decode cL_law 1376 = .ok (.aload_n 3, 1) := by decide +kernel
theorem dL_law_1377 : decode cL_law 1377 = .ok (.invokestatic 203, 3) := by decide +kernel
theorem dL_law_1380 : decode cL_law 1380 = .ok (.istore 5, 2) := by decide +kernel
theorem dL_law_1382 : decode cL_law 1382 = .ok (.aload_n 2, 1) := by decide +kernel
theorem dL_law_1383 : decode cL_law 1383 = .ok (.aload_n 0, 1) := by decide +kernel
theorem dL_law_1384 : decode cL_law 1384 = .ok (.iload 4, 2) := by decide +kernel
theorem dL_law_1386 : decode cL_law 1386 = .ok (.iconst 1, 1) := by decide +kernel
theorem dL_law_1387 : decode cL_law 1387 = .ok (.iadd, 1) := by decide +kernel
theorem dL_law_1388 : decode cL_law 1388 = .ok (.iaload, 1) := by decide +kernel
theorem dL_law_1389 : decode cL_law 1389 = .ok (.aload_n 0, 1) := by decide +kernel
theorem dL_law_1390 : decode cL_law 1390 = .ok (.iload 4, 2) := by decide +kernel
theorem dL_law_1392 : decode cL_law 1392 = .ok (.iconst 2, 1) := by decide +kernel
theorem dL_law_1393 : decode cL_law 1393 = .ok (.iadd, 1) := by decide +kernel
theorem dL_law_1394 : decode cL_law 1394 = .ok (.iaload, 1) := by decide +kernel
theorem dL_law_1395 : decode cL_law 1395 = .ok (.invokevirtual 205, 3) := by decide +kernel
theorem dL_law_1398 : decode cL_law 1398 = .ok (.istore 6, 2) := by decide +kernel
theorem dL_law_1400 : decode cL_law 1400 = .ok (.aload_n 2, 1) := by decide +kernel
theorem dL_law_1401 : decode cL_law 1401 = .ok (.invokevirtual 142, 3) := by decide +kernel
theorem dL_law_1404 : decode cL_law 1404 = .ok (.iload 5, 2) := by decide +kernel
theorem dL_law_1406 : decode cL_law 1406 = .ok (.if_icmp .eq 5, 3) := by decide +kernel
theorem dL_law_1409 : decode cL_law 1409 = .ok (.iconst 0, 1) := by decide +kernel
theorem dL_law_1410 : decode cL_law 1410 = .ok (.ireturn, 1) := by decide +kernel
theorem dL_law_1411 : decode cL_law 1411 = .ok (.iload 5, 2) := by decide +kernel
theorem dL_law_1413 : decode cL_law 1413 = .ok (.ifCond .ne 15, 3) := by decide +kernel
theorem dL_law_1416 : decode cL_law 1416 = .ok (.aload_n 3, 1) := by decide +kernel
theorem dL_law_1417 : decode cL_law 1417 = .ok (.iconst 0, 1) := by decide +kernel
theorem dL_law_1418 : decode cL_law 1418 = .ok (.laload, 1) := by decide +kernel
theorem dL_law_1419 : decode cL_law 1419 = .ok (.iload 6, 2) := by decide +kernel
theorem dL_law_1421 : decode cL_law 1421 = .ok (.i2l, 1) := by decide +kernel
theorem dL_law_1422 : decode cL_law 1422 = .ok (.lcmp, 1) := by decide +kernel
theorem dL_law_1423 : decode cL_law 1423 = .ok (.ifCond .eq 5, 3) := by decide +kernel
theorem dL_law_1426 : decode cL_law 1426 = .ok (.iconst 0, 1) := by decide +kernel
theorem dL_law_1427 : decode cL_law 1427 = .ok (.ireturn, 1) := by decide +kernel
theorem dL_law_1428 : decode cL_law 1428 = .ok (.goto 1175, 3) := by decide +kernel
theorem dL_law_1431 : decode cL_law 1431 = .ok (.aload_n 1, 1) := by decide +kernel
theorem dL_law_1432 : decode cL_law 1432 = .ok (.aload_n 0, 1) := by decide +kernel
theorem dL_law_1433 : decode cL_law 1433 = .ok (.iload 4, 2) := by decide +kernel
theorem dL_law_1435 : decode cL_law 1435 = .ok (.iconst 1, 1) := by decide +kernel
theorem dL_law_1436 : decode cL_law 1436 = .ok (.iadd, 1) := by decide +kernel
theorem dL_law_1437 : decode cL_law 1437 = .ok (.iaload, 1) := by decide +kernel
theorem dL_law_1438 : decode cL_law 1438 = .ok (.aload_n 3, 1) := by decide +kernel
theorem dL_law_1439 : decode cL_law 1439 = .ok (.invokestatic 206, 3) := by decide +kernel
theorem dL_law_1442 : decode cL_law 1442 = .ok (.istore 5, 2) := by decide +kernel
theorem dL_law_1444 : decode cL_law 1444 = .ok (.aload_n 2, 1) := by decide +kernel
theorem dL_law_1445 : decode cL_law 1445 = .ok (.aload_n 0, 1) := by decide +kernel
theorem dL_law_1446 : decode cL_law 1446 = .ok (.iload 4, 2) := by decide +kernel
theorem dL_law_1448 : decode cL_law 1448 = .ok (.iconst 1, 1) := by decide +kernel
theorem dL_law_1449 : decode cL_law 1449 = .ok (.iadd, 1) := by decide +kernel
theorem dL_law_1450 : decode cL_law 1450 = .ok (.iaload, 1) := by decide +kernel
theorem dL_law_1451 : decode cL_law 1451 = .ok (.invokevirtual 208, 3) := by decide +kernel
theorem dL_law_1454 : decode cL_law 1454 = .ok (.istore 6, 2) := by decide +kernel
theorem dL_law_1456 : decode cL_law 1456 = .ok (.aload_n 2, 1) := by decide +kernel
theorem dL_law_1457 : decode cL_law 1457 = .ok (.invokevirtual 142, 3) := by decide +kernel
theorem dL_law_1460 : decode cL_law 1460 = .ok (.iload 5, 2) := by decide +kernel
theorem dL_law_1462 : decode cL_law 1462 = .ok (.if_icmp .eq 5, 3) := by decide +kernel
theorem dL_law_1465 : decode cL_law 1465 = .ok (.iconst 0, 1) := by decide +kernel
theorem dL_law_1466 : decode cL_law 1466 = .ok (.ireturn, 1) := by decide +kernel
theorem dL_law_1467 : decode cL_law 1467 = .ok (.iload 5, 2) := by decide +kernel
theorem dL_law_1469 : decode cL_law 1469 = .ok (.ifCond .ne 15, 3) := by decide +kernel
theorem dL_law_1472 : decode cL_law 1472 = .ok (.aload_n 3, 1) := by decide +kernel
theorem dL_law_1473 : decode cL_law 1473 = .ok (.iconst 0, 1) := by decide +kernel
theorem dL_law_1474 : decode cL_law 1474 = .ok (.laload, 1) := by decide +kernel
theorem dL_law_1475 : decode cL_law 1475 = .ok (.iload 6, 2) := by decide +kernel
theorem dL_law_1477 : decode cL_law 1477 = .ok (.i2l, 1) := by decide +kernel
theorem dL_law_1478 : decode cL_law 1478 = .ok (.lcmp, 1) := by decide +kernel
theorem dL_law_1479 : decode cL_law 1479 = .ok (.ifCond .eq 5, 3) := by decide +kernel
theorem dL_law_1482 : decode cL_law 1482 = .ok (.iconst 0, 1) := by decide +kernel
theorem dL_law_1483 : decode cL_law 1483 = .ok (.ireturn, 1) := by decide +kernel
theorem dL_law_1484 : decode cL_law 1484 = .ok (.goto 1119, 3) := by decide +kernel
theorem dL_law_1487 : decode cL_law 1487 = .ok (.aload_n 1, 1) := by decide +kernel
theorem dL_law_1488 : decode cL_law 1488 = .ok (.invokevirtual 209, 3) := by decide +kernel
theorem dL_law_1491 : decode cL_law 1491 = .ok (.aload_n 2, 1) := by decide +kernel
theorem dL_law_1492 : decode cL_law 1492 = .ok (.invokevirtual 212, 3) := by decide +kernel
theorem dL_law_1495 : decode cL_law 1495 = .ok (.if_icmp .eq 1108, 3) := by decide +kernel
theorem dL_law_1498 : decode cL_law 1498 = .ok (.iconst 0, 1) := by decide +kernel
theorem dL_law_1499 : decode cL_law 1499 = .ok (.ireturn, 1) := by decide +kernel
theorem dL_law_1500 : decode cL_law 1500 = .ok (.aload_n 1, 1) := by decide +kernel
theorem dL_law_1501 : decode cL_law 1501 = .ok (.aload_n 0, 1) := by decide +kernel
theorem dL_law_1502 : decode cL_law 1502 = .ok (.iload 4, 2) := by decide +kernel
theorem dL_law_1504 : decode cL_law 1504 = .ok (.iconst 1, 1) := by decide +kernel
theorem dL_law_1505 : decode cL_law 1505 = .ok (.iadd, 1) := by decide +kernel
theorem dL_law_1506 : decode cL_law 1506 = .ok (.iaload, 1) := by decide +kernel
theorem dL_law_1507 : decode cL_law 1507 = .ok (.aload_n 0, 1) := by decide +kernel
theorem dL_law_1508 : decode cL_law 1508 = .ok (.iload 4, 2) := by decide +kernel
theorem dL_law_1510 : decode cL_law 1510 = .ok (.iconst 2, 1) := by decide +kernel
theorem dL_law_1511 : decode cL_law 1511 = .ok (.iadd, 1) := by decide +kernel
theorem dL_law_1512 : decode cL_law 1512 = .ok (.iaload, 1) := by decide +kernel
theorem dL_law_1513 : decode cL_law 1513 = .ok (.aload_n 3, 1) := by decide +kernel
theorem dL_law_1514 : decode cL_law 1514 = .ok (.invokestatic 213, 3) := by decide +kernel
theorem dL_law_1517 : decode cL_law 1517 = .ok (.istore 5, 2) := by decide +kernel
theorem dL_law_1519 : decode cL_law 1519 = .ok (.aload_n 2, 1) := by decide +kernel
theorem dL_law_1520 : decode cL_law 1520 = .ok (.aload_n 0, 1) := by decide +kernel
theorem dL_law_1521 : decode cL_law 1521 = .ok (.iload 4, 2) := by decide +kernel
theorem dL_law_1523 : decode cL_law 1523 = .ok (.iconst 1, 1) := by decide +kernel
theorem dL_law_1524 : decode cL_law 1524 = .ok (.iadd, 1) := by decide +kernel
theorem dL_law_1525 : decode cL_law 1525 = .ok (.iaload, 1) := by decide +kernel
theorem dL_law_1526 : decode cL_law 1526 = .ok (.aload_n 0, 1) := by decide +kernel
theorem dL_law_1527 : decode cL_law 1527 = .ok (.iload 4, 2) := by decide +kernel
theorem dL_law_1529 : decode cL_law 1529 = .ok (.iconst 2, 1) := by decide +kernel
theorem dL_law_1530 : decode cL_law 1530 = .ok (.iadd, 1) := by decide +kernel
theorem dL_law_1531 : decode cL_law 1531 = .ok (.iaload, 1) := by decide +kernel
theorem dL_law_1532 : decode cL_law 1532 = .ok (.invokevirtual 215, 3) := by decide +kernel
theorem dL_law_1535 : decode cL_law 1535 = .ok (.istore 6, 2) := by decide +kernel
theorem dL_law_1537 : decode cL_law 1537 = .ok (.aload_n 2, 1) := by decide +kernel
theorem dL_law_1538 : decode cL_law 1538 = .ok (.invokevirtual 142, 3) := by decide +kernel
theorem dL_law_1541 : decode cL_law 1541 = .ok (.iload 5, 2) := by decide +kernel
theorem dL_law_1543 : decode cL_law 1543 = .ok (.if_icmp .eq 5, 3) := by decide +kernel
theorem dL_law_1546 : decode cL_law 1546 = .ok (.iconst 0, 1) := by decide +kernel
theorem dL_law_1547 : decode cL_law 1547 = .ok (.ireturn, 1) := by decide +kernel
theorem dL_law_1548 : decode cL_law 1548 = .ok (.iload 5, 2) := by decide +kernel
theorem dL_law_1550 : decode cL_law 1550 = .ok (.ifCond .ne 15, 3) := by decide +kernel
theorem dL_law_1553 : decode cL_law 1553 = .ok (.aload_n 3, 1) := by decide +kernel
theorem dL_law_1554 : decode cL_law 1554 = .ok (.iconst 0, 1) := by decide +kernel
theorem dL_law_1555 : decode cL_law 1555 = .ok (.laload, 1) := by decide +kernel
theorem dL_law_1556 : decode cL_law 1556 = .ok (.iload 6, 2) := by decide +kernel
theorem dL_law_1558 : decode cL_law 1558 = .ok (.i2l, 1) := by decide +kernel
theorem dL_law_1559 : decode cL_law 1559 = .ok (.lcmp, 1) := by decide +kernel
theorem dL_law_1560 : decode cL_law 1560 = .ok (.ifCond .eq 5, 3) := by decide +kernel
theorem dL_law_1563 : decode cL_law 1563 = .ok (.iconst 0, 1) := by decide +kernel
theorem dL_law_1564 : decode cL_law 1564 = .ok (.ireturn, 1) := by decide +kernel
theorem dL_law_1565 : decode cL_law 1565 = .ok (.goto 1038, 3) := by decide +kernel
theorem dL_law_1568 : decode cL_law 1568 = .ok (.aload_n 1, 1) := by decide +kernel
theorem dL_law_1569 : decode cL_law 1569 = .ok (.aload_n 0, 1) := by decide +kernel
theorem dL_law_1570 : decode cL_law 1570 = .ok (.iload 4, 2) := by decide +kernel
theorem dL_law_1572 : decode cL_law 1572 = .ok (.iconst 1, 1) := by decide +kernel
theorem dL_law_1573 : decode cL_law 1573 = .ok (.iadd, 1) := by decide +kernel
theorem dL_law_1574 : decode cL_law 1574 = .ok (.iaload, 1) := by decide +kernel
theorem dL_law_1575 : decode cL_law 1575 = .ok (.aload_n 0, 1) := by decide +kernel
theorem dL_law_1576 : decode cL_law 1576 = .ok (.iload 4, 2) := by decide +kernel
theorem dL_law_1578 : decode cL_law 1578 = .ok (.iconst 2, 1) := by decide +kernel
theorem dL_law_1579 : decode cL_law 1579 = .ok (.iadd, 1) := by decide +kernel
theorem dL_law_1580 : decode cL_law 1580 = .ok (.iaload, 1) := by decide +kernel
theorem dL_law_1581 : decode cL_law 1581 = .ok (.aload_n 3, 1) := by decide +kernel
theorem dL_law_1582 : decode cL_law 1582 = .ok (.invokestatic 216, 3) := by decide +kernel
theorem dL_law_1585 : decode cL_law 1585 = .ok (.istore 5, 2) := by decide +kernel
theorem dL_law_1587 : decode cL_law 1587 = .ok (.aload_n 2, 1) := by decide +kernel
theorem dL_law_1588 : decode cL_law 1588 = .ok (.aload_n 0, 1) := by decide +kernel
theorem dL_law_1589 : decode cL_law 1589 = .ok (.iload 4, 2) := by decide +kernel
theorem dL_law_1591 : decode cL_law 1591 = .ok (.iconst 1, 1) := by decide +kernel
theorem dL_law_1592 : decode cL_law 1592 = .ok (.iadd, 1) := by decide +kernel
theorem dL_law_1593 : decode cL_law 1593 = .ok (.iaload, 1) := by decide +kernel
theorem dL_law_1594 : decode cL_law 1594 = .ok (.aload_n 0, 1) := by decide +kernel
theorem dL_law_1595 : decode cL_law 1595 = .ok (.iload 4, 2) := by decide +kernel
theorem dL_law_1597 : decode cL_law 1597 = .ok (.iconst 2, 1) := by decide +kernel
theorem dL_law_1598 : decode cL_law 1598 = .ok (.iadd, 1) := by decide +kernel
theorem dL_law_1599 : decode cL_law 1599 = .ok (.iaload, 1) := by decide +kernel
theorem dL_law_1600 : decode cL_law 1600 = .ok (.invokevirtual 218, 3) := by decide +kernel
theorem dL_law_1603 : decode cL_law 1603 = .ok (.istore 6, 2) := by decide +kernel
theorem dL_law_1605 : decode cL_law 1605 = .ok (.aload_n 2, 1) := by decide +kernel
theorem dL_law_1606 : decode cL_law 1606 = .ok (.invokevirtual 142, 3) := by decide +kernel
theorem dL_law_1609 : decode cL_law 1609 = .ok (.iload 5, 2) := by decide +kernel
theorem dL_law_1611 : decode cL_law 1611 = .ok (.if_icmp .eq 5, 3) := by decide +kernel
theorem dL_law_1614 : decode cL_law 1614 = .ok (.iconst 0, 1) := by decide +kernel
theorem dL_law_1615 : decode cL_law 1615 = .ok (.ireturn, 1) := by decide +kernel
theorem dL_law_1616 : decode cL_law 1616 = .ok (.iload 5, 2) := by decide +kernel
theorem dL_law_1618 : decode cL_law 1618 = .ok (.ifCond .ne 15, 3) := by decide +kernel
theorem dL_law_1621 : decode cL_law 1621 = .ok (.aload_n 3, 1) := by decide +kernel
theorem dL_law_1622 : decode cL_law 1622 = .ok (.iconst 0, 1) := by decide +kernel
theorem dL_law_1623 : decode cL_law 1623 = .ok (.laload, 1) := by decide +kernel
theorem dL_law_1624 : decode cL_law 1624 = .ok (.iload 6, 2) := by decide +kernel
theorem dL_law_1626 : decode cL_law 1626 = .ok (.i2l, 1) := by decide +kernel
theorem dL_law_1627 : decode cL_law 1627 = .ok (.lcmp, 1) := by decide +kernel
theorem dL_law_1628 : decode cL_law 1628 = .ok (.ifCond .eq 5, 3) := by decide +kernel
theorem dL_law_1631 : decode cL_law 1631 = .ok (.iconst 0, 1) := by decide +kernel
theorem dL_law_1632 : decode cL_law 1632 = .ok (.ireturn, 1) := by decide +kernel
theorem dL_law_1633 : decode cL_law 1633 = .ok (.goto 970, 3) := by decide +kernel
theorem dL_law_1636 : decode cL_law 1636 = .ok (.aload_n 1, 1) := by decide +kernel
theorem dL_law_1637 : decode cL_law 1637 = .ok (.invokevirtual 219, 3) := by decide +kernel
theorem dL_law_1640 : decode cL_law 1640 = .ok (.aload_n 2, 1) := by decide +kernel
theorem dL_law_1641 : decode cL_law 1641 = .ok (.invokevirtual 222, 3) := by decide +kernel
theorem dL_law_1644 : decode cL_law 1644 = .ok (.if_icmp .eq 959, 3) := by decide +kernel
theorem dL_law_1647 : decode cL_law 1647 = .ok (.iconst 0, 1) := by decide +kernel
theorem dL_law_1648 : decode cL_law 1648 = .ok (.ireturn, 1) := by decide +kernel
theorem dL_law_1649 : decode cL_law 1649 = .ok (.aload_n 1, 1) := by decide +kernel
theorem dL_law_1650 : decode cL_law 1650 = .ok (.aload_n 0, 1) := by decide +kernel
theorem dL_law_1651 : decode cL_law 1651 = .ok (.iload 4, 2) := by decide +kernel
theorem dL_law_1653 : decode cL_law 1653 = .ok (.iconst 1, 1) := by decide +kernel
theorem dL_law_1654 : decode cL_law 1654 = .ok (.iadd, 1) := by decide +kernel
theorem dL_law_1655 : decode cL_law 1655 = .ok (.iaload, 1) := by decide +kernel
theorem dL_law_1656 : decode cL_law 1656 = .ok (.aload_n 3, 1) := by decide +kernel
theorem dL_law_1657 : decode cL_law 1657 = .ok (.invokestatic 223, 3) := by decide +kernel
theorem dL_law_1660 : decode cL_law 1660 = .ok (.istore 5, 2) := by decide +kernel
theorem dL_law_1662 : decode cL_law 1662 = .ok (.aload_n 2, 1) := by decide +kernel
theorem dL_law_1663 : decode cL_law 1663 = .ok (.aload_n 0, 1) := by decide +kernel
theorem dL_law_1664 : decode cL_law 1664 = .ok (.iload 4, 2) := by decide +kernel
theorem dL_law_1666 : decode cL_law 1666 = .ok (.iconst 1, 1) := by decide +kernel
theorem dL_law_1667 : decode cL_law 1667 = .ok (.iadd, 1) := by decide +kernel
theorem dL_law_1668 : decode cL_law 1668 = .ok (.iaload, 1) := by decide +kernel
theorem dL_law_1669 : decode cL_law 1669 = .ok (.invokevirtual 225, 3) := by decide +kernel
theorem dL_law_1672 : decode cL_law 1672 = .ok (.istore 6, 2) := by decide +kernel
theorem dL_law_1674 : decode cL_law 1674 = .ok (.aload_n 2, 1) := by decide +kernel
theorem dL_law_1675 : decode cL_law 1675 = .ok (.invokevirtual 142, 3) := by decide +kernel
theorem dL_law_1678 : decode cL_law 1678 = .ok (.iload 5, 2) := by decide +kernel
theorem dL_law_1680 : decode cL_law 1680 = .ok (.if_icmp .eq 5, 3) := by decide +kernel
theorem dL_law_1683 : decode cL_law 1683 = .ok (.iconst 0, 1) := by decide +kernel
theorem dL_law_1684 : decode cL_law 1684 = .ok (.ireturn, 1) := by decide +kernel
theorem dL_law_1685 : decode cL_law 1685 = .ok (.iload 5, 2) := by decide +kernel
theorem dL_law_1687 : decode cL_law 1687 = .ok (.ifCond .ne 15, 3) := by decide +kernel
theorem dL_law_1690 : decode cL_law 1690 = .ok (.aload_n 3, 1) := by decide +kernel
theorem dL_law_1691 : decode cL_law 1691 = .ok (.iconst 0, 1) := by decide +kernel
theorem dL_law_1692 : decode cL_law 1692 = .ok (.laload, 1) := by decide +kernel
theorem dL_law_1693 : decode cL_law 1693 = .ok (.iload 6, 2) := by decide +kernel
theorem dL_law_1695 : decode cL_law 1695 = .ok (.i2l, 1) := by decide +kernel
theorem dL_law_1696 : decode cL_law 1696 = .ok (.lcmp, 1) := by decide +kernel
theorem dL_law_1697 : decode cL_law 1697 = .ok (.ifCond .eq 5, 3) := by decide +kernel
theorem dL_law_1700 : decode cL_law 1700 = .ok (.iconst 0, 1) := by decide +kernel
theorem dL_law_1701 : decode cL_law 1701 = .ok (.ireturn, 1) := by decide +kernel
theorem dL_law_1702 : decode cL_law 1702 = .ok (.goto 901, 3) := by decide +kernel
theorem dL_law_1705 : decode cL_law 1705 = .ok (.aload_n 1, 1) := by decide +kernel
theorem dL_law_1706 : decode cL_law 1706 = .ok (.aload_n 0, 1) := by decide +kernel
theorem dL_law_1707 : decode cL_law 1707 = .ok (.iload 4, 2) := by decide +kernel
theorem dL_law_1709 : decode cL_law 1709 = .ok (.iconst 1, 1) := by decide +kernel
theorem dL_law_1710 : decode cL_law 1710 = .ok (.iadd, 1) := by decide +kernel
theorem dL_law_1711 : decode cL_law 1711 = .ok (.iaload, 1) := by decide +kernel
theorem dL_law_1712 : decode cL_law 1712 = .ok (.aload_n 3, 1) := by decide +kernel
theorem dL_law_1713 : decode cL_law 1713 = .ok (.invokestatic 226, 3) := by decide +kernel
theorem dL_law_1716 : decode cL_law 1716 = .ok (.istore 5, 2) := by decide +kernel
theorem dL_law_1718 : decode cL_law 1718 = .ok (.aload_n 2, 1) := by decide +kernel
theorem dL_law_1719 : decode cL_law 1719 = .ok (.aload_n 0, 1) := by decide +kernel
theorem dL_law_1720 : decode cL_law 1720 = .ok (.iload 4, 2) := by decide +kernel
theorem dL_law_1722 : decode cL_law 1722 = .ok (.iconst 1, 1) := by decide +kernel
theorem dL_law_1723 : decode cL_law 1723 = .ok (.iadd, 1) := by decide +kernel
theorem dL_law_1724 : decode cL_law 1724 = .ok (.iaload, 1) := by decide +kernel
theorem dL_law_1725 : decode cL_law 1725 = .ok (.invokevirtual 228, 3) := by decide +kernel
theorem dL_law_1728 : decode cL_law 1728 = .ok (.lstore 6, 2) := by decide +kernel
theorem dL_law_1730 : decode cL_law 1730 = .ok (.aload_n 2, 1) := by decide +kernel
theorem dL_law_1731 : decode cL_law 1731 = .ok (.invokevirtual 142, 3) := by decide +kernel
theorem dL_law_1734 : decode cL_law 1734 = .ok (.iload 5, 2) := by decide +kernel
theorem dL_law_1736 : decode cL_law 1736 = .ok (.if_icmp .eq 5, 3) := by decide +kernel
theorem dL_law_1739 : decode cL_law 1739 = .ok (.iconst 0, 1) := by decide +kernel
theorem dL_law_1740 : decode cL_law 1740 = .ok (.ireturn, 1) := by decide +kernel
theorem dL_law_1741 : decode cL_law 1741 = .ok (.iload 5, 2) := by decide +kernel
theorem dL_law_1743 : decode cL_law 1743 = .ok (.ifCond .ne 14, 3) := by decide +kernel
theorem dL_law_1746 : decode cL_law 1746 = .ok (.aload_n 3, 1) := by decide +kernel
theorem dL_law_1747 : decode cL_law 1747 = .ok (.iconst 0, 1) := by decide +kernel
theorem dL_law_1748 : decode cL_law 1748 = .ok (.laload, 1) := by decide +kernel
theorem dL_law_1749 : decode cL_law 1749 = .ok (.lload 6, 2) := by decide +kernel
theorem dL_law_1751 : decode cL_law 1751 = .ok (.lcmp, 1) := by decide +kernel
theorem dL_law_1752 : decode cL_law 1752 = .ok (.ifCond .eq 5, 3) := by decide +kernel
theorem dL_law_1755 : decode cL_law 1755 = .ok (.iconst 0, 1) := by decide +kernel
theorem dL_law_1756 : decode cL_law 1756 = .ok (.ireturn, 1) := by decide +kernel
theorem dL_law_1757 : decode cL_law 1757 = .ok (.goto 846, 3) := by decide +kernel
theorem dL_law_1760 : decode cL_law 1760 = .ok (.aload_n 1, 1) := by decide +kernel
theorem dL_law_1761 : decode cL_law 1761 = .ok (.aload_n 0, 1) := by decide +kernel
theorem dL_law_1762 : decode cL_law 1762 = .ok (.iload 4, 2) := by decide +kernel
theorem dL_law_1764 : decode cL_law 1764 = .ok (.iconst 1, 1) := by decide +kernel
theorem dL_law_1765 : decode cL_law 1765 = .ok (.iadd, 1) := by decide +kernel
theorem dL_law_1766 : decode cL_law 1766 = .ok (.iaload, 1) := by decide +kernel
theorem dL_law_1767 : decode cL_law 1767 = .ok (.aload_n 3, 1) := by decide +kernel
theorem dL_law_1768 : decode cL_law 1768 = .ok (.invokestatic 229, 3) := by decide +kernel
theorem dL_law_1771 : decode cL_law 1771 = .ok (.istore 5, 2) := by decide +kernel
theorem dL_law_1773 : decode cL_law 1773 = .ok (.aload_n 2, 1) := by decide +kernel
theorem dL_law_1774 : decode cL_law 1774 = .ok (.aload_n 0, 1) := by decide +kernel
theorem dL_law_1775 : decode cL_law 1775 = .ok (.iload 4, 2) := by decide +kernel
theorem dL_law_1777 : decode cL_law 1777 = .ok (.iconst 1, 1) := by decide +kernel
theorem dL_law_1778 : decode cL_law 1778 = .ok (.iadd, 1) := by decide +kernel
theorem dL_law_1779 : decode cL_law 1779 = .ok (.iaload, 1) := by decide +kernel
theorem dL_law_1780 : decode cL_law 1780 = .ok (.invokevirtual 231, 3) := by decide +kernel
theorem dL_law_1783 : decode cL_law 1783 = .ok (.istore 6, 2) := by decide +kernel
theorem dL_law_1785 : decode cL_law 1785 = .ok (.aload_n 2, 1) := by decide +kernel
theorem dL_law_1786 : decode cL_law 1786 = .ok (.invokevirtual 142, 3) := by decide +kernel
theorem dL_law_1789 : decode cL_law 1789 = .ok (.iload 5, 2) := by decide +kernel
theorem dL_law_1791 : decode cL_law 1791 = .ok (.if_icmp .eq 5, 3) := by decide +kernel
theorem dL_law_1794 : decode cL_law 1794 = .ok (.iconst 0, 1) := by decide +kernel
theorem dL_law_1795 : decode cL_law 1795 = .ok (.ireturn, 1) := by decide +kernel
theorem dL_law_1796 : decode cL_law 1796 = .ok (.iload 5, 2) := by decide +kernel
theorem dL_law_1798 : decode cL_law 1798 = .ok (.ifCond .ne 15, 3) := by decide +kernel
theorem dL_law_1801 : decode cL_law 1801 = .ok (.aload_n 3, 1) := by decide +kernel
theorem dL_law_1802 : decode cL_law 1802 = .ok (.iconst 0, 1) := by decide +kernel
theorem dL_law_1803 : decode cL_law 1803 = .ok (.laload, 1) := by decide +kernel
theorem dL_law_1804 : decode cL_law 1804 = .ok (.iload 6, 2) := by decide +kernel
theorem dL_law_1806 : decode cL_law 1806 = .ok (.i2l, 1) := by decide +kernel
theorem dL_law_1807 : decode cL_law 1807 = .ok (.lcmp, 1) := by decide +kernel
theorem dL_law_1808 : decode cL_law 1808 = .ok (.ifCond .eq 5, 3) := by decide +kernel
theorem dL_law_1811 : decode cL_law 1811 = .ok (.iconst 0, 1) := by decide +kernel
theorem dL_law_1812 : decode cL_law 1812 = .ok (.ireturn, 1) := by decide +kernel
theorem dL_law_1813 : decode cL_law 1813 = .ok (.goto 790, 3) := by decide +kernel
theorem dL_law_1816 : decode cL_law 1816 = .ok (.aload_n 1, 1) := by decide +kernel
theorem dL_law_1817 : decode cL_law 1817 = .ok (.aload_n 0, 1) := by decide +kernel
theorem dL_law_1818 : decode cL_law 1818 = .ok (.iload 4, 2) := by decide +kernel
theorem dL_law_1820 : decode cL_law 1820 = .ok (.iconst 1, 1) := by decide +kernel
theorem dL_law_1821 : decode cL_law 1821 = .ok (.iadd, 1) := by decide +kernel
theorem dL_law_1822 : decode cL_law 1822 = .ok (.iaload, 1) := by decide +kernel
theorem dL_law_1823 : decode cL_law 1823 = .ok (.aload_n 3, 1) := by decide +kernel
theorem dL_law_1824 : decode cL_law 1824 = .ok (.invokestatic 232, 3) := by decide +kernel
theorem dL_law_1827 : decode cL_law 1827 = .ok (.istore 5, 2) := by decide +kernel
theorem dL_law_1829 : decode cL_law 1829 = .ok (.aload_n 2, 1) := by decide +kernel
theorem dL_law_1830 : decode cL_law 1830 = .ok (.aload_n 0, 1) := by decide +kernel
theorem dL_law_1831 : decode cL_law 1831 = .ok (.iload 4, 2) := by decide +kernel
theorem dL_law_1833 : decode cL_law 1833 = .ok (.iconst 1, 1) := by decide +kernel
theorem dL_law_1834 : decode cL_law 1834 = .ok (.iadd, 1) := by decide +kernel
theorem dL_law_1835 : decode cL_law 1835 = .ok (.iaload, 1) := by decide +kernel
theorem dL_law_1836 : decode cL_law 1836 = .ok (.invokevirtual 234, 3) := by decide +kernel
theorem dL_law_1839 : decode cL_law 1839 = .ok (.istore 6, 2) := by decide +kernel
theorem dL_law_1841 : decode cL_law 1841 = .ok (.aload_n 2, 1) := by decide +kernel
theorem dL_law_1842 : decode cL_law 1842 = .ok (.invokevirtual 142, 3) := by decide +kernel
theorem dL_law_1845 : decode cL_law 1845 = .ok (.iload 5, 2) := by decide +kernel
theorem dL_law_1847 : decode cL_law 1847 = .ok (.if_icmp .eq 5, 3) := by decide +kernel
theorem dL_law_1850 : decode cL_law 1850 = .ok (.iconst 0, 1) := by decide +kernel
theorem dL_law_1851 : decode cL_law 1851 = .ok (.ireturn, 1) := by decide +kernel
theorem dL_law_1852 : decode cL_law 1852 = .ok (.iload 5, 2) := by decide +kernel
theorem dL_law_1854 : decode cL_law 1854 = .ok (.ifCond .ne 15, 3) := by decide +kernel
theorem dL_law_1857 : decode cL_law 1857 = .ok (.aload_n 3, 1) := by decide +kernel
theorem dL_law_1858 : decode cL_law 1858 = .ok (.iconst 0, 1) := by decide +kernel
theorem dL_law_1859 : decode cL_law 1859 = .ok (.laload, 1) := by decide +kernel
theorem dL_law_1860 : decode cL_law 1860 = .ok (.iload 6, 2) := by decide +kernel
theorem dL_law_1862 : decode cL_law 1862 = .ok (.i2l, 1) := by decide +kernel
theorem dL_law_1863 : decode cL_law 1863 = .ok (.lcmp, 1) := by decide +kernel
theorem dL_law_1864 : decode cL_law 1864 = .ok (.ifCond .eq 5, 3) := by decide +kernel
theorem dL_law_1867 : decode cL_law 1867 = .ok (.iconst 0, 1) := by decide +kernel
theorem dL_law_1868 : decode cL_law 1868 = .ok (.ireturn, 1) := by decide +kernel
theorem dL_law_1869 : decode cL_law 1869 = .ok (.goto 734, 3) := by decide +kernel
theorem dL_law_1872 : decode cL_law 1872 = .ok (.aload_n 1, 1) := by decide +kernel
theorem dL_law_1873 : decode cL_law 1873 = .ok (.aload_n 0, 1) := by decide +kernel
theorem dL_law_1874 : decode cL_law 1874 = .ok (.iload 4, 2) := by decide +kernel
theorem dL_law_1876 : decode cL_law 1876 = .ok (.iconst 1, 1) := by decide +kernel
theorem dL_law_1877 : decode cL_law 1877 = .ok (.iadd, 1) := by decide +kernel
theorem dL_law_1878 : decode cL_law 1878 = .ok (.iaload, 1) := by decide +kernel
theorem dL_law_1879 : decode cL_law 1879 = .ok (.aload_n 3, 1) := by decide +kernel
theorem dL_law_1880 : decode cL_law 1880 = .ok (.invokestatic 235, 3) := by decide +kernel
theorem dL_law_1883 : decode cL_law 1883 = .ok (.istore 5, 2) := by decide +kernel
theorem dL_law_1885 : decode cL_law 1885 = .ok (.aload_n 2, 1) := by decide +kernel
theorem dL_law_1886 : decode cL_law 1886 = .ok (.aload_n 0, 1) := by decide +kernel
theorem dL_law_1887 : decode cL_law 1887 = .ok (.iload 4, 2) := by decide +kernel
theorem dL_law_1889 : decode cL_law 1889 = .ok (.iconst 1, 1) := by decide +kernel
theorem dL_law_1890 : decode cL_law 1890 = .ok (.iadd, 1) := by decide +kernel
theorem dL_law_1891 : decode cL_law 1891 = .ok (.iaload, 1) := by decide +kernel
theorem dL_law_1892 : decode cL_law 1892 = .ok (.invokevirtual 237, 3) := by decide +kernel
theorem dL_law_1895 : decode cL_law 1895 = .ok (.istore 6, 2) := by decide +kernel
theorem dL_law_1897 : decode cL_law 1897 = .ok (.aload_n 2, 1) := by decide +kernel
theorem dL_law_1898 : decode cL_law 1898 = .ok (.invokevirtual 142, 3) := by decide +kernel
theorem dL_law_1901 : decode cL_law 1901 = .ok (.iload 5, 2) := by decide +kernel
theorem dL_law_1903 : decode cL_law 1903 = .ok (.if_icmp .eq 5, 3) := by decide +kernel
theorem dL_law_1906 : decode cL_law 1906 = .ok (.iconst 0, 1) := by decide +kernel
theorem dL_law_1907 : decode cL_law 1907 = .ok (.ireturn, 1) := by decide +kernel
theorem dL_law_1908 : decode cL_law 1908 = .ok (.iload 5, 2) := by decide +kernel
theorem dL_law_1910 : decode cL_law 1910 = .ok (.ifCond .ne 15, 3) := by decide +kernel
theorem dL_law_1913 : decode cL_law 1913 = .ok (.aload_n 3, 1) := by decide +kernel
theorem dL_law_1914 : decode cL_law 1914 = .ok (.iconst 0, 1) := by decide +kernel
theorem dL_law_1915 : decode cL_law 1915 = .ok (.laload, 1) := by decide +kernel
theorem dL_law_1916 : decode cL_law 1916 = .ok (.iload 6, 2) := by decide +kernel
theorem dL_law_1918 : decode cL_law 1918 = .ok (.i2l, 1) := by decide +kernel
theorem dL_law_1919 : decode cL_law 1919 = .ok (.lcmp, 1) := by decide +kernel
theorem dL_law_1920 : decode cL_law 1920 = .ok (.ifCond .eq 5, 3) := by decide +kernel
theorem dL_law_1923 : decode cL_law 1923 = .ok (.iconst 0, 1) := by decide +kernel
theorem dL_law_1924 : decode cL_law 1924 = .ok (.ireturn, 1) := by decide +kernel
theorem dL_law_1925 : decode cL_law 1925 = .ok (.goto 678, 3) := by decide +kernel
theorem dL_law_1928 : decode cL_law 1928 = .ok (.aload_n 1, 1) := by decide +kernel
theorem dL_law_1929 : decode cL_law 1929 = .ok (.aload_n 0, 1) := by decide +kernel
theorem dL_law_1930 : decode cL_law 1930 = .ok (.iload 4, 2) := by decide +kernel
theorem dL_law_1932 : decode cL_law 1932 = .ok (.iconst 1, 1) := by decide +kernel
theorem dL_law_1933 : decode cL_law 1933 = .ok (.iadd, 1) := by decide +kernel
theorem dL_law_1934 : decode cL_law 1934 = .ok (.iaload, 1) := by decide +kernel
theorem dL_law_1935 : decode cL_law 1935 = .ok (.aload_n 3, 1) := by decide +kernel
theorem dL_law_1936 : decode cL_law 1936 = .ok (.invokestatic 238, 3) := by decide +kernel
theorem dL_law_1939 : decode cL_law 1939 = .ok (.istore 5, 2) := by decide +kernel
theorem dL_law_1941 : decode cL_law 1941 = .ok (.aload_n 2, 1) := by decide +kernel
theorem dL_law_1942 : decode cL_law 1942 = .ok (.aload_n 0, 1) := by decide +kernel
theorem dL_law_1943 : decode cL_law 1943 = .ok (.iload 4, 2) := by decide +kernel
theorem dL_law_1945 : decode cL_law 1945 = .ok (.iconst 1, 1) := by decide +kernel
theorem dL_law_1946 : decode cL_law 1946 = .ok (.iadd, 1) := by decide +kernel
theorem dL_law_1947 : decode cL_law 1947 = .ok (.iaload, 1) := by decide +kernel
theorem dL_law_1948 : decode cL_law 1948 = .ok (.invokevirtual 240, 3) := by decide +kernel
theorem dL_law_1951 : decode cL_law 1951 = .ok (.istore 6, 2) := by decide +kernel
theorem dL_law_1953 : decode cL_law 1953 = .ok (.aload_n 2, 1) := by decide +kernel
theorem dL_law_1954 : decode cL_law 1954 = .ok (.invokevirtual 142, 3) := by decide +kernel
theorem dL_law_1957 : decode cL_law 1957 = .ok (.iload 5, 2) := by decide +kernel
theorem dL_law_1959 : decode cL_law 1959 = .ok (.if_icmp .eq 5, 3) := by decide +kernel
theorem dL_law_1962 : decode cL_law 1962 = .ok (.iconst 0, 1) := by decide +kernel
theorem dL_law_1963 : decode cL_law 1963 = .ok (.ireturn, 1) := by decide +kernel
theorem dL_law_1964 : decode cL_law 1964 = .ok (.iload 5, 2) := by decide +kernel
theorem dL_law_1966 : decode cL_law 1966 = .ok (.ifCond .ne 15, 3) := by decide +kernel
theorem dL_law_1969 : decode cL_law 1969 = .ok (.aload_n 3, 1) := by decide +kernel
theorem dL_law_1970 : decode cL_law 1970 = .ok (.iconst 0, 1) := by decide +kernel
theorem dL_law_1971 : decode cL_law 1971 = .ok (.laload, 1) := by decide +kernel
theorem dL_law_1972 : decode cL_law 1972 = .ok (.iload 6, 2) := by decide +kernel
theorem dL_law_1974 : decode cL_law 1974 = .ok (.i2l, 1) := by decide +kernel
theorem dL_law_1975 : decode cL_law 1975 = .ok (.lcmp, 1) := by decide +kernel
theorem dL_law_1976 : decode cL_law 1976 = .ok (.ifCond .eq 5, 3) := by decide +kernel
theorem dL_law_1979 : decode cL_law 1979 = .ok (.iconst 0, 1) := by decide +kernel
theorem dL_law_1980 : decode cL_law 1980 = .ok (.ireturn, 1) := by decide +kernel
theorem dL_law_1981 : decode cL_law 1981 = .ok (.goto 622, 3) := by decide +kernel
theorem dL_law_1984 : decode cL_law 1984 = .ok (.aload_n 1, 1) := by decide +kernel
theorem dL_law_1985 : decode cL_law 1985 = .ok (.aload_n 0, 1) := by decide +kernel
theorem dL_law_1986 : decode cL_law 1986 = .ok (.iload 4, 2) := by decide +kernel
theorem dL_law_1988 : decode cL_law 1988 = .ok (.iconst 1, 1) := by decide +kernel
theorem dL_law_1989 : decode cL_law 1989 = .ok (.iadd, 1) := by decide +kernel
theorem dL_law_1990 : decode cL_law 1990 = .ok (.iaload, 1) := by decide +kernel
theorem dL_law_1991 : decode cL_law 1991 = .ok (.aload_n 3, 1) := by decide +kernel
theorem dL_law_1992 : decode cL_law 1992 = .ok (.invokestatic 241, 3) := by decide +kernel
theorem dL_law_1995 : decode cL_law 1995 = .ok (.istore 5, 2) := by decide +kernel
theorem dL_law_1997 : decode cL_law 1997 = .ok (.aload_n 2, 1) := by decide +kernel
theorem dL_law_1998 : decode cL_law 1998 = .ok (.aload_n 0, 1) := by decide +kernel
theorem dL_law_1999 : decode cL_law 1999 = .ok (.iload 4, 2) := by decide +kernel
theorem dL_law_2001 : decode cL_law 2001 = .ok (.iconst 1, 1) := by decide +kernel
theorem dL_law_2002 : decode cL_law 2002 = .ok (.iadd, 1) := by decide +kernel
theorem dL_law_2003 : decode cL_law 2003 = .ok (.iaload, 1) := by decide +kernel
theorem dL_law_2004 : decode cL_law 2004 = .ok (.invokevirtual 243, 3) := by decide +kernel
theorem dL_law_2007 : decode cL_law 2007 = .ok (.istore 6, 2) := by decide +kernel
theorem dL_law_2009 : decode cL_law 2009 = .ok (.aload_n 2, 1) := by decide +kernel
theorem dL_law_2010 : decode cL_law 2010 = .ok (.invokevirtual 142, 3) := by decide +kernel
theorem dL_law_2013 : decode cL_law 2013 = .ok (.iload 5, 2) := by decide +kernel
theorem dL_law_2015 : decode cL_law 2015 = .ok (.if_icmp .eq 5, 3) := by decide +kernel
theorem dL_law_2018 : decode cL_law 2018 = .ok (.iconst 0, 1) := by decide +kernel
theorem dL_law_2019 : decode cL_law 2019 = .ok (.ireturn, 1) := by decide +kernel
theorem dL_law_2020 : decode cL_law 2020 = .ok (.iload 5, 2) := by decide +kernel
theorem dL_law_2022 : decode cL_law 2022 = .ok (.ifCond .ne 15, 3) := by decide +kernel
theorem dL_law_2025 : decode cL_law 2025 = .ok (.aload_n 3, 1) := by decide +kernel
theorem dL_law_2026 : decode cL_law 2026 = .ok (.iconst 0, 1) := by decide +kernel
theorem dL_law_2027 : decode cL_law 2027 = .ok (.laload, 1) := by decide +kernel
theorem dL_law_2028 : decode cL_law 2028 = .ok (.iload 6, 2) := by decide +kernel
theorem dL_law_2030 : decode cL_law 2030 = .ok (.i2l, 1) := by decide +kernel
theorem dL_law_2031 : decode cL_law 2031 = .ok (.lcmp, 1) := by decide +kernel
theorem dL_law_2032 : decode cL_law 2032 = .ok (.ifCond .eq 5, 3) := by decide +kernel
theorem dL_law_2035 : decode cL_law 2035 = .ok (.iconst 0, 1) := by decide +kernel
theorem dL_law_2036 : decode cL_law 2036 = .ok (.ireturn, 1) := by decide +kernel
theorem dL_law_2037 : decode cL_law 2037 = .ok (.goto 566, 3) := by decide +kernel
theorem dL_law_2040 : decode cL_law 2040 = .ok (.aload_n 1, 1) := by decide +kernel
theorem dL_law_2041 : decode cL_law 2041 = .ok (.aload_n 0, 1) := by decide +kernel
theorem dL_law_2042 : decode cL_law 2042 = .ok (.iload 4, 2) := by decide +kernel
theorem dL_law_2044 : decode cL_law 2044 = .ok (.iconst 1, 1) := by decide +kernel
theorem dL_law_2045 : decode cL_law 2045 = .ok (.iadd, 1) := by decide +kernel
theorem dL_law_2046 : decode cL_law 2046 = .ok (.iaload, 1) := by decide +kernel
theorem dL_law_2047 : decode cL_law 2047 = .ok (.aload_n 3, 1) := by decide +kernel
theorem dL_law_2048 : decode cL_law 2048 = .ok (.invokestatic 244, 3) := by decide +kernel
theorem dL_law_2051 : decode cL_law 2051 = .ok (.istore 5, 2) := by decide +kernel
theorem dL_law_2053 : decode cL_law 2053 = .ok (.aload_n 2, 1) := by decide +kernel
theorem dL_law_2054 : decode cL_law 2054 = .ok (.aload_n 0, 1) := by decide +kernel
theorem dL_law_2055 : decode cL_law 2055 = .ok (.iload 4, 2) := by decide +kernel
theorem dL_law_2057 : decode cL_law 2057 = .ok (.iconst 1, 1) := by decide +kernel
theorem dL_law_2058 : decode cL_law 2058 = .ok (.iadd, 1) := by decide +kernel
theorem dL_law_2059 : decode cL_law 2059 = .ok (.iaload, 1) := by decide +kernel
theorem dL_law_2060 : decode cL_law 2060 = .ok (.invokevirtual 246, 3) := by decide +kernel
theorem dL_law_2063 : decode cL_law 2063 = .ok (.istore 6, 2) := by decide +kernel
theorem dL_law_2065 : decode cL_law 2065 = .ok (.aload_n 2, 1) := by decide +kernel
theorem dL_law_2066 : decode cL_law 2066 = .ok (.invokevirtual 142, 3) := by decide +kernel
theorem dL_law_2069 : decode cL_law 2069 = .ok (.iload 5, 2) := by decide +kernel
theorem dL_law_2071 : decode cL_law 2071 = .ok (.if_icmp .eq 5, 3) := by decide +kernel
theorem dL_law_2074 : decode cL_law 2074 = .ok (.iconst 0, 1) := by decide +kernel
theorem dL_law_2075 : decode cL_law 2075 = .ok (.ireturn, 1) := by decide +kernel
theorem dL_law_2076 : decode cL_law 2076 = .ok (.iload 5, 2) := by decide +kernel
theorem dL_law_2078 : decode cL_law 2078 = .ok (.ifCond .ne 15, 3) := by decide +kernel
theorem dL_law_2081 : decode cL_law 2081 = .ok (.aload_n 3, 1) := by decide +kernel
theorem dL_law_2082 : decode cL_law 2082 = .ok (.iconst 0, 1) := by decide +kernel
theorem dL_law_2083 : decode cL_law 2083 = .ok (.laload, 1) := by decide +kernel
theorem dL_law_2084 : decode cL_law 2084 = .ok (.iload 6, 2) := by decide +kernel
theorem dL_law_2086 : decode cL_law 2086 = .ok (.i2l, 1) := by decide +kernel
theorem dL_law_2087 : decode cL_law 2087 = .ok (.lcmp, 1) := by decide +kernel
theorem dL_law_2088 : decode cL_law 2088 = .ok (.ifCond .eq 5, 3) := by decide +kernel
theorem dL_law_2091 : decode cL_law 2091 = .ok (.iconst 0, 1) := by decide +kernel
theorem dL_law_2092 : decode cL_law 2092 = .ok (.ireturn, 1) := by decide +kernel
theorem dL_law_2093 : decode cL_law 2093 = .ok (.goto 510, 3) := by decide +kernel
theorem dL_law_2096 : decode cL_law 2096 = .ok (.aload_n 1, 1) := by decide +kernel
theorem dL_law_2097 : decode cL_law 2097 = .ok (.aload_n 0, 1) := by decide +kernel
theorem dL_law_2098 : decode cL_law 2098 = .ok (.iload 4, 2) := by decide +kernel
theorem dL_law_2100 : decode cL_law 2100 = .ok (.iconst 1, 1) := by decide +kernel
theorem dL_law_2101 : decode cL_law 2101 = .ok (.iadd, 1) := by decide +kernel
theorem dL_law_2102 : decode cL_law 2102 = .ok (.iaload, 1) := by decide +kernel
theorem dL_law_2103 : decode cL_law 2103 = .ok (.aload_n 3, 1) := by decide +kernel
theorem dL_law_2104 : decode cL_law 2104 = .ok (.invokestatic 247, 3) := by decide +kernel
theorem dL_law_2107 : decode cL_law 2107 = .ok (.istore 5, 2) := by decide +kernel
theorem dL_law_2109 : decode cL_law 2109 = .ok (.aload_n 2, 1) := by decide +kernel
theorem dL_law_2110 : decode cL_law 2110 = .ok (.aload_n 0, 1) := by decide +kernel
theorem dL_law_2111 : decode cL_law 2111 = .ok (.iload 4, 2) := by decide +kernel
theorem dL_law_2113 : decode cL_law 2113 = .ok (.iconst 1, 1) := by decide +kernel
theorem dL_law_2114 : decode cL_law 2114 = .ok (.iadd, 1) := by decide +kernel
theorem dL_law_2115 : decode cL_law 2115 = .ok (.iaload, 1) := by decide +kernel
theorem dL_law_2116 : decode cL_law 2116 = .ok (.invokevirtual 249, 3) := by decide +kernel
theorem dL_law_2119 : decode cL_law 2119 = .ok (.istore 6, 2) := by decide +kernel
theorem dL_law_2121 : decode cL_law 2121 = .ok (.aload_n 2, 1) := by decide +kernel
theorem dL_law_2122 : decode cL_law 2122 = .ok (.invokevirtual 142, 3) := by decide +kernel
theorem dL_law_2125 : decode cL_law 2125 = .ok (.iload 5, 2) := by decide +kernel
theorem dL_law_2127 : decode cL_law 2127 = .ok (.if_icmp .eq 5, 3) := by decide +kernel
theorem dL_law_2130 : decode cL_law 2130 = .ok (.iconst 0, 1) := by decide +kernel
theorem dL_law_2131 : decode cL_law 2131 = .ok (.ireturn, 1) := by decide +kernel
theorem dL_law_2132 : decode cL_law 2132 = .ok (.iload 5, 2) := by decide +kernel
theorem dL_law_2134 : decode cL_law 2134 = .ok (.ifCond .ne 15, 3) := by decide +kernel
theorem dL_law_2137 : decode cL_law 2137 = .ok (.aload_n 3, 1) := by decide +kernel
theorem dL_law_2138 : decode cL_law 2138 = .ok (.iconst 0, 1) := by decide +kernel
theorem dL_law_2139 : decode cL_law 2139 = .ok (.laload, 1) := by decide +kernel
theorem dL_law_2140 : decode cL_law 2140 = .ok (.iload 6, 2) := by decide +kernel
theorem dL_law_2142 : decode cL_law 2142 = .ok (.i2l, 1) := by decide +kernel
theorem dL_law_2143 : decode cL_law 2143 = .ok (.lcmp, 1) := by decide +kernel
theorem dL_law_2144 : decode cL_law 2144 = .ok (.ifCond .eq 5, 3) := by decide +kernel
theorem dL_law_2147 : decode cL_law 2147 = .ok (.iconst 0, 1) := by decide +kernel
theorem dL_law_2148 : decode cL_law 2148 = .ok (.ireturn, 1) := by decide +kernel
theorem dL_law_2149 : decode cL_law 2149 = .ok (.goto 454, 3) := by decide +kernel
theorem dL_law_2152 : decode cL_law 2152 = .ok (.aload_n 1, 1) := by decide +kernel
theorem dL_law_2153 : decode cL_law 2153 = .ok (.aload_n 0, 1) := by decide +kernel
theorem dL_law_2154 : decode cL_law 2154 = .ok (.iload 4, 2) := by decide +kernel
theorem dL_law_2156 : decode cL_law 2156 = .ok (.iconst 1, 1) := by decide +kernel
theorem dL_law_2157 : decode cL_law 2157 = .ok (.iadd, 1) := by decide +kernel
theorem dL_law_2158 : decode cL_law 2158 = .ok (.iaload, 1) := by decide +kernel
theorem dL_law_2159 : decode cL_law 2159 = .ok (.aload_n 3, 1) := by decide +kernel
theorem dL_law_2160 : decode cL_law 2160 = .ok (.invokestatic 250, 3) := by decide +kernel
theorem dL_law_2163 : decode cL_law 2163 = .ok (.istore 5, 2) := by decide +kernel
theorem dL_law_2165 : decode cL_law 2165 = .ok (.aload_n 2, 1) := by decide +kernel
theorem dL_law_2166 : decode cL_law 2166 = .ok (.aload_n 0, 1) := by decide +kernel
theorem dL_law_2167 : decode cL_law 2167 = .ok (.iload 4, 2) := by decide +kernel
theorem dL_law_2169 : decode cL_law 2169 = .ok (.iconst 1, 1) := by decide +kernel
theorem dL_law_2170 : decode cL_law 2170 = .ok (.iadd, 1) := by decide +kernel
theorem dL_law_2171 : decode cL_law 2171 = .ok (.iaload, 1) := by decide +kernel
theorem dL_law_2172 : decode cL_law 2172 = .ok (.invokevirtual 252, 3) := by decide +kernel
theorem dL_law_2175 : decode cL_law 2175 = .ok (.lstore 6, 2) := by decide +kernel
theorem dL_law_2177 : decode cL_law 2177 = .ok (.aload_n 2, 1) := by decide +kernel
theorem dL_law_2178 : decode cL_law 2178 = .ok (.invokevirtual 142, 3) := by decide +kernel
theorem dL_law_2181 : decode cL_law 2181 = .ok (.iload 5, 2) := by decide +kernel
theorem dL_law_2183 : decode cL_law 2183 = .ok (.if_icmp .eq 5, 3) := by decide +kernel
theorem dL_law_2186 : decode cL_law 2186 = .ok (.iconst 0, 1) := by decide +kernel
theorem dL_law_2187 : decode cL_law 2187 = .ok (.ireturn, 1) := by decide +kernel
theorem dL_law_2188 : decode cL_law 2188 = .ok (.iload 5, 2) := by decide +kernel
theorem dL_law_2190 : decode cL_law 2190 = .ok (.ifCond .ne 14, 3) := by decide +kernel
theorem dL_law_2193 : decode cL_law 2193 = .ok (.aload_n 3, 1) := by decide +kernel
theorem dL_law_2194 : decode cL_law 2194 = .ok (.iconst 0, 1) := by decide +kernel
theorem dL_law_2195 : decode cL_law 2195 = .ok (.laload, 1) := by decide +kernel
theorem dL_law_2196 : decode cL_law 2196 = .ok (.lload 6, 2) := by decide +kernel
theorem dL_law_2198 : decode cL_law 2198 = .ok (.lcmp, 1) := by decide +kernel
theorem dL_law_2199 : decode cL_law 2199 = .ok (.ifCond .eq 5, 3) := by decide +kernel
theorem dL_law_2202 : decode cL_law 2202 = .ok (.iconst 0, 1) := by decide +kernel
theorem dL_law_2203 : decode cL_law 2203 = .ok (.ireturn, 1) := by decide +kernel
theorem dL_law_2204 : decode cL_law 2204 = .ok (.goto 399, 3) := by decide +kernel
theorem dL_law_2207 : decode cL_law 2207 = .ok (.aload_n 1, 1) := by decide +kernel
theorem dL_law_2208 : decode cL_law 2208 = .ok (.aload_n 0, 1) := by decide +kernel
theorem dL_law_2209 : decode cL_law 2209 = .ok (.iload 4, 2) := by decide +kernel
theorem dL_law_2211 : decode cL_law 2211 = .ok (.iconst 1, 1) := by decide +kernel
theorem dL_law_2212 : decode cL_law 2212 = .ok (.iadd, 1) := by decide +kernel
theorem dL_law_2213 : decode cL_law 2213 = .ok (.iaload, 1) := by decide +kernel
theorem dL_law_2214 : decode cL_law 2214 = .ok (.aload_n 3, 1) := by decide +kernel
theorem dL_law_2215 : decode cL_law 2215 = .ok (.invokestatic 253, 3) := by decide +kernel
theorem dL_law_2218 : decode cL_law 2218 = .ok (.istore 5, 2) := by decide +kernel
theorem dL_law_2220 : decode cL_law 2220 = .ok (.aload_n 2, 1) := by decide +kernel
theorem dL_law_2221 : decode cL_law 2221 = .ok (.aload_n 0, 1) := by decide +kernel
theorem dL_law_2222 : decode cL_law 2222 = .ok (.iload 4, 2) := by decide +kernel
theorem dL_law_2224 : decode cL_law 2224 = .ok (.iconst 1, 1) := by decide +kernel
theorem dL_law_2225 : decode cL_law 2225 = .ok (.iadd, 1) := by decide +kernel
theorem dL_law_2226 : decode cL_law 2226 = .ok (.iaload, 1) := by decide +kernel
theorem dL_law_2227 : decode cL_law 2227 = .ok (.invokevirtual 255, 3) := by decide +kernel
theorem dL_law_2230 : decode cL_law 2230 = .ok (.lstore 6, 2) := by decide +kernel
theorem dL_law_2232 : decode cL_law 2232 = .ok (.aload_n 2, 1) := by decide +kernel
theorem dL_law_2233 : decode cL_law 2233 = .ok (.invokevirtual 142, 3) := by decide +kernel
theorem dL_law_2236 : decode cL_law 2236 = .ok (.iload 5, 2) := by decide +kernel
theorem dL_law_2238 : decode cL_law 2238 = .ok (.if_icmp .eq 5, 3) := by decide +kernel
theorem dL_law_2241 : decode cL_law 2241 = .ok (.iconst 0, 1) := by decide +kernel
theorem dL_law_2242 : decode cL_law 2242 = .ok (.ireturn, 1) := by decide +kernel
theorem dL_law_2243 : decode cL_law 2243 = .ok (.iload 5, 2) := by decide +kernel
theorem dL_law_2245 : decode cL_law 2245 = .ok (.ifCond .ne 14, 3) := by decide +kernel
theorem dL_law_2248 : decode cL_law 2248 = .ok (.aload_n 3, 1) := by decide +kernel
theorem dL_law_2249 : decode cL_law 2249 = .ok (.iconst 0, 1) := by decide +kernel
theorem dL_law_2250 : decode cL_law 2250 = .ok (.laload, 1) := by decide +kernel
theorem dL_law_2251 : decode cL_law 2251 = .ok (.lload 6, 2) := by decide +kernel
theorem dL_law_2253 : decode cL_law 2253 = .ok (.lcmp, 1) := by decide +kernel
theorem dL_law_2254 : decode cL_law 2254 = .ok (.ifCond .eq 5, 3) := by decide +kernel
theorem dL_law_2257 : decode cL_law 2257 = .ok (.iconst 0, 1) := by decide +kernel
theorem dL_law_2258 : decode cL_law 2258 = .ok (.ireturn, 1) := by decide +kernel
theorem dL_law_2259 : decode cL_law 2259 = .ok (.goto 344, 3) := by decide +kernel
theorem dL_law_2262 : decode cL_law 2262 = .ok (.aload_n 1, 1) := by decide +kernel
theorem dL_law_2263 : decode cL_law 2263 = .ok (.aload_n 0, 1) := by decide +kernel
theorem dL_law_2264 : decode cL_law 2264 = .ok (.iload 4, 2) := by decide +kernel
theorem dL_law_2266 : decode cL_law 2266 = .ok (.iconst 1, 1) := by decide +kernel
theorem dL_law_2267 : decode cL_law 2267 = .ok (.iadd, 1) := by decide +kernel
theorem dL_law_2268 : decode cL_law 2268 = .ok (.iaload, 1) := by decide +kernel
theorem dL_law_2269 : decode cL_law 2269 = .ok (.aload_n 0, 1) := by decide +kernel
theorem dL_law_2270 : decode cL_law 2270 = .ok (.iload 4, 2) := by decide +kernel
theorem dL_law_2272 : decode cL_law 2272 = .ok (.iconst 2, 1) := by decide +kernel
theorem dL_law_2273 : decode cL_law 2273 = .ok (.iadd, 1) := by decide +kernel
theorem dL_law_2274 : decode cL_law 2274 = .ok (.iaload, 1) := by decide +kernel
theorem dL_law_2275 : decode cL_law 2275 = .ok (.aload_n 3, 1) := by decide +kernel
theorem dL_law_2276 : decode cL_law 2276 = .ok (.invokestatic 256, 3) := by decide +kernel
theorem dL_law_2279 : decode cL_law 2279 = .ok (.istore 5, 2) := by decide +kernel
theorem dL_law_2281 : decode cL_law 2281 = .ok (.aload_n 2, 1) := by decide +kernel
theorem dL_law_2282 : decode cL_law 2282 = .ok (.aload_n 0, 1) := by decide +kernel
theorem dL_law_2283 : decode cL_law 2283 = .ok (.iload 4, 2) := by decide +kernel
theorem dL_law_2285 : decode cL_law 2285 = .ok (.iconst 1, 1) := by decide +kernel
theorem dL_law_2286 : decode cL_law 2286 = .ok (.iadd, 1) := by decide +kernel
theorem dL_law_2287 : decode cL_law 2287 = .ok (.iaload, 1) := by decide +kernel
theorem dL_law_2288 : decode cL_law 2288 = .ok (.aload_n 0, 1) := by decide +kernel
theorem dL_law_2289 : decode cL_law 2289 = .ok (.iload 4, 2) := by decide +kernel
theorem dL_law_2291 : decode cL_law 2291 = .ok (.iconst 2, 1) := by decide +kernel
theorem dL_law_2292 : decode cL_law 2292 = .ok (.iadd, 1) := by decide +kernel
theorem dL_law_2293 : decode cL_law 2293 = .ok (.iaload, 1) := by decide +kernel
theorem dL_law_2294 : decode cL_law 2294 = .ok (.invokevirtual 258, 3) := by decide +kernel
theorem dL_law_2297 : decode cL_law 2297 = .ok (.lstore 6, 2) := by decide +kernel
theorem dL_law_2299 : decode cL_law 2299 = .ok (.aload_n 2, 1) := by decide +kernel
theorem dL_law_2300 : decode cL_law 2300 = .ok (.invokevirtual 142, 3) := by decide +kernel
theorem dL_law_2303 : decode cL_law 2303 = .ok (.iload 5, 2) := by decide +kernel
theorem dL_law_2305 : decode cL_law 2305 = .ok (.if_icmp .eq 5, 3) := by decide +kernel
theorem dL_law_2308 : decode cL_law 2308 = .ok (.iconst 0, 1) := by decide +kernel
theorem dL_law_2309 : decode cL_law 2309 = .ok (.ireturn, 1) := by decide +kernel
theorem dL_law_2310 : decode cL_law 2310 = .ok (.iload 5, 2) := by decide +kernel
theorem dL_law_2312 : decode cL_law 2312 = .ok (.ifCond .ne 14, 3) := by decide +kernel
theorem dL_law_2315 : decode cL_law 2315 = .ok (.aload_n 3, 1) := by decide +kernel
theorem dL_law_2316 : decode cL_law 2316 = .ok (.iconst 0, 1) := by decide +kernel
theorem dL_law_2317 : decode cL_law 2317 = .ok (.laload, 1) := by decide +kernel
theorem dL_law_2318 : decode cL_law 2318 = .ok (.lload 6, 2) := by decide +kernel
theorem dL_law_2320 : decode cL_law 2320 = .ok (.lcmp, 1) := by decide +kernel
theorem dL_law_2321 : decode cL_law 2321 = .ok (.ifCond .eq 5, 3) := by decide +kernel
theorem dL_law_2324 : decode cL_law 2324 = .ok (.iconst 0, 1) := by decide +kernel
theorem dL_law_2325 : decode cL_law 2325 = .ok (.ireturn, 1) := by decide +kernel
theorem dL_law_2326 : decode cL_law 2326 = .ok (.goto 277, 3) := by decide +kernel
theorem dL_law_2329 : decode cL_law 2329 = .ok (.aload_n 1, 1) := by decide +kernel
theorem dL_law_2330 : decode cL_law 2330 = .ok (.aload_n 0, 1) := by decide +kernel
theorem dL_law_2331 : decode cL_law 2331 = .ok (.iload 4, 2) := by decide +kernel
theorem dL_law_2333 : decode cL_law 2333 = .ok (.iconst 1, 1) := by decide +kernel
theorem dL_law_2334 : decode cL_law 2334 = .ok (.iadd, 1) := by decide +kernel
theorem dL_law_2335 : decode cL_law 2335 = .ok (.iaload, 1) := by decide +kernel
theorem dL_law_2336 : decode cL_law 2336 = .ok (.invokevirtual 259, 3) := by decide +kernel
theorem dL_law_2339 : decode cL_law 2339 = .ok (.aload_n 2, 1) := by decide +kernel
theorem dL_law_2340 : decode cL_law 2340 = .ok (.aload_n 0, 1) := by decide +kernel
theorem dL_law_2341 : decode cL_law 2341 = .ok (.iload 4, 2) := by decide +kernel
theorem dL_law_2343 : decode cL_law 2343 = .ok (.iconst 1, 1) := by decide +kernel
theorem dL_law_2344 : decode cL_law 2344 = .ok (.iadd, 1) := by decide +kernel
theorem dL_law_2345 : decode cL_law 2345 = .ok (.iaload, 1) := by decide +kernel
theorem dL_law_2346 : decode cL_law 2346 = .ok (.invokevirtual 262, 3) := by decide +kernel
theorem dL_law_2349 : decode cL_law 2349 = .ok (.if_icmp .eq 254, 3) := by decide +kernel
theorem dL_law_2352 : decode cL_law 2352 = .ok (.iconst 0, 1) := by decide +kernel
theorem dL_law_2353 : decode cL_law 2353 = .ok (.ireturn, 1) := by decide +kernel
theorem dL_law_2354 : decode cL_law 2354 = .ok (.aload_n 1, 1) := by decide +kernel
theorem dL_law_2355 : decode cL_law 2355 = .ok (.invokevirtual 263, 3) := by decide +kernel
theorem dL_law_2358 : decode cL_law 2358 = .ok (.aload_n 2, 1) := by decide +kernel
theorem dL_law_2359 : decode cL_law 2359 = .ok (.invokevirtual 266, 3) := by decide +kernel
theorem dL_law_2362 : decode cL_law 2362 = .ok (.if_icmp .eq 241, 3) := by decide +kernel
theorem dL_law_2365 : decode cL_law 2365 = .ok (.iconst 0, 1) := by decide +kernel
theorem dL_law_2366 : decode cL_law 2366 = .ok (.ireturn, 1) := by decide +kernel
theorem dL_law_2367 : decode cL_law 2367 = .ok (.aload_n 1, 1) := by decide +kernel
theorem dL_law_2368 : decode cL_law 2368 = .ok (.invokevirtual 267, 3) := by decide +kernel
theorem dL_law_2371 : decode cL_law 2371 = .ok (.aload_n 2, 1) := by decide +kernel
theorem dL_law_2372 : decode cL_law 2372 = .ok (.invokevirtual 270, 3) := by decide +kernel
theorem dL_law_2375 : decode cL_law 2375 = .ok (.if_icmp .eq 228, 3) := by decide +kernel
theorem dL_law_2378 : decode cL_law 2378 = .ok (.iconst 0, 1) := by decide +kernel
theorem dL_law_2379 : decode cL_law 2379 = .ok (.ireturn, 1) := by decide +kernel
theorem dL_law_2380 : decode cL_law 2380 = .ok (.aload_n 1, 1) := by decide +kernel
theorem dL_law_2381 : decode cL_law 2381 = .ok (.aload_n 0, 1) := by decide +kernel
theorem dL_law_2382 : decode cL_law 2382 = .ok (.iload 4, 2) := by decide +kernel
theorem dL_law_2384 : decode cL_law 2384 = .ok (.iconst 1, 1) := by decide +kernel
theorem dL_law_2385 : decode cL_law 2385 = .ok (.iadd, 1) := by decide +kernel
theorem dL_law_2386 : decode cL_law 2386 = .ok (.iaload, 1) := by decide +kernel
theorem dL_law_2387 : decode cL_law 2387 = .ok (.aload_n 3, 1) := by decide +kernel
theorem dL_law_2388 : decode cL_law 2388 = .ok (.invokestatic 271, 3) := by decide +kernel
theorem dL_law_2391 : decode cL_law 2391 = .ok (.istore 5, 2) := by decide +kernel
theorem dL_law_2393 : decode cL_law 2393 = .ok (.aload_n 2, 1) := by decide +kernel
theorem dL_law_2394 : decode cL_law 2394 = .ok (.aload_n 0, 1) := by decide +kernel
theorem dL_law_2395 : decode cL_law 2395 = .ok (.iload 4, 2) := by decide +kernel
theorem dL_law_2397 : decode cL_law 2397 = .ok (.iconst 1, 1) := by decide +kernel
theorem dL_law_2398 : decode cL_law 2398 = .ok (.iadd, 1) := by decide +kernel
theorem dL_law_2399 : decode cL_law 2399 = .ok (.iaload, 1) := by decide +kernel
theorem dL_law_2400 : decode cL_law 2400 = .ok (.invokevirtual 273, 3) := by decide +kernel
theorem dL_law_2403 : decode cL_law 2403 = .ok (.istore 6, 2) := by decide +kernel
theorem dL_law_2405 : decode cL_law 2405 = .ok (.aload_n 2, 1) := by decide +kernel
theorem dL_law_2406 : decode cL_law 2406 = .ok (.invokevirtual 142, 3) := by decide +kernel
theorem dL_law_2409 : decode cL_law 2409 = .ok (.iload 5, 2) := by decide +kernel
theorem dL_law_2411 : decode cL_law 2411 = .ok (.if_icmp .eq 5, 3) := by decide +kernel
theorem dL_law_2414 : decode cL_law 2414 = .ok (.iconst 0, 1) := by decide +kernel
theorem dL_law_2415 : decode cL_law 2415 = .ok (.ireturn, 1) := by decide +kernel
theorem dL_law_2416 : decode cL_law 2416 = .ok (.iload 5, 2) := by decide +kernel
theorem dL_law_2418 : decode cL_law 2418 = .ok (.ifCond .ne 15, 3) := by decide +kernel
theorem dL_law_2421 : decode cL_law 2421 = .ok (.aload_n 3, 1) := by decide +kernel
theorem dL_law_2422 : decode cL_law 2422 = .ok (.iconst 0, 1) := by decide +kernel
theorem dL_law_2423 : decode cL_law 2423 = .ok (.laload, 1) := by decide +kernel
theorem dL_law_2424 : decode cL_law 2424 = .ok (.iload 6, 2) := by decide +kernel
theorem dL_law_2426 : decode cL_law 2426 = .ok (.i2l, 1) := by decide +kernel
theorem dL_law_2427 : decode cL_law 2427 = .ok (.lcmp, 1) := by decide +kernel
theorem dL_law_2428 : decode cL_law 2428 = .ok (.ifCond .eq 5, 3) := by decide +kernel
theorem dL_law_2431 : decode cL_law 2431 = .ok (.iconst 0, 1) := by decide +kernel
theorem dL_law_2432 : decode cL_law 2432 = .ok (.ireturn, 1) := by decide +kernel
theorem dL_law_2433 : decode cL_law 2433 = .ok (.goto 170, 3) := by decide +kernel
theorem dL_law_2436 : decode cL_law 2436 = .ok (.aload_n 1, 1) := by decide +kernel
theorem dL_law_2437 : decode cL_law 2437 = .ok (.aload_n 0, 1) := by decide +kernel
theorem dL_law_2438 : decode cL_law 2438 = .ok (.iload 4, 2) := by decide +kernel
theorem dL_law_2440 : decode cL_law 2440 = .ok (.iconst 1, 1) := by decide +kernel
theorem dL_law_2441 : decode cL_law 2441 = .ok (.iadd, 1) := by decide +kernel
theorem dL_law_2442 : decode cL_law 2442 = .ok (.iaload, 1) := by decide +kernel
theorem dL_law_2443 : decode cL_law 2443 = .ok (.aload_n 3, 1) := by decide +kernel
theorem dL_law_2444 : decode cL_law 2444 = .ok (.invokestatic 274, 3) := by decide +kernel
theorem dL_law_2447 : decode cL_law 2447 = .ok (.istore 5, 2) := by decide +kernel
theorem dL_law_2449 : decode cL_law 2449 = .ok (.aload_n 2, 1) := by decide +kernel
theorem dL_law_2450 : decode cL_law 2450 = .ok (.aload_n 0, 1) := by decide +kernel
theorem dL_law_2451 : decode cL_law 2451 = .ok (.iload 4, 2) := by decide +kernel
theorem dL_law_2453 : decode cL_law 2453 = .ok (.iconst 1, 1) := by decide +kernel
theorem dL_law_2454 : decode cL_law 2454 = .ok (.iadd, 1) := by decide +kernel
theorem dL_law_2455 : decode cL_law 2455 = .ok (.iaload, 1) := by decide +kernel
theorem dL_law_2456 : decode cL_law 2456 = .ok (.invokevirtual 276, 3) := by decide +kernel
theorem dL_law_2459 : decode cL_law 2459 = .ok (.istore 6, 2) := by decide +kernel
theorem dL_law_2461 : decode cL_law 2461 = .ok (.aload_n 2, 1) := by decide +kernel
theorem dL_law_2462 : decode cL_law 2462 = .ok (.invokevirtual 142, 3) := by decide +kernel
theorem dL_law_2465 : decode cL_law 2465 = .ok (.iload 5, 2) := by decide +kernel
theorem dL_law_2467 : decode cL_law 2467 = .ok (.if_icmp .eq 5, 3) := by decide +kernel
theorem dL_law_2470 : decode cL_law 2470 = .ok (.iconst 0, 1) := by decide +kernel
theorem dL_law_2471 : decode cL_law 2471 = .ok (.ireturn, 1) := by decide +kernel
theorem dL_law_2472 : decode cL_law 2472 = .ok (.iload 5, 2) := by decide +kernel
theorem dL_law_2474 : decode cL_law 2474 = .ok (.ifCond .ne 15, 3) := by decide +kernel
theorem dL_law_2477 : decode cL_law 2477 = .ok (.aload_n 3, 1) := by decide +kernel
theorem dL_law_2478 : decode cL_law 2478 = .ok (.iconst 0, 1) := by decide +kernel
theorem dL_law_2479 : decode cL_law 2479 = .ok (.laload, 1) := by decide +kernel
theorem dL_law_2480 : decode cL_law 2480 = .ok (.iload 6, 2) := by decide +kernel
theorem dL_law_2482 : decode cL_law 2482 = .ok (.i2l, 1) := by decide +kernel
theorem dL_law_2483 : decode cL_law 2483 = .ok (.lcmp, 1) := by decide +kernel
theorem dL_law_2484 : decode cL_law 2484 = .ok (.ifCond .eq 5, 3) := by decide +kernel
theorem dL_law_2487 : decode cL_law 2487 = .ok (.iconst 0, 1) := by decide +kernel
theorem dL_law_2488 : decode cL_law 2488 = .ok (.ireturn, 1) := by decide +kernel
theorem dL_law_2489 : decode cL_law 2489 = .ok (.goto 114, 3) := by decide +kernel
theorem dL_law_2492 : decode cL_law 2492 = .ok (.aload_n 1, 1) := by decide +kernel
theorem dL_law_2493 : decode cL_law 2493 = .ok (.invokevirtual 277, 3) := by decide +kernel
theorem dL_law_2496 : decode cL_law 2496 = .ok (.aload_n 2, 1) := by decide +kernel
theorem dL_law_2497 : decode cL_law 2497 = .ok (.invokevirtual 280, 3) := by decide +kernel
theorem dL_law_2500 : decode cL_law 2500 = .ok (.if_icmp .eq 103, 3) := by decide +kernel
theorem dL_law_2503 : decode cL_law 2503 = .ok (.iconst 0, 1) := by decide +kernel
theorem dL_law_2504 : decode cL_law 2504 = .ok (.ireturn, 1) := by decide +kernel
theorem dL_law_2505 : decode cL_law 2505 = .ok (.aload_n 1, 1) := by decide +kernel
theorem dL_law_2506 : decode cL_law 2506 = .ok (.invokevirtual 281, 3) := by decide +kernel
theorem dL_law_2509 : decode cL_law 2509 = .ok (.aload_n 2, 1) := by decide +kernel
theorem dL_law_2510 : decode cL_law 2510 = .ok (.invokevirtual 284, 3) := by decide +kernel
theorem dL_law_2513 : decode cL_law 2513 = .ok (.if_icmp .eq 90, 3) := by decide +kernel
theorem dL_law_2516 : decode cL_law 2516 = .ok (.iconst 0, 1) := by decide +kernel
theorem dL_law_2517 : decode cL_law 2517 = .ok (.ireturn, 1) := by decide +kernel
theorem dL_law_2518 : decode cL_law 2518 = .ok (.aload_n 1, 1) := by decide +kernel
theorem dL_law_2519 : decode cL_law 2519 = .ok (.invokevirtual 285, 3) := by decide +kernel
theorem dL_law_2522 : decode cL_law 2522 = .ok (.aload_n 2, 1) := by decide +kernel
theorem dL_law_2523 : decode cL_law 2523 = .ok (.invokevirtual 288, 3) := by decide +kernel
theorem dL_law_2526 : decode cL_law 2526 = .ok (.if_icmp .eq 77, 3) := by decide +kernel
theorem dL_law_2529 : decode cL_law 2529 = .ok (.iconst 0, 1) := by decide +kernel
theorem dL_law_2530 : decode cL_law 2530 = .ok (.ireturn, 1) := by decide +kernel
theorem dL_law_2531 : decode cL_law 2531 = .ok (.aload_n 1, 1) := by decide +kernel
theorem dL_law_2532 : decode cL_law 2532 = .ok (.aload_n 0, 1) := by decide +kernel
theorem dL_law_2533 : decode cL_law 2533 = .ok (.iload 4, 2) := by decide +kernel
theorem dL_law_2535 : decode cL_law 2535 = .ok (.iconst 1, 1) := by decide +kernel
theorem dL_law_2536 : decode cL_law 2536 = .ok (.iadd, 1) := by decide +kernel
theorem dL_law_2537 : decode cL_law 2537 = .ok (.iaload, 1) := by decide +kernel
theorem dL_law_2538 : decode cL_law 2538 = .ok (.invokestatic 289, 3) := by decide +kernel
theorem dL_law_2541 : decode cL_law 2541 = .ok (.istore 5, 2) := by decide +kernel
theorem dL_law_2543 : decode cL_law 2543 = .ok (.aload_n 2, 1) := by decide +kernel
theorem dL_law_2544 : decode cL_law 2544 = .ok (.aload_n 0, 1) := by decide +kernel
theorem dL_law_2545 : decode cL_law 2545 = .ok (.iload 4, 2) := by decide +kernel
theorem dL_law_2547 : decode cL_law 2547 = .ok (.iconst 1, 1) := by decide +kernel
theorem dL_law_2548 : decode cL_law 2548 = .ok (.iadd, 1) := by decide +kernel
theorem dL_law_2549 : decode cL_law 2549 = .ok (.iaload, 1) := by decide +kernel
theorem dL_law_2550 : decode cL_law 2550 = .ok (.invokevirtual 292, 3) := by decide +kernel
theorem dL_law_2553 : decode cL_law 2553 = .ok (.aload_n 2, 1) := by decide +kernel
theorem dL_law_2554 : decode cL_law 2554 = .ok (.invokevirtual 142, 3) := by decide +kernel
theorem dL_law_2557 : decode cL_law 2557 = .ok (.iload 5, 2) := by decide +kernel
theorem dL_law_2559 : decode cL_law 2559 = .ok (.if_icmp .eq 5, 3) := by decide +kernel
theorem dL_law_2562 : decode cL_law 2562 = .ok (.iconst 0, 1) := by decide +kernel
theorem dL_law_2563 : decode cL_law 2563 = .ok (.ireturn, 1) := by decide +kernel
theorem dL_law_2564 : decode cL_law 2564 = .ok (.goto 39, 3) := by decide +kernel
theorem dL_law_2567 : decode cL_law 2567 = .ok (.aload_n 1, 1) := by decide +kernel
theorem dL_law_2568 : decode cL_law 2568 = .ok (.aload_n 0, 1) := by decide +kernel
theorem dL_law_2569 : decode cL_law 2569 = .ok (.iload 4, 2) := by decide +kernel
theorem dL_law_2571 : decode cL_law 2571 = .ok (.iconst 1, 1) := by decide +kernel
theorem dL_law_2572 : decode cL_law 2572 = .ok (.iadd, 1) := by decide +kernel
theorem dL_law_2573 : decode cL_law 2573 = .ok (.iaload, 1) := by decide +kernel
theorem dL_law_2574 : decode cL_law 2574 = .ok (.invokestatic 293, 3) := by decide +kernel
theorem dL_law_2577 : decode cL_law 2577 = .ok (.istore 5, 2) := by decide +kernel
theorem dL_law_2579 : decode cL_law 2579 = .ok (.aload_n 2, 1) := by decide +kernel
theorem dL_law_2580 : decode cL_law 2580 = .ok (.aload_n 0, 1) := by decide +kernel
theorem dL_law_2581 : decode cL_law 2581 = .ok (.iload 4, 2) := by decide +kernel
theorem dL_law_2583 : decode cL_law 2583 = .ok (.iconst 1, 1) := by decide +kernel
theorem dL_law_2584 : decode cL_law 2584 = .ok (.iadd, 1) := by decide +kernel
theorem dL_law_2585 : decode cL_law 2585 = .ok (.iaload, 1) := by decide +kernel
theorem dL_law_2586 : decode cL_law 2586 = .ok (.invokevirtual 295, 3) := by decide +kernel
theorem dL_law_2589 : decode cL_law 2589 = .ok (.aload_n 2, 1) := by decide +kernel
theorem dL_law_2590 : decode cL_law 2590 = .ok (.invokevirtual 142, 3) := by decide +kernel
theorem dL_law_2593 : decode cL_law 2593 = .ok (.iload 5, 2) := by decide +kernel
theorem dL_law_2595 : decode cL_law 2595 = .ok (.if_icmp .eq 5, 3) := by decide +kernel
theorem dL_law_2598 : decode cL_law 2598 = .ok (.iconst 0, 1) := by decide +kernel
theorem dL_law_2599 : decode cL_law 2599 = .ok (.ireturn, 1) := by decide +kernel
theorem dL_law_2600 : decode cL_law 2600 = .ok (.goto 3, 3) := by decide +kernel
theorem dL_law_2603 : decode cL_law 2603 = .ok (.iinc 4 7, 3) := by decide +kernel
theorem dL_law_2606 : decode cL_law 2606 = .ok (.goto (-2583), 3) := by decide +kernel
theorem dL_law_2609 : decode cL_law 2609 = .ok (.iconst 1, 1) := by decide +kernel
theorem dL_law_2610 : decode cL_law 2610 = .ok (.ireturn, 1) := by decide +kernel
