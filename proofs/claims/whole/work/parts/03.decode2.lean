theorem dX10_riderCredit_4 : decode cX10_riderCredit 4 = .ok (.iload_n 1, 1) := by decide +kernel
theorem dX10_riderCredit_5 : decode cX10_riderCredit 5 = .ok (.invokevirtual 152, 3) := by decide +kernel
theorem dX10_riderCredit_8 : decode cX10_riderCredit 8 = .ok (.getfield 243, 3) := by decide +kernel
theorem dX10_riderCredit_11 : decode cX10_riderCredit 11 = .ok (.lreturn, 1) := by decide +kernel
theorem dX10_driverCredit_0 : decode cX10_driverCredit 0 = .ok (.aload_n 0, 1) := by decide +kernel
theorem dX10_driverCredit_1 : decode cX10_driverCredit 1 = .ok (.getfield 12, 3) := by decide +kernel
theorem dX10_driverCredit_4 : decode cX10_driverCredit 4 = .ok (.iload_n 1, 1) := by decide +kernel
theorem dX10_driverCredit_5 : decode cX10_driverCredit 5 = .ok (.invokevirtual 99, 3) := by decide +kernel
theorem dX10_driverCredit_8 : decode cX10_driverCredit 8 = .ok (.getfield 247, 3) := by decide +kernel
theorem dX10_driverCredit_11 : decode cX10_driverCredit 11 = .ok (.lreturn, 1) := by decide +kernel
theorem dX10_pay_0 : decode cX10_pay 0 = .ok (.aload_n 0, 1) := by decide +kernel
theorem dX10_pay_1 : decode cX10_pay 1 = .ok (.getfield 12, 3) := by decide +kernel
theorem dX10_pay_4 : decode cX10_pay 4 = .ok (.iload_n 1, 1) := by decide +kernel
theorem dX10_pay_5 : decode cX10_pay 5 = .ok (.invokevirtual 152, 3) := by decide +kernel
theorem dX10_pay_8 : decode cX10_pay 8 = .ok (.astore_n 3, 1) := by decide +kernel
theorem dX10_pay_9 : decode cX10_pay 9 = .ok (.iload_n 2, 1) := by decide +kernel
theorem dX10_pay_10 : decode cX10_pay 10 = .ok (.sipush (-9999), 3) := by decide +kernel
theorem dX10_pay_13 : decode cX10_pay 13 = .ok (.sipush 9999, 3) := by decide +kernel
theorem dX10_pay_16 : decode cX10_pay 16 = .ok (.invokestatic 65, 3) := by decide +kernel
theorem dX10_pay_19 : decode cX10_pay 19 = .ok (.ifCond .ne 14, 3) := by decide +kernel
theorem dX10_pay_22 : decode cX10_pay 22 = .ok (.new 69, 3) := by decide +kernel
theorem dX10_pay_25 : decode cX10_pay 25 = .ok (.dup, 1) := by decide +kernel
theorem dX10_pay_26 : decode cX10_pay 26 = .ok (.ldc_w 272, 3) := by decide +kernel
theorem dX10_pay_29 : decode cX10_pay 29 = .ok (.invokespecial 73, 3) := by decide +kernel
theorem dX10_pay_32 : decode cX10_pay 32 = .ok (.athrow, 1) := by decide +kernel
theorem dX10_pay_33 : decode cX10_pay 33 = .ok (.aload_n 3, 1) := by decide +kernel
theorem dX10_pay_34 : decode cX10_pay 34 = .ok (.dup, 1) := by decide +kernel
theorem dX10_pay_35 : decode cX10_pay 35 = .ok (.getfield 243, 3) := by decide +kernel
theorem dX10_pay_38 : decode cX10_pay 38 = .ok (.iload_n 2, 1) := by decide +kernel
theorem dX10_pay_39 : decode cX10_pay 39 = .ok (.i2l, 1) := by decide +kernel
theorem dX10_pay_40 : decode cX10_pay 40 = .ok (.ladd, 1) := by decide +kernel
theorem dX10_pay_41 : decode cX10_pay 41 = .ok (.putfield 243, 3) := by decide +kernel
theorem dX10_pay_44 : decode cX10_pay 44 = .ok (.aload_n 3, 1) := by decide +kernel
theorem dX10_pay_45 : decode cX10_pay 45 = .ok (.getfield 243, 3) := by decide +kernel
theorem dX10_pay_48 : decode cX10_pay 48 = .ok (.lreturn, 1) := by decide +kernel
theorem dX10_debtor_0 : decode cX10_debtor 0 = .ok (.iconst 0, 1) := by decide +kernel
theorem dX10_debtor_1 : decode cX10_debtor 1 = .ok (.istore_n 2, 1) := by decide +kernel
theorem dX10_debtor_2 : decode cX10_debtor 2 = .ok (.iload_n 2, 1) := by decide +kernel
theorem dX10_debtor_3 : decode cX10_debtor 3 = .ok (.aload_n 0, 1) := by decide +kernel
theorem dX10_debtor_4 : decode cX10_debtor 4 = .ok (.getfield 12, 3) := by decide +kernel
theorem dX10_debtor_7 : decode cX10_debtor 7 = .ok (.getfield 150, 3) := by decide +kernel
theorem dX10_debtor_10 : decode cX10_debtor 10 = .ok (.if_icmp .ge 30, 3) := by decide +kernel
theorem dX10_debtor_13 : decode cX10_debtor 13 = .ok (.aload_n 0, 1) := by decide +kernel
theorem dX10_debtor_14 : decode cX10_debtor 14 = .ok (.getfield 12, 3) := by decide +kernel
theorem dX10_debtor_17 : decode cX10_debtor 17 = .ok (.aload_n 0, 1) := by decide +kernel
theorem dX10_debtor_18 : decode cX10_debtor 18 = .ok (.getfield 12, 3) := by decide +kernel
theorem dX10_debtor_21 : decode cX10_debtor 21 = .ok (.iload_n 2, 1) := by decide +kernel
theorem dX10_debtor_22 : decode cX10_debtor 22 = .ok (.invokevirtual 152, 3) := by decide +kernel
theorem dX10_debtor_25 : decode cX10_debtor 25 = .ok (.invokevirtual 274, 3) := by decide +kernel
theorem dX10_debtor_28 : decode cX10_debtor 28 = .ok (.iload_n 1, 1) := by decide +kernel
theorem dX10_debtor_29 : decode cX10_debtor 29 = .ok (.if_icmp .ne 5, 3) := by decide +kernel
theorem dX10_debtor_32 : decode cX10_debtor 32 = .ok (.iload_n 2, 1) := by decide +kernel
theorem dX10_debtor_33 : decode cX10_debtor 33 = .ok (.ireturn, 1) := by decide +kernel
theorem dX10_debtor_34 : decode cX10_debtor 34 = .ok (.iinc 2 1, 3) := by decide +kernel
theorem dX10_debtor_37 : decode cX10_debtor 37 = .ok (.goto (-35), 3) := by decide +kernel
theorem dX10_debtor_40 : decode cX10_debtor 40 = .ok (.iconst (-1), 1) := by decide +kernel
theorem dX10_debtor_41 : decode cX10_debtor 41 = .ok (.ireturn, 1) := by decide +kernel
theorem dX10_meanDetourNumerator_0 : decode cX10_meanDetourNumerator 0 = .ok (.aload_n 0, 1) := by decide +kernel
theorem dX10_meanDetourNumerator_1 : decode cX10_meanDetourNumerator 1 = .ok (.getfield 12, 3) := by decide +kernel
theorem dX10_meanDetourNumerator_4 : decode cX10_meanDetourNumerator 4 = .ok (.invokevirtual 278, 3) := by decide +kernel
theorem dX10_meanDetourNumerator_7 : decode cX10_meanDetourNumerator 7 = .ok (.istore_n 1, 1) := by decide +kernel
theorem dX10_meanDetourNumerator_8 : decode cX10_meanDetourNumerator 8 = .ok (.aload_n 0, 1) := by decide +kernel
theorem dX10_meanDetourNumerator_9 : decode cX10_meanDetourNumerator 9 = .ok (.getfield 12, 3) := by decide +kernel
theorem dX10_meanDetourNumerator_12 : decode cX10_meanDetourNumerator 12 = .ok (.invokevirtual 281, 3) := by decide +kernel
theorem dX10_meanDetourNumerator_15 : decode cX10_meanDetourNumerator 15 = .ok (.istore_n 2, 1) := by decide +kernel
theorem dX10_meanDetourNumerator_16 : decode cX10_meanDetourNumerator 16 = .ok (.iload_n 1, 1) := by decide +kernel
theorem dX10_meanDetourNumerator_17 : decode cX10_meanDetourNumerator 17 = .ok (.ifCond .ne 7, 3) := by decide +kernel
theorem dX10_meanDetourNumerator_20 : decode cX10_meanDetourNumerator 20 = .ok (.iconst 0, 1) := by decide +kernel
theorem dX10_meanDetourNumerator_21 : decode cX10_meanDetourNumerator 21 = .ok (.goto 10, 3) := by decide +kernel
theorem dX10_meanDetourNumerator_24 : decode cX10_meanDetourNumerator 24 = .ok (.iload_n 2, 1) := by decide +kernel
theorem dX10_meanDetourNumerator_25 : decode cX10_meanDetourNumerator 25 = .ok (.iload_n 2, 1) := by decide +kernel
theorem dX10_meanDetourNumerator_26 : decode cX10_meanDetourNumerator 26 = .ok (.iload_n 1, 1) := by decide +kernel
theorem dX10_meanDetourNumerator_27 : decode cX10_meanDetourNumerator 27 = .ok (.invokestatic 284, 3) := by decide +kernel
theorem dX10_meanDetourNumerator_30 : decode cX10_meanDetourNumerator 30 = .ok (.idiv, 1) := by decide +kernel
theorem dX10_meanDetourNumerator_31 : decode cX10_meanDetourNumerator 31 = .ok (.ireturn, 1) := by decide +kernel
theorem dX10_meanDetourDenominator_0 : decode cX10_meanDetourDenominator 0 = .ok (.aload_n 0, 1) := by decide +kernel
theorem dX10_meanDetourDenominator_1 : decode cX10_meanDetourDenominator 1 = .ok (.getfield 12, 3) := by decide +kernel
theorem dX10_meanDetourDenominator_4 : decode cX10_meanDetourDenominator 4 = .ok (.invokevirtual 278, 3) := by decide +kernel
theorem dX10_meanDetourDenominator_7 : decode cX10_meanDetourDenominator 7 = .ok (.istore_n 1, 1) := by decide +kernel
theorem dX10_meanDetourDenominator_8 : decode cX10_meanDetourDenominator 8 = .ok (.iload_n 1, 1) := by decide +kernel
theorem dX10_meanDetourDenominator_9 : decode cX10_meanDetourDenominator 9 = .ok (.ifCond .ne 7, 3) := by decide +kernel
theorem dX10_meanDetourDenominator_12 : decode cX10_meanDetourDenominator 12 = .ok (.iconst 1, 1) := by decide +kernel
theorem dX10_meanDetourDenominator_13 : decode cX10_meanDetourDenominator 13 = .ok (.goto 16, 3) := by decide +kernel
theorem dX10_meanDetourDenominator_16 : decode cX10_meanDetourDenominator 16 = .ok (.iload_n 1, 1) := by decide +kernel
theorem dX10_meanDetourDenominator_17 : decode cX10_meanDetourDenominator 17 = .ok (.aload_n 0, 1) := by decide +kernel
theorem dX10_meanDetourDenominator_18 : decode cX10_meanDetourDenominator 18 = .ok (.getfield 12, 3) := by decide +kernel
theorem dX10_meanDetourDenominator_21 : decode cX10_meanDetourDenominator 21 = .ok (.invokevirtual 281, 3) := by decide +kernel
theorem dX10_meanDetourDenominator_24 : decode cX10_meanDetourDenominator 24 = .ok (.iload_n 1, 1) := by decide +kernel
theorem dX10_meanDetourDenominator_25 : decode cX10_meanDetourDenominator 25 = .ok (.invokestatic 284, 3) := by decide +kernel
theorem dX10_meanDetourDenominator_28 : decode cX10_meanDetourDenominator 28 = .ok (.idiv, 1) := by decide +kernel
theorem dX10_meanDetourDenominator_29 : decode cX10_meanDetourDenominator 29 = .ok (.ireturn, 1) := by decide +kernel
theorem dX10_appendText_0 : decode cX10_appendText 0 = .ok (.aload_n 0, 1) := by decide +kernel
theorem dX10_appendText_1 : decode cX10_appendText 1 = .ok (.getfield 54, 3) := by decide +kernel
theorem dX10_appendText_4 : decode cX10_appendText 4 = .ok (.getfield 287, 3) := by decide +kernel
theorem dX10_appendText_7 : decode cX10_appendText 7 = .ok (.iconst 4, 1) := by decide +kernel
theorem dX10_appendText_8 : decode cX10_appendText 8 = .ok (.iadd, 1) := by decide +kernel
theorem dX10_appendText_9 : decode cX10_appendText 9 = .ok (.sipush 600, 3) := by decide +kernel
theorem dX10_appendText_12 : decode cX10_appendText 12 = .ok (.if_icmp .le 14, 3) := by decide +kernel
theorem dX10_appendText_15 : decode cX10_appendText 15 = .ok (.new 80, 3) := by decide +kernel
theorem dX10_appendText_18 : decode cX10_appendText 18 = .ok (.dup, 1) := by decide +kernel
theorem dX10_appendText_19 : decode cX10_appendText 19 = .ok (.ldc_w 289, 3) := by decide +kernel
theorem dX10_appendText_22 : decode cX10_appendText 22 = .ok (.invokespecial 84, 3) := by decide +kernel
theorem dX10_appendText_25 : decode cX10_appendText 25 = .ok (.athrow, 1) := by decide +kernel
theorem dX10_appendText_26 : decode cX10_appendText 26 = .ok (.bipush 24, 2) := by decide +kernel
theorem dX10_appendText_28 : decode cX10_appendText 28 = .ok (.istore_n 2, 1) := by decide +kernel
theorem dX10_appendText_29 : decode cX10_appendText 29 = .ok (.iload_n 2, 1) := by decide +kernel
theorem dX10_appendText_30 : decode cX10_appendText 30 = .ok (.ifCond .lt 23, 3) := by decide +kernel
theorem dX10_appendText_33 : decode cX10_appendText 33 = .ok (.aload_n 0, 1) := by decide +kernel
theorem dX10_appendText_34 : decode cX10_appendText 34 = .ok (.getfield 54, 3) := by decide +kernel
theorem dX10_appendText_37 : decode cX10_appendText 37 = .ok (.iload_n 1, 1) := by decide +kernel
theorem dX10_appendText_38 : decode cX10_appendText 38 = .ok (.iload_n 2, 1) := by decide +kernel
theorem dX10_appendText_39 : decode cX10_appendText 39 = .ok (.iushr, 1) := by decide +kernel
theorem dX10_appendText_40 : decode cX10_appendText 40 = .ok (.sipush 255, 3) := by decide +kernel
theorem dX10_appendText_43 : decode cX10_appendText 43 = .ok (.iand, 1) := by decide +kernel
theorem dX10_appendText_44 : decode cX10_appendText 44 = .ok (.invokevirtual 291, 3) := by decide +kernel
theorem dX10_appendText_47 : decode cX10_appendText 47 = .ok (.iinc 2 (-8), 3) := by decide +kernel
theorem dX10_appendText_50 : decode cX10_appendText 50 = .ok (.goto (-21), 3) := by decide +kernel
theorem dX10_appendText_53 : decode cX10_appendText 53 = .ok (.aload_n 0, 1) := by decide +kernel
theorem dX10_appendText_54 : decode cX10_appendText 54 = .ok (.getfield 54, 3) := by decide +kernel
theorem dX10_appendText_57 : decode cX10_appendText 57 = .ok (.getfield 287, 3) := by decide +kernel
theorem dX10_appendText_60 : decode cX10_appendText 60 = .ok (.ireturn, 1) := by decide +kernel
theorem dX10_truncateText_0 : decode cX10_truncateText 0 = .ok (.iload_n 1, 1) := by decide +kernel
theorem dX10_truncateText_1 : decode cX10_truncateText 1 = .ok (.iconst 0, 1) := by decide +kernel
theorem dX10_truncateText_2 : decode cX10_truncateText 2 = .ok (.aload_n 0, 1) := by decide +kernel
theorem dX10_truncateText_3 : decode cX10_truncateText 3 = .ok (.getfield 54, 3) := by decide +kernel
theorem dX10_truncateText_6 : decode cX10_truncateText 6 = .ok (.getfield 287, 3) := by decide +kernel
theorem dX10_truncateText_9 : decode cX10_truncateText 9 = .ok (.invokestatic 65, 3) := by decide +kernel
theorem dX10_truncateText_12 : decode cX10_truncateText 12 = .ok (.ifCond .ne 14, 3) := by decide +kernel
theorem dX10_truncateText_15 : decode cX10_truncateText 15 = .ok (.new 69, 3) := by decide +kernel
theorem dX10_truncateText_18 : decode cX10_truncateText 18 = .ok (.dup, 1) := by decide +kernel
theorem dX10_truncateText_19 : decode cX10_truncateText 19 = .ok (.ldc_w 295, 3) := by decide +kernel
theorem dX10_truncateText_22 : decode cX10_truncateText 22 = .ok (.invokespecial 73, 3) := by decide +kernel
theorem dX10_truncateText_25 : decode cX10_truncateText 25 = .ok (.athrow, 1) := by decide +kernel
theorem dX10_truncateText_26 : decode cX10_truncateText 26 = .ok (.aload_n 0, 1) := by decide +kernel
theorem dX10_truncateText_27 : decode cX10_truncateText 27 = .ok (.getfield 54, 3) := by decide +kernel
theorem dX10_truncateText_30 : decode cX10_truncateText 30 = .ok (.iload_n 1, 1) := by decide +kernel
theorem dX10_truncateText_31 : decode cX10_truncateText 31 = .ok (.putfield 287, 3) := by decide +kernel
theorem dX10_truncateText_34 : decode cX10_truncateText 34 = .ok (.iload_n 1, 1) := by decide +kernel
theorem dX10_truncateText_35 : decode cX10_truncateText 35 = .ok (.ireturn, 1) := by decide +kernel
theorem dX10_load_0 : decode cX10_load 0 = .ok (.aload_n 0, 1) := by decide +kernel
theorem dX10_load_1 : decode cX10_load 1 = .ok (.getfield 61, 3) := by decide +kernel
theorem dX10_load_4 : decode cX10_load 4 = .ok (.aload_n 0, 1) := by decide +kernel
theorem dX10_load_5 : decode cX10_load 5 = .ok (.getfield 54, 3) := by decide +kernel
theorem dX10_load_8 : decode cX10_load 8 = .ok (.aload_n 0, 1) := by decide +kernel
theorem dX10_load_9 : decode cX10_load 9 = .ok (.getfield 16, 3) := by decide +kernel
theorem dX10_load_12 : decode cX10_load 12 = .ok (.invokevirtual 297, 3) := by decide +kernel
theorem dX10_load_15 : decode cX10_load 15 = .ok (.istore_n 1, 1) := by decide +kernel
theorem dX10_load_16 : decode cX10_load 16 = .ok (.aload_n 0, 1) := by decide +kernel
theorem dX10_load_17 : decode cX10_load 17 = .ok (.getfield 54, 3) := by decide +kernel
theorem dX10_load_20 : decode cX10_load 20 = .ok (.iconst 0, 1) := by decide +kernel
theorem dX10_load_21 : decode cX10_load 21 = .ok (.putfield 287, 3) := by decide +kernel
theorem dX10_load_24 : decode cX10_load 24 = .ok (.iload_n 1, 1) := by decide +kernel
theorem dX10_load_25 : decode cX10_load 25 = .ok (.iconst (-1), 1) := by decide +kernel
theorem dX10_load_26 : decode cX10_load 26 = .ok (.if_icmp .eq 21, 3) := by decide +kernel
theorem dX10_load_29 : decode cX10_load 29 = .ok (.aload_n 0, 1) := by decide +kernel
theorem dX10_load_30 : decode cX10_load 30 = .ok (.getfield 12, 3) := by decide +kernel
theorem dX10_load_33 : decode cX10_load 33 = .ok (.astore_n 2, 1) := by decide +kernel
theorem dX10_load_34 : decode cX10_load 34 = .ok (.aload_n 0, 1) := by decide +kernel
theorem dX10_load_35 : decode cX10_load 35 = .ok (.aload_n 0, 1) := by decide +kernel
theorem dX10_load_36 : decode cX10_load 36 = .ok (.getfield 16, 3) := by decide +kernel
theorem dX10_load_39 : decode cX10_load 39 = .ok (.putfield 12, 3) := by decide +kernel
theorem dX10_load_42 : decode cX10_load 42 = .ok (.aload_n 0, 1) := by decide +kernel
theorem dX10_load_43 : decode cX10_load 43 = .ok (.aload_n 2, 1) := by decide +kernel
theorem dX10_load_44 : decode cX10_load 44 = .ok (.putfield 16, 3) := by decide +kernel
theorem dX10_load_47 : decode cX10_load 47 = .ok (.iload_n 1, 1) := by decide +kernel
theorem dX10_load_48 : decode cX10_load 48 = .ok (.ireturn, 1) := by decide +kernel
theorem dX10_errorCode_0 : decode cX10_errorCode 0 = .ok (.aload_n 0, 1) := by decide +kernel
theorem dX10_errorCode_1 : decode cX10_errorCode 1 = .ok (.getfield 61, 3) := by decide +kernel
theorem dX10_errorCode_4 : decode cX10_errorCode 4 = .ok (.getfield 300, 3) := by decide +kernel
theorem dX10_errorCode_7 : decode cX10_errorCode 7 = .ok (.ireturn, 1) := by decide +kernel
theorem dX10_errorPosition_0 : decode cX10_errorPosition 0 = .ok (.aload_n 0, 1) := by decide +kernel
theorem dX10_errorPosition_1 : decode cX10_errorPosition 1 = .ok (.getfield 61, 3) := by decide +kernel
theorem dX10_errorPosition_4 : decode cX10_errorPosition 4 = .ok (.getfield 303, 3) := by decide +kernel
theorem dX10_errorPosition_7 : decode cX10_errorPosition 7 = .ok (.ireturn, 1) := by decide +kernel
theorem dX10_save_0 : decode cX10_save 0 = .ok (.iload_n 1, 1) := by decide +kernel
theorem dX10_save_1 : decode cX10_save 1 = .ok (.invokestatic 306, 3) := by decide +kernel
theorem dX10_save_4 : decode cX10_save 4 = .ok (.aload_n 0, 1) := by decide +kernel
theorem dX10_save_5 : decode cX10_save 5 = .ok (.getfield 19, 3) := by decide +kernel
theorem dX10_save_8 : decode cX10_save 8 = .ok (.iload_n 1, 1) := by decide +kernel
theorem dX10_save_9 : decode cX10_save 9 = .ok (.aaload, 1) := by decide +kernel
theorem dX10_save_10 : decode cX10_save 10 = .ok (.astore_n 2, 1) := by decide +kernel
theorem dX10_save_11 : decode cX10_save 11 = .ok (.aload_n 2, 1) := by decide +kernel
theorem dX10_save_12 : decode cX10_save 12 = .ok (.ifnonnull 18, 3) := by decide +kernel
theorem dX10_save_15 : decode cX10_save 15 = .ok (.new 9, 3) := by decide +kernel
theorem dX10_save_18 : decode cX10_save 18 = .ok (.dup, 1) := by decide +kernel
theorem dX10_save_19 : decode cX10_save 19 = .ok (.invokespecial 11, 3) := by decide +kernel
theorem dX10_save_22 : decode cX10_save 22 = .ok (.astore_n 2, 1) := by decide +kernel
theorem dX10_save_23 : decode cX10_save 23 = .ok (.aload_n 0, 1) := by decide +kernel
theorem dX10_save_24 : decode cX10_save 24 = .ok (.getfield 19, 3) := by decide +kernel
theorem dX10_save_27 : decode cX10_save 27 = .ok (.iload_n 1, 1) := by decide +kernel
theorem dX10_save_28 : decode cX10_save 28 = .ok (.aload_n 2, 1) := by decide +kernel
theorem dX10_save_29 : decode cX10_save 29 = .ok (.aastore, 1) := by decide +kernel
theorem dX10_save_30 : decode cX10_save 30 = .ok (.aload_n 2, 1) := by decide +kernel
theorem dX10_save_31 : decode cX10_save 31 = .ok (.aload_n 0, 1) := by decide +kernel
theorem dX10_save_32 : decode cX10_save 32 = .ok (.getfield 12, 3) := by decide +kernel
theorem dX10_save_35 : decode cX10_save 35 = .ok (.invokevirtual 309, 3) := by decide +kernel
theorem dX10_save_38 : decode cX10_save 38 = .ok (.return_, 1) := by decide +kernel
theorem dX10_restore_0 : decode cX10_restore 0 = .ok (.iload_n 1, 1) := by decide +kernel
theorem dX10_restore_1 : decode cX10_restore 1 = .ok (.invokestatic 306, 3) := by decide +kernel
theorem dX10_restore_4 : decode cX10_restore 4 = .ok (.aload_n 0, 1) := by decide +kernel
theorem dX10_restore_5 : decode cX10_restore 5 = .ok (.getfield 19, 3) := by decide +kernel
theorem dX10_restore_8 : decode cX10_restore 8 = .ok (.iload_n 1, 1) := by decide +kernel
theorem dX10_restore_9 : decode cX10_restore 9 = .ok (.aaload, 1) := by decide +kernel
theorem dX10_restore_10 : decode cX10_restore 10 = .ok (.astore_n 2, 1) := by decide +kernel
theorem dX10_restore_11 : decode cX10_restore 11 = .ok (.aload_n 2, 1) := by decide +kernel
theorem dX10_restore_12 : decode cX10_restore 12 = .ok (.ifnonnull 14, 3) := by decide +kernel
theorem dX10_restore_15 : decode cX10_restore 15 = .ok (.new 80, 3) := by decide +kernel
theorem dX10_restore_18 : decode cX10_restore 18 = .ok (.dup, 1) := by decide +kernel
theorem dX10_restore_19 : decode cX10_restore 19 = .ok (.ldc_w 313, 3) := by decide +kernel
theorem dX10_restore_22 : decode cX10_restore 22 = .ok (.invokespecial 84, 3) := by decide +kernel
theorem dX10_restore_25 : decode cX10_restore 25 = .ok (.athrow, 1) := by decide +kernel
theorem dX10_restore_26 : decode cX10_restore 26 = .ok (.aload_n 0, 1) := by decide +kernel
theorem dX10_restore_27 : decode cX10_restore 27 = .ok (.getfield 12, 3) := by decide +kernel
theorem dX10_restore_30 : decode cX10_restore 30 = .ok (.aload_n 2, 1) := by decide +kernel
theorem dX10_restore_31 : decode cX10_restore 31 = .ok (.invokevirtual 309, 3) := by decide +kernel
theorem dX10_restore_34 : decode cX10_restore 34 = .ok (.return_, 1) := by decide +kernel
theorem dX10_isWithin_0 : decode cX10_isWithin 0 = .ok (.iload_n 1, 1) := by decide +kernel
theorem dX10_isWithin_1 : decode cX10_isWithin 1 = .ok (.iload_n 0, 1) := by decide +kernel
theorem dX10_isWithin_2 : decode cX10_isWithin 2 = .ok (.if_icmp .gt 12, 3) := by decide +kernel
theorem dX10_isWithin_5 : decode cX10_isWithin 5 = .ok (.iload_n 0, 1) := by decide +kernel
theorem dX10_isWithin_6 : decode cX10_isWithin 6 = .ok (.iload_n 2, 1) := by decide +kernel
theorem dX10_isWithin_7 : decode cX10_isWithin 7 = .ok (.if_icmp .gt 7, 3) := by decide +kernel
theorem dX10_isWithin_10 : decode cX10_isWithin 10 = .ok (.iconst 1, 1) := by decide +kernel
theorem dX10_isWithin_11 : decode cX10_isWithin 11 = .ok (.goto 4, 3) := by decide +kernel
theorem dX10_isWithin_14 : decode cX10_isWithin 14 = .ok (.iconst 0, 1) := by decide +kernel
theorem dX10_isWithin_15 : decode cX10_isWithin 15 = .ok (.ireturn, 1) := by decide +kernel
theorem dX10_isPlace_0 : decode cX10_isPlace 0 = .ok (.iload_n 0, 1) := by decide +kernel
theorem dX10_isPlace_1 : decode cX10_isPlace 1 = .ok (.iconst 0, 1) := by decide +kernel
theorem dX10_isPlace_2 : decode cX10_isPlace 2 = .ok (.bipush 99, 2) := by decide +kernel
theorem dX10_isPlace_4 : decode cX10_isPlace 4 = .ok (.invokestatic 65, 3) := by decide +kernel
theorem dX10_isPlace_7 : decode cX10_isPlace 7 = .ok (.ifCond .eq 17, 3) := by decide +kernel
theorem dX10_isPlace_10 : decode cX10_isPlace 10 = .ok (.iload_n 1, 1) := by decide +kernel
theorem dX10_isPlace_11 : decode cX10_isPlace 11 = .ok (.iconst 0, 1) := by decide +kernel
theorem dX10_isPlace_12 : decode cX10_isPlace 12 = .ok (.bipush 99, 2) := by decide +kernel
theorem dX10_isPlace_14 : decode cX10_isPlace 14 = .ok (.invokestatic 65, 3) := by decide +kernel
theorem dX10_isPlace_17 : decode cX10_isPlace 17 = .ok (.ifCond .eq 7, 3) := by decide +kernel
theorem dX10_isPlace_20 : decode cX10_isPlace 20 = .ok (.iconst 1, 1) := by decide +kernel
theorem dX10_isPlace_21 : decode cX10_isPlace 21 = .ok (.goto 4, 3) := by decide +kernel
theorem dX10_isPlace_24 : decode cX10_isPlace 24 = .ok (.iconst 0, 1) := by decide +kernel
theorem dX10_isPlace_25 : decode cX10_isPlace 25 = .ok (.ireturn, 1) := by decide +kernel
theorem dX10_distance_0 : decode cX10_distance 0 = .ok (.iload_n 0, 1) := by decide +kernel
theorem dX10_distance_1 : decode cX10_distance 1 = .ok (.iload_n 2, 1) := by decide +kernel
theorem dX10_distance_2 : decode cX10_distance 2 = .ok (.if_icmp .ge 9, 3) := by decide +kernel
theorem dX10_distance_5 : decode cX10_distance 5 = .ok (.iload_n 2, 1) := by decide +kernel
theorem dX10_distance_6 : decode cX10_distance 6 = .ok (.iload_n 0, 1) := by decide +kernel
theorem dX10_distance_7 : decode cX10_distance 7 = .ok (.isub, 1) := by decide +kernel
theorem dX10_distance_8 : decode cX10_distance 8 = .ok (.goto 6, 3) := by decide +kernel
theorem dX10_distance_11 : decode cX10_distance 11 = .ok (.iload_n 0, 1) := by decide +kernel
theorem dX10_distance_12 : decode cX10_distance 12 = .ok (.iload_n 2, 1) := by decide +kernel
theorem dX10_distance_13 : decode cX10_distance 13 = .ok (.isub, 1) := by decide +kernel
theorem dX10_distance_14 : decode cX10_distance 14 = .ok (.istore 4, 2) := by decide +kernel
theorem dX10_distance_16 : decode cX10_distance 16 = .ok (.iload_n 1, 1) := by decide +kernel
theorem dX10_distance_17 : decode cX10_distance 17 = .ok (.iload_n 3, 1) := by decide +kernel
theorem dX10_distance_18 : decode cX10_distance 18 = .ok (.if_icmp .ge 9, 3) := by decide +kernel
theorem dX10_distance_21 : decode cX10_distance 21 = .ok (.iload_n 3, 1) := by decide +kernel
theorem dX10_distance_22 : decode cX10_distance 22 = .ok (.iload_n 1, 1) := by decide +kernel
theorem dX10_distance_23 : decode cX10_distance 23 = .ok (.isub, 1) := by decide +kernel
theorem dX10_distance_24 : decode cX10_distance 24 = .ok (.goto 6, 3) := by decide +kernel
theorem dX10_distance_27 : decode cX10_distance 27 = .ok (.iload_n 1, 1) := by decide +kernel
theorem dX10_distance_28 : decode cX10_distance 28 = .ok (.iload_n 3, 1) := by decide +kernel
theorem dX10_distance_29 : decode cX10_distance 29 = .ok (.isub, 1) := by decide +kernel
theorem dX10_distance_30 : decode cX10_distance 30 = .ok (.istore 5, 2) := by decide +kernel
theorem dX10_distance_32 : decode cX10_distance 32 = .ok (.iload 4, 2) := by decide +kernel
theorem dX10_distance_34 : decode cX10_distance 34 = .ok (.iload 5, 2) := by decide +kernel
theorem dX10_distance_36 : decode cX10_distance 36 = .ok (.iadd, 1) := by decide +kernel
theorem dX10_distance_37 : decode cX10_distance 37 = .ok (.ireturn, 1) := by decide +kernel
theorem dX10_commonDivisor_0 : decode cX10_commonDivisor 0 = .ok (.iload_n 1, 1) := by decide +kernel
theorem dX10_commonDivisor_1 : decode cX10_commonDivisor 1 = .ok (.istore_n 2, 1) := by decide +kernel
theorem dX10_commonDivisor_2 : decode cX10_commonDivisor 2 = .ok (.iload_n 2, 1) := by decide +kernel
theorem dX10_commonDivisor_3 : decode cX10_commonDivisor 3 = .ok (.iconst 1, 1) := by decide +kernel
theorem dX10_commonDivisor_4 : decode cX10_commonDivisor 4 = .ok (.if_icmp .le 23, 3) := by decide +kernel
theorem dX10_commonDivisor_7 : decode cX10_commonDivisor 7 = .ok (.iload_n 0, 1) := by decide +kernel
theorem dX10_commonDivisor_8 : decode cX10_commonDivisor 8 = .ok (.iload_n 2, 1) := by decide +kernel
theorem dX10_commonDivisor_9 : decode cX10_commonDivisor 9 = .ok (.irem, 1) := by decide +kernel
theorem dX10_commonDivisor_10 : decode cX10_commonDivisor 10 = .ok (.ifCond .ne 11, 3) := by decide +kernel
theorem dX10_commonDivisor_13 : decode cX10_commonDivisor 13 = .ok (.iload_n 1, 1) := by decide +kernel
theorem dX10_commonDivisor_14 : decode cX10_commonDivisor 14 = .ok (.iload_n 2, 1) := by decide +kernel
theorem dX10_commonDivisor_15 : decode cX10_commonDivisor 15 = .ok (.irem, 1) := by decide +kernel
theorem dX10_commonDivisor_16 : decode cX10_commonDivisor 16 = .ok (.ifCond .ne 5, 3) := by decide +kernel
theorem dX10_commonDivisor_19 : decode cX10_commonDivisor 19 = .ok (.iload_n 2, 1) := by decide +kernel
theorem dX10_commonDivisor_20 : decode cX10_commonDivisor 20 = .ok (.ireturn, 1) := by decide +kernel
theorem dX10_commonDivisor_21 : decode cX10_commonDivisor 21 = .ok (.iinc 2 (-1), 3) := by decide +kernel
theorem dX10_commonDivisor_24 : decode cX10_commonDivisor 24 = .ok (.goto (-22), 3) := by decide +kernel
theorem dX10_commonDivisor_27 : decode cX10_commonDivisor 27 = .ok (.iconst 1, 1) := by decide +kernel
theorem dX10_commonDivisor_28 : decode cX10_commonDivisor 28 = .ok (.ireturn, 1) := by decide +kernel
theorem dX10_checkSlot_0 : decode cX10_checkSlot 0 = .ok (.iload_n 0, 1) := by decide +kernel
theorem dX10_checkSlot_1 : decode cX10_checkSlot 1 = .ok (.iconst 0, 1) := by decide +kernel
theorem dX10_checkSlot_2 : decode cX10_checkSlot 2 = .ok (.iconst 1, 1) := by decide +kernel
theorem dX10_checkSlot_3 : decode cX10_checkSlot 3 = .ok (.invokestatic 65, 3) := by decide +kernel
theorem dX10_checkSlot_6 : decode cX10_checkSlot 6 = .ok (.ifCond .ne 14, 3) := by decide +kernel
theorem dX10_checkSlot_9 : decode cX10_checkSlot 9 = .ok (.new 69, 3) := by decide +kernel
theorem dX10_checkSlot_12 : decode cX10_checkSlot 12 = .ok (.dup, 1) := by decide +kernel
theorem dX10_checkSlot_13 : decode cX10_checkSlot 13 = .ok (.ldc_w 315, 3) := by decide +kernel
theorem dX10_checkSlot_16 : decode cX10_checkSlot 16 = .ok (.invokespecial 73, 3) := by decide +kernel
theorem dX10_checkSlot_19 : decode cX10_checkSlot 19 = .ok (.athrow, 1) := by decide +kernel
theorem dX10_checkSlot_20 : decode cX10_checkSlot 20 = .ok (.return_, 1) := by decide +kernel
theorem dX10_routeWithStop_0 : decode cX10_routeWithStop 0 = .ok (.aload_n 0, 1) := by decide +kernel
theorem dX10_routeWithStop_1 : decode cX10_routeWithStop 1 = .ok (.getfield 12, 3) := by decide +kernel
theorem dX10_routeWithStop_4 : decode cX10_routeWithStop 4 = .ok (.iload_n 1, 1) := by decide +kernel
theorem dX10_routeWithStop_5 : decode cX10_routeWithStop 5 = .ok (.invokevirtual 99, 3) := by decide +kernel
theorem dX10_routeWithStop_8 : decode cX10_routeWithStop 8 = .ok (.getfield 113, 3) := by decide +kernel
theorem dX10_routeWithStop_11 : decode cX10_routeWithStop 11 = .ok (.astore_n 3, 1) := by decide +kernel
theorem dX10_routeWithStop_12 : decode cX10_routeWithStop 12 = .ok (.iload_n 2, 1) := by decide +kernel
theorem dX10_routeWithStop_13 : decode cX10_routeWithStop 13 = .ok (.iconst 0, 1) := by decide +kernel
theorem dX10_routeWithStop_14 : decode cX10_routeWithStop 14 = .ok (.aload_n 3, 1) := by decide +kernel
theorem dX10_routeWithStop_15 : decode cX10_routeWithStop 15 = .ok (.getfield 169, 3) := by decide +kernel
theorem dX10_routeWithStop_18 : decode cX10_routeWithStop 18 = .ok (.iconst 1, 1) := by decide +kernel
theorem dX10_routeWithStop_19 : decode cX10_routeWithStop 19 = .ok (.isub, 1) := by decide +kernel
theorem dX10_routeWithStop_20 : decode cX10_routeWithStop 20 = .ok (.invokestatic 65, 3) := by decide +kernel
theorem dX10_routeWithStop_23 : decode cX10_routeWithStop 23 = .ok (.ifCond .ne 14, 3) := by decide +kernel
theorem dX10_routeWithStop_26 : decode cX10_routeWithStop 26 = .ok (.new 317, 3) := by decide +kernel
theorem dX10_routeWithStop_29 : decode cX10_routeWithStop 29 = .ok (.dup, 1) := by decide +kernel
theorem dX10_routeWithStop_30 : decode cX10_routeWithStop 30 = .ok (.ldc_w 319, 3) := by decide +kernel
theorem dX10_routeWithStop_33 : decode cX10_routeWithStop 33 = .ok (.invokespecial 321, 3) := by decide +kernel
theorem dX10_routeWithStop_36 : decode cX10_routeWithStop 36 = .ok (.athrow, 1) := by decide +kernel
theorem dX10_routeWithStop_37 : decode cX10_routeWithStop 37 = .ok (.aload_n 3, 1) := by decide +kernel
theorem dX10_routeWithStop_38 : decode cX10_routeWithStop 38 = .ok (.areturn, 1) := by decide +kernel
theorem dX10_assignedRider_0 : decode cX10_assignedRider 0 = .ok (.aload_n 0, 1) := by decide +kernel
theorem dX10_assignedRider_1 : decode cX10_assignedRider 1 = .ok (.getfield 12, 3) := by decide +kernel
theorem dX10_assignedRider_4 : decode cX10_assignedRider 4 = .ok (.iload_n 1, 1) := by decide +kernel
theorem dX10_assignedRider_5 : decode cX10_assignedRider 5 = .ok (.invokevirtual 152, 3) := by decide +kernel
theorem dX10_assignedRider_8 : decode cX10_assignedRider 8 = .ok (.astore_n 2, 1) := by decide +kernel
theorem dX10_assignedRider_9 : decode cX10_assignedRider 9 = .ok (.aload_n 2, 1) := by decide +kernel
theorem dX10_assignedRider_10 : decode cX10_assignedRider 10 = .ok (.getfield 156, 3) := by decide +kernel
theorem dX10_assignedRider_13 : decode cX10_assignedRider 13 = .ok (.iconst 1, 1) := by decide +kernel
theorem dX10_assignedRider_14 : decode cX10_assignedRider 14 = .ok (.if_icmp .eq 14, 3) := by decide +kernel
theorem dX10_assignedRider_17 : decode cX10_assignedRider 17 = .ok (.new 80, 3) := by decide +kernel
theorem dX10_assignedRider_20 : decode cX10_assignedRider 20 = .ok (.dup, 1) := by decide +kernel
theorem dX10_assignedRider_21 : decode cX10_assignedRider 21 = .ok (.ldc_w 322, 3) := by decide +kernel
theorem dX10_assignedRider_24 : decode cX10_assignedRider 24 = .ok (.invokespecial 84, 3) := by decide +kernel
theorem dX10_assignedRider_27 : decode cX10_assignedRider 27 = .ok (.athrow, 1) := by decide +kernel
theorem dX10_assignedRider_28 : decode cX10_assignedRider 28 = .ok (.aload_n 2, 1) := by decide +kernel
theorem dX10_assignedRider_29 : decode cX10_assignedRider 29 = .ok (.areturn, 1) := by decide +kernel
theorem dX10_takeOut_0 : decode cX10_takeOut 0 = .ok (.aload_n 0, 1) := by decide +kernel
theorem dX10_takeOut_1 : decode cX10_takeOut 1 = .ok (.getfield 12, 3) := by decide +kernel
theorem dX10_takeOut_4 : decode cX10_takeOut 4 = .ok (.aload_n 1, 1) := by decide +kernel
theorem dX10_takeOut_5 : decode cX10_takeOut 5 = .ok (.getfield 159, 3) := by decide +kernel
theorem dX10_takeOut_8 : decode cX10_takeOut 8 = .ok (.invokevirtual 99, 3) := by decide +kernel
theorem dX10_takeOut_11 : decode cX10_takeOut 11 = .ok (.getfield 113, 3) := by decide +kernel
theorem dX10_takeOut_14 : decode cX10_takeOut 14 = .ok (.aload_n 1, 1) := by decide +kernel
theorem dX10_takeOut_15 : decode cX10_takeOut 15 = .ok (.getfield 146, 3) := by decide +kernel
theorem dX10_takeOut_18 : decode cX10_takeOut 18 = .ok (.invokevirtual 324, 3) := by decide +kernel
theorem dX10_takeOut_21 : decode cX10_takeOut 21 = .ok (.aload_n 1, 1) := by decide +kernel
theorem dX10_takeOut_22 : decode cX10_takeOut 22 = .ok (.iconst (-1), 1) := by decide +kernel
theorem dX10_takeOut_23 : decode cX10_takeOut 23 = .ok (.putfield 159, 3) := by decide +kernel
theorem dX10_takeOut_26 : decode cX10_takeOut 26 = .ok (.aload_n 1, 1) := by decide +kernel
theorem dX10_takeOut_27 : decode cX10_takeOut 27 = .ok (.iload_n 2, 1) := by decide +kernel
theorem dX10_takeOut_28 : decode cX10_takeOut 28 = .ok (.putfield 156, 3) := by decide +kernel
theorem dX10_takeOut_31 : decode cX10_takeOut 31 = .ok (.return_, 1) := by decide +kernel
theorem dX10_assignHeldRiders_0 : decode cX10_assignHeldRiders 0 = .ok (.iconst 0, 1) := by decide +kernel
theorem dX10_assignHeldRiders_1 : decode cX10_assignHeldRiders 1 = .ok (.istore_n 2, 1) := by decide +kernel
theorem dX10_assignHeldRiders_2 : decode cX10_assignHeldRiders 2 = .ok (.iconst 0, 1) := by decide +kernel
theorem dX10_assignHeldRiders_3 : decode cX10_assignHeldRiders 3 = .ok (.istore_n 3, 1) := by decide +kernel
theorem dX10_assignHeldRiders_4 : decode cX10_assignHeldRiders 4 = .ok (.iload_n 3, 1) := by decide +kernel
theorem dX10_assignHeldRiders_5 : decode cX10_assignHeldRiders 5 = .ok (.aload_n 1, 1) := by decide +kernel
theorem dX10_assignHeldRiders_6 : decode cX10_assignHeldRiders 6 = .ok (.getfield 327, 3) := by decide +kernel
theorem dX10_assignHeldRiders_9 : decode cX10_assignHeldRiders 9 = .ok (.if_icmp .ge 49, 3) := by decide +kernel
theorem dX10_assignHeldRiders_12 : decode cX10_assignHeldRiders 12 = .ok (.aload_n 0, 1) := by decide +kernel
theorem dX10_assignHeldRiders_13 : decode cX10_assignHeldRiders 13 = .ok (.getfield 40, 3) := by decide +kernel
theorem dX10_assignHeldRiders_16 : decode cX10_assignHeldRiders 16 = .ok (.aload_n 0, 1) := by decide +kernel
theorem dX10_assignHeldRiders_17 : decode cX10_assignHeldRiders 17 = .ok (.getfield 12, 3) := by decide +kernel
theorem dX10_assignHeldRiders_20 : decode cX10_assignHeldRiders 20 = .ok (.aload_n 0, 1) := by decide +kernel
theorem dX10_assignHeldRiders_21 : decode cX10_assignHeldRiders 21 = .ok (.getfield 33, 3) := by decide +kernel
theorem dX10_assignHeldRiders_24 : decode cX10_assignHeldRiders 24 = .ok (.aload_n 1, 1) := by decide +kernel
theorem dX10_assignHeldRiders_25 : decode cX10_assignHeldRiders 25 = .ok (.invokevirtual 330, 3) := by decide +kernel
theorem dX10_assignHeldRiders_28 : decode cX10_assignHeldRiders 28 = .ok (.astore 4, 2) := by decide +kernel
theorem dX10_assignHeldRiders_30 : decode cX10_assignHeldRiders 30 = .ok (.aload 4, 2) := by decide +kernel
theorem dX10_assignHeldRiders_32 : decode cX10_assignHeldRiders 32 = .ok (.ifnull 20, 3) := by decide +kernel
theorem dX10_assignHeldRiders_35 : decode cX10_assignHeldRiders 35 = .ok (.aload_n 0, 1) := by decide +kernel
theorem dX10_assignHeldRiders_36 : decode cX10_assignHeldRiders 36 = .ok (.getfield 26, 3) := by decide +kernel
theorem dX10_assignHeldRiders_39 : decode cX10_assignHeldRiders 39 = .ok (.aload 4, 2) := by decide +kernel
theorem dX10_assignHeldRiders_41 : decode cX10_assignHeldRiders 41 = .ok (.aload_n 1, 1) := by decide +kernel
theorem dX10_assignHeldRiders_42 : decode cX10_assignHeldRiders 42 = .ok (.invokevirtual 204, 3) := by decide +kernel
theorem dX10_assignHeldRiders_45 : decode cX10_assignHeldRiders 45 = .ok (.iconst (-1), 1) := by decide +kernel
theorem dX10_assignHeldRiders_46 : decode cX10_assignHeldRiders 46 = .ok (.if_icmp .eq 6, 3) := by decide +kernel
theorem dX10_assignHeldRiders_49 : decode cX10_assignHeldRiders 49 = .ok (.iinc 2 1, 3) := by decide +kernel
theorem dX10_assignHeldRiders_52 : decode cX10_assignHeldRiders 52 = .ok (.iinc 3 1, 3) := by decide +kernel
theorem dX10_assignHeldRiders_55 : decode cX10_assignHeldRiders 55 = .ok (.goto (-51), 3) := by decide +kernel
theorem dX10_assignHeldRiders_58 : decode cX10_assignHeldRiders 58 = .ok (.iload_n 2, 1) := by decide +kernel
theorem dX10_assignHeldRiders_59 : decode cX10_assignHeldRiders 59 = .ok (.ireturn, 1) := by decide +kernel
theorem dX10_bestReplacement_0 : decode cX10_bestReplacement 0 = .ok (.aload_n 1, 1) := by decide +kernel
theorem dX10_bestReplacement_1 : decode cX10_bestReplacement 1 = .ok (.getfield 109, 3) := by decide +kernel
theorem dX10_bestReplacement_4 : decode cX10_bestReplacement 4 = .ok (.ifCond .eq 5, 3) := by decide +kernel
theorem dX10_bestReplacement_7 : decode cX10_bestReplacement 7 = .ok (.iconst (-1), 1) := by decide +kernel
theorem dX10_bestReplacement_8 : decode cX10_bestReplacement 8 = .ok (.ireturn, 1) := by decide +kernel
theorem dX10_bestReplacement_9 : decode cX10_bestReplacement 9 = .ok (.iconst (-1), 1) := by decide +kernel
theorem dX10_bestReplacement_10 : decode cX10_bestReplacement 10 = .ok (.istore_n 2, 1) := by decide +kernel
theorem dX10_bestReplacement_11 : decode cX10_bestReplacement 11 = .ok (.iconst (-1), 1) := by decide +kernel
theorem dX10_bestReplacement_12 : decode cX10_bestReplacement 12 = .ok (.istore_n 3, 1) := by decide +kernel
theorem dX10_bestReplacement_13 : decode cX10_bestReplacement 13 = .ok (.lconst 0, 1) := by decide +kernel
theorem dX10_bestReplacement_14 : decode cX10_bestReplacement 14 = .ok (.lstore 4, 2) := by decide +kernel
theorem dX10_bestReplacement_16 : decode cX10_bestReplacement 16 = .ok (.iconst 0, 1) := by decide +kernel
theorem dX10_bestReplacement_17 : decode cX10_bestReplacement 17 = .ok (.istore 6, 2) := by decide +kernel
theorem dX10_bestReplacement_19 : decode cX10_bestReplacement 19 = .ok (.iload 6, 2) := by decide +kernel
theorem dX10_bestReplacement_21 : decode cX10_bestReplacement 21 = .ok (.aload_n 0, 1) := by decide +kernel
theorem dX10_bestReplacement_22 : decode cX10_bestReplacement 22 = .ok (.getfield 12, 3) := by decide +kernel
theorem dX10_bestReplacement_25 : decode cX10_bestReplacement 25 = .ok (.getfield 150, 3) := by decide +kernel
theorem dX10_bestReplacement_28 : decode cX10_bestReplacement 28 = .ok (.if_icmp .ge 91, 3) := by decide +kernel
theorem dX10_bestReplacement_31 : decode cX10_bestReplacement 31 = .ok (.aload_n 0, 1) := by decide +kernel
theorem dX10_bestReplacement_32 : decode cX10_bestReplacement 32 = .ok (.getfield 12, 3) := by decide +kernel
theorem dX10_bestReplacement_35 : decode cX10_bestReplacement 35 = .ok (.iload 6, 2) := by decide +kernel
theorem dX10_bestReplacement_37 : decode cX10_bestReplacement 37 = .ok (.invokevirtual 152, 3) := by decide +kernel
theorem dX10_bestReplacement_40 : decode cX10_bestReplacement 40 = .ok (.astore 7, 2) := by decide +kernel
theorem dX10_bestReplacement_42 : decode cX10_bestReplacement 42 = .ok (.aload 7, 2) := by decide +kernel
theorem dX10_bestReplacement_44 : decode cX10_bestReplacement 44 = .ok (.getfield 156, 3) := by decide +kernel
theorem dX10_bestReplacement_47 : decode cX10_bestReplacement 47 = .ok (.ifCond .ne 16, 3) := by decide +kernel
theorem dX10_bestReplacement_50 : decode cX10_bestReplacement 50 = .ok (.aload_n 0, 1) := by decide +kernel
theorem dX10_bestReplacement_51 : decode cX10_bestReplacement 51 = .ok (.getfield 26, 3) := by decide +kernel
theorem dX10_bestReplacement_54 : decode cX10_bestReplacement 54 = .ok (.aload 7, 2) := by decide +kernel
theorem dX10_bestReplacement_56 : decode cX10_bestReplacement 56 = .ok (.aload_n 1, 1) := by decide +kernel
theorem dX10_bestReplacement_57 : decode cX10_bestReplacement 57 = .ok (.invokevirtual 193, 3) := by decide +kernel
theorem dX10_bestReplacement_60 : decode cX10_bestReplacement 60 = .ok (.goto 4, 3) := by decide +kernel
theorem dX10_bestReplacement_63 : decode cX10_bestReplacement 63 = .ok (.iconst (-1), 1) := by decide +kernel
theorem dX10_bestReplacement_64 : decode cX10_bestReplacement 64 = .ok (.istore 8, 2) := by decide +kernel
theorem dX10_bestReplacement_66 : decode cX10_bestReplacement 66 = .ok (.iload 8, 2) := by decide +kernel
theorem dX10_bestReplacement_68 : decode cX10_bestReplacement 68 = .ok (.iconst (-1), 1) := by decide +kernel
theorem dX10_bestReplacement_69 : decode cX10_bestReplacement 69 = .ok (.if_icmp .eq 44, 3) := by decide +kernel
theorem dX10_bestReplacement_72 : decode cX10_bestReplacement 72 = .ok (.iload_n 2, 1) := by decide +kernel
theorem dX10_bestReplacement_73 : decode cX10_bestReplacement 73 = .ok (.iconst (-1), 1) := by decide +kernel
theorem dX10_bestReplacement_74 : decode cX10_bestReplacement 74 = .ok (.if_icmp .eq 26, 3) := by decide +kernel
theorem dX10_bestReplacement_77 : decode cX10_bestReplacement 77 = .ok (.iload 8, 2) := by decide +kernel
theorem dX10_bestReplacement_79 : decode cX10_bestReplacement 79 = .ok (.iload_n 3, 1) := by decide +kernel
theorem dX10_bestReplacement_80 : decode cX10_bestReplacement 80 = .ok (.if_icmp .lt 20, 3) := by decide +kernel
theorem dX10_bestReplacement_83 : decode cX10_bestReplacement 83 = .ok (.iload 8, 2) := by decide +kernel
theorem dX10_bestReplacement_85 : decode cX10_bestReplacement 85 = .ok (.iload_n 3, 1) := by decide +kernel
theorem dX10_bestReplacement_86 : decode cX10_bestReplacement 86 = .ok (.if_icmp .ne 27, 3) := by decide +kernel
theorem dX10_bestReplacement_89 : decode cX10_bestReplacement 89 = .ok (.aload 7, 2) := by decide +kernel
theorem dX10_bestReplacement_91 : decode cX10_bestReplacement 91 = .ok (.getfield 243, 3) := by decide +kernel
theorem dX10_bestReplacement_94 : decode cX10_bestReplacement 94 = .ok (.lload 4, 2) := by decide +kernel
theorem dX10_bestReplacement_96 : decode cX10_bestReplacement 96 = .ok (.lcmp, 1) := by decide +kernel
theorem dX10_bestReplacement_97 : decode cX10_bestReplacement 97 = .ok (.ifCond .le 16, 3) := by decide +kernel
theorem dX10_bestReplacement_100 : decode cX10_bestReplacement 100 = .ok (.iload 6, 2) := by decide +kernel
theorem dX10_bestReplacement_102 : decode cX10_bestReplacement 102 = .ok (.istore_n 2, 1) := by decide +kernel
theorem dX10_bestReplacement_103 : decode cX10_bestReplacement 103 = .ok (.iload 8, 2) := by decide +kernel
theorem dX10_bestReplacement_105 : decode cX10_bestReplacement 105 = .ok (.istore_n 3, 1) := by decide +kernel
theorem dX10_bestReplacement_106 : decode cX10_bestReplacement 106 = .ok (.aload 7, 2) := by decide +kernel
theorem dX10_bestReplacement_108 : decode cX10_bestReplacement 108 = .ok (.getfield 243, 3) := by decide +kernel
theorem dX10_bestReplacement_111 : decode cX10_bestReplacement 111 = .ok (.lstore 4, 2) := by decide +kernel
theorem dX10_bestReplacement_113 : decode cX10_bestReplacement 113 = .ok (.iinc 6 1, 3) := by decide +kernel
theorem dX10_bestReplacement_116 : decode cX10_bestReplacement 116 = .ok (.goto (-97), 3) := by decide +kernel
theorem dX10_bestReplacement_119 : decode cX10_bestReplacement 119 = .ok (.iload_n 2, 1) := by decide +kernel
theorem dX10_bestReplacement_120 : decode cX10_bestReplacement 120 = .ok (.ireturn, 1) := by decide +kernel
theorem dX11_init_0 : decode cX11_init 0 = .ok (.aload_n 0, 1) := by decide +kernel
theorem dX11_init_1 : decode cX11_init 1 = .ok (.invokespecial 1, 3) := by decide +kernel
theorem dX11_init_4 : decode cX11_init 4 = .ok (.aload_n 0, 1) := by decide +kernel
theorem dX11_init_5 : decode cX11_init 5 = .ok (.sipush 568, 3) := by decide +kernel
theorem dX11_init_8 : decode cX11_init 8 = .ok (.newarray .int, 2) := by decide +kernel
theorem dX11_init_10 : decode cX11_init 10 = .ok (.putfield 7, 3) := by decide +kernel
theorem dX11_init_13 : decode cX11_init 13 = .ok (.aload_n 0, 1) := by decide +kernel
theorem dX11_init_14 : decode cX11_init 14 = .ok (.sipush 568, 3) := by decide +kernel
theorem dX11_init_17 : decode cX11_init 17 = .ok (.newarray .int, 2) := by decide +kernel
theorem dX11_init_19 : decode cX11_init 19 = .ok (.putfield 13, 3) := by decide +kernel
theorem dX11_init_22 : decode cX11_init 22 = .ok (.aload_n 0, 1) := by decide +kernel
theorem dX11_init_23 : decode cX11_init 23 = .ok (.sipush 1136, 3) := by decide +kernel
theorem dX11_init_26 : decode cX11_init 26 = .ok (.newarray .int, 2) := by decide +kernel
theorem dX11_init_28 : decode cX11_init 28 = .ok (.putfield 16, 3) := by decide +kernel
theorem dX11_init_31 : decode cX11_init 31 = .ok (.aload_n 0, 1) := by decide +kernel
theorem dX11_init_32 : decode cX11_init 32 = .ok (.bipush 28, 2) := by decide +kernel
theorem dX11_init_34 : decode cX11_init 34 = .ok (.newarray .long, 2) := by decide +kernel
theorem dX11_init_36 : decode cX11_init 36 = .ok (.putfield 19, 3) := by decide +kernel
theorem dX11_init_39 : decode cX11_init 39 = .ok (.aload_n 0, 1) := by decide +kernel
theorem dX11_init_40 : decode cX11_init 40 = .ok (.bipush 28, 2) := by decide +kernel
theorem dX11_init_42 : decode cX11_init 42 = .ok (.newarray .long, 2) := by decide +kernel
theorem dX11_init_44 : decode cX11_init 44 = .ok (.putfield 23, 3) := by decide +kernel
theorem dX11_init_47 : decode cX11_init 47 = .ok (.aload_n 0, 1) := by decide +kernel
theorem dX11_init_48 : decode cX11_init 48 = .ok (.bipush 56, 2) := by decide +kernel
theorem dX11_init_50 : decode cX11_init 50 = .ok (.newarray .long, 2) := by decide +kernel
theorem dX11_init_52 : decode cX11_init 52 = .ok (.putfield 26, 3) := by decide +kernel
theorem dX11_init_55 : decode cX11_init 55 = .ok (.aload_n 0, 1) := by decide +kernel
theorem dX11_init_56 : decode cX11_init 56 = .ok (.iconst 2, 1) := by decide +kernel
theorem dX11_init_57 : decode cX11_init 57 = .ok (.newarray .boolean, 2) := by decide +kernel
theorem dX11_init_59 : decode cX11_init 59 = .ok (.putfield 29, 3) := by decide +kernel
theorem dX11_init_62 : decode cX11_init 62 = .ok (.aload_n 0, 1) := by decide +kernel
theorem dX11_init_63 : decode cX11_init 63 = .ok (.bipush 44, 2) := by decide +kernel
theorem dX11_init_65 : decode cX11_init 65 = .ok (.newarray .int, 2) := by decide +kernel
theorem dX11_init_67 : decode cX11_init 67 = .ok (.putfield 33, 3) := by decide +kernel
theorem dX11_init_70 : decode cX11_init 70 = .ok (.aload_n 0, 1) := by decide +kernel
theorem dX11_init_71 : decode cX11_init 71 = .ok (.bipush 46, 2) := by decide +kernel
theorem dX11_init_73 : decode cX11_init 73 = .ok (.newarray .int, 2) := by decide +kernel
theorem dX11_init_75 : decode cX11_init 75 = .ok (.putfield 36, 3) := by decide +kernel
theorem dX11_init_78 : decode cX11_init 78 = .ok (.aload_n 0, 1) := by decide +kernel
theorem dX11_init_79 : decode cX11_init 79 = .ok (.sipush 160, 3) := by decide +kernel
theorem dX11_init_82 : decode cX11_init 82 = .ok (.newarray .int, 2) := by decide +kernel
theorem dX11_init_84 : decode cX11_init 84 = .ok (.putfield 39, 3) := by decide +kernel
theorem dX11_init_87 : decode cX11_init 87 = .ok (.aload_n 0, 1) := by decide +kernel
theorem dX11_init_88 : decode cX11_init 88 = .ok (.bipush 20, 2) := by decide +kernel
theorem dX11_init_90 : decode cX11_init 90 = .ok (.newarray .int, 2) := by decide +kernel
theorem dX11_init_92 : decode cX11_init 92 = .ok (.putfield 42, 3) := by decide +kernel
theorem dX11_init_95 : decode cX11_init 95 = .ok (.aload_n 0, 1) := by decide +kernel
theorem dX11_init_96 : decode cX11_init 96 = .ok (.bipush 20, 2) := by decide +kernel
theorem dX11_init_98 : decode cX11_init 98 = .ok (.newarray .int, 2) := by decide +kernel
theorem dX11_init_100 : decode cX11_init 100 = .ok (.putfield 45, 3) := by decide +kernel
theorem dX11_init_103 : decode cX11_init 103 = .ok (.aload_n 0, 1) := by decide +kernel
theorem dX11_init_104 : decode cX11_init 104 = .ok (.bipush 20, 2) := by decide +kernel
theorem dX11_init_106 : decode cX11_init 106 = .ok (.newarray .int, 2) := by decide +kernel
theorem dX11_init_108 : decode cX11_init 108 = .ok (.putfield 48, 3) := by decide +kernel
theorem dX11_init_111 : decode cX11_init 111 = .ok (.aload_n 0, 1) := by decide +kernel
theorem dX11_init_112 : decode cX11_init 112 = .ok (.sipush 600, 3) := by decide +kernel
theorem dX11_init_115 : decode cX11_init 115 = .ok (.newarray .int, 2) := by decide +kernel
theorem dX11_init_117 : decode cX11_init 117 = .ok (.putfield 51, 3) := by decide +kernel
theorem dX11_init_120 : decode cX11_init 120 = .ok (.aload_n 0, 1) := by decide +kernel
theorem dX11_init_121 : decode cX11_init 121 = .ok (.iconst (-1), 1) := by decide +kernel
theorem dX11_init_122 : decode cX11_init 122 = .ok (.putfield 54, 3) := by decide +kernel
theorem dX11_init_125 : decode cX11_init 125 = .ok (.aload_n 0, 1) := by decide +kernel
theorem dX11_init_126 : decode cX11_init 126 = .ok (.iconst 4, 1) := by decide +kernel
theorem dX11_init_127 : decode cX11_init 127 = .ok (.newarray .int, 2) := by decide +kernel
theorem dX11_init_129 : decode cX11_init 129 = .ok (.putfield 58, 3) := by decide +kernel
theorem dX11_init_132 : decode cX11_init 132 = .ok (.aload_n 0, 1) := by decide +kernel
theorem dX11_init_133 : decode cX11_init 133 = .ok (.getfield 7, 3) := by decide +kernel
theorem dX11_init_136 : decode cX11_init 136 = .ok (.iconst 0, 1) := by decide +kernel
theorem dX11_init_137 : decode cX11_init 137 = .ok (.sipush 500, 3) := by decide +kernel
theorem dX11_init_140 : decode cX11_init 140 = .ok (.iastore, 1) := by decide +kernel
theorem dX11_init_141 : decode cX11_init 141 = .ok (.return_, 1) := by decide +kernel
theorem dX11_thrown_0 : decode cX11_thrown 0 = .ok (.aload_n 0, 1) := by decide +kernel
theorem dX11_thrown_1 : decode cX11_thrown 1 = .ok (.getfield 61, 3) := by decide +kernel
theorem dX11_thrown_4 : decode cX11_thrown 4 = .ok (.ireturn, 1) := by decide +kernel
theorem dX11_fail_0 : decode cX11_fail 0 = .ok (.aload_n 0, 1) := by decide +kernel
theorem dX11_fail_1 : decode cX11_fail 1 = .ok (.iload_n 1, 1) := by decide +kernel
theorem dX11_fail_2 : decode cX11_fail 2 = .ok (.putfield 61, 3) := by decide +kernel
theorem dX11_fail_5 : decode cX11_fail 5 = .ok (.iconst 0, 1) := by decide +kernel
theorem dX11_fail_6 : decode cX11_fail 6 = .ok (.ireturn, 1) := by decide +kernel
theorem dX11_isBetween_0 : decode cX11_isBetween 0 = .ok (.iload_n 0, 1) := by decide +kernel
theorem dX11_isBetween_1 : decode cX11_isBetween 1 = .ok (.iload_n 1, 1) := by decide +kernel
theorem dX11_isBetween_2 : decode cX11_isBetween 2 = .ok (.if_icmp .lt 12, 3) := by decide +kernel
theorem dX11_isBetween_5 : decode cX11_isBetween 5 = .ok (.iload_n 0, 1) := by decide +kernel
theorem dX11_isBetween_6 : decode cX11_isBetween 6 = .ok (.iload_n 2, 1) := by decide +kernel
theorem dX11_isBetween_7 : decode cX11_isBetween 7 = .ok (.if_icmp .gt 7, 3) := by decide +kernel
theorem dX11_isBetween_10 : decode cX11_isBetween 10 = .ok (.iconst 1, 1) := by decide +kernel
theorem dX11_isBetween_11 : decode cX11_isBetween 11 = .ok (.goto 4, 3) := by decide +kernel
theorem dX11_isBetween_14 : decode cX11_isBetween 14 = .ok (.iconst 0, 1) := by decide +kernel
theorem dX11_isBetween_15 : decode cX11_isBetween 15 = .ok (.ireturn, 1) := by decide +kernel
theorem dX11_isDriver_0 : decode cX11_isDriver 0 = .ok (.iload_n 1, 1) := by decide +kernel
theorem dX11_isDriver_1 : decode cX11_isDriver 1 = .ok (.iconst 0, 1) := by decide +kernel
theorem dX11_isDriver_2 : decode cX11_isDriver 2 = .ok (.aload_n 0, 1) := by decide +kernel
theorem dX11_isDriver_3 : decode cX11_isDriver 3 = .ok (.getfield 7, 3) := by decide +kernel
theorem dX11_isDriver_6 : decode cX11_isDriver 6 = .ok (.iconst 1, 1) := by decide +kernel
theorem dX11_isDriver_7 : decode cX11_isDriver 7 = .ok (.iaload, 1) := by decide +kernel
theorem dX11_isDriver_8 : decode cX11_isDriver 8 = .ok (.iconst 1, 1) := by decide +kernel
theorem dX11_isDriver_9 : decode cX11_isDriver 9 = .ok (.isub, 1) := by decide +kernel
theorem dX11_isDriver_10 : decode cX11_isDriver 10 = .ok (.invokestatic 64, 3) := by decide +kernel
theorem dX11_isDriver_13 : decode cX11_isDriver 13 = .ok (.ireturn, 1) := by decide +kernel
theorem dX11_isRider_0 : decode cX11_isRider 0 = .ok (.iload_n 1, 1) := by decide +kernel
theorem dX11_isRider_1 : decode cX11_isRider 1 = .ok (.iconst 0, 1) := by decide +kernel
theorem dX11_isRider_2 : decode cX11_isRider 2 = .ok (.aload_n 0, 1) := by decide +kernel
theorem dX11_isRider_3 : decode cX11_isRider 3 = .ok (.getfield 7, 3) := by decide +kernel
theorem dX11_isRider_6 : decode cX11_isRider 6 = .ok (.iconst 2, 1) := by decide +kernel
theorem dX11_isRider_7 : decode cX11_isRider 7 = .ok (.iaload, 1) := by decide +kernel
theorem dX11_isRider_8 : decode cX11_isRider 8 = .ok (.iconst 1, 1) := by decide +kernel
theorem dX11_isRider_9 : decode cX11_isRider 9 = .ok (.isub, 1) := by decide +kernel
theorem dX11_isRider_10 : decode cX11_isRider 10 = .ok (.invokestatic 64, 3) := by decide +kernel
theorem dX11_isRider_13 : decode cX11_isRider 13 = .ok (.ireturn, 1) := by decide +kernel
theorem dX11_driver_0 : decode cX11_driver 0 = .ok (.aload_n 0, 1) := by decide +kernel
theorem dX11_driver_1 : decode cX11_driver 1 = .ok (.getfield 7, 3) := by decide +kernel
theorem dX11_driver_4 : decode cX11_driver 4 = .ok (.bipush 8, 2) := by decide +kernel
theorem dX11_driver_6 : decode cX11_driver 6 = .ok (.bipush 10, 2) := by decide +kernel
theorem dX11_driver_8 : decode cX11_driver 8 = .ok (.iload_n 1, 1) := by decide +kernel
theorem dX11_driver_9 : decode cX11_driver 9 = .ok (.imul, 1) := by decide +kernel
theorem dX11_driver_10 : decode cX11_driver 10 = .ok (.iadd, 1) := by decide +kernel
theorem dX11_driver_11 : decode cX11_driver 11 = .ok (.iload_n 2, 1) := by decide +kernel
theorem dX11_driver_12 : decode cX11_driver 12 = .ok (.iadd, 1) := by decide +kernel
theorem dX11_driver_13 : decode cX11_driver 13 = .ok (.iaload, 1) := by decide +kernel
theorem dX11_driver_14 : decode cX11_driver 14 = .ok (.ireturn, 1) := by decide +kernel
theorem dX11_setDriver_0 : decode cX11_setDriver 0 = .ok (.aload_n 0, 1) := by decide +kernel
theorem dX11_setDriver_1 : decode cX11_setDriver 1 = .ok (.getfield 7, 3) := by decide +kernel
theorem dX11_setDriver_4 : decode cX11_setDriver 4 = .ok (.bipush 8, 2) := by decide +kernel
theorem dX11_setDriver_6 : decode cX11_setDriver 6 = .ok (.bipush 10, 2) := by decide +kernel
theorem dX11_setDriver_8 : decode cX11_setDriver 8 = .ok (.iload_n 1, 1) := by decide +kernel
theorem dX11_setDriver_9 : decode cX11_setDriver 9 = .ok (.imul, 1) := by decide +kernel
theorem dX11_setDriver_10 : decode cX11_setDriver 10 = .ok (.iadd, 1) := by decide +kernel
theorem dX11_setDriver_11 : decode cX11_setDriver 11 = .ok (.iload_n 2, 1) := by decide +kernel
theorem dX11_setDriver_12 : decode cX11_setDriver 12 = .ok (.iadd, 1) := by decide +kernel
theorem dX11_setDriver_13 : decode cX11_setDriver 13 = .ok (.iload_n 3, 1) := by decide +kernel
theorem dX11_setDriver_14 : decode cX11_setDriver 14 = .ok (.iastore, 1) := by decide +kernel
theorem dX11_setDriver_15 : decode cX11_setDriver 15 = .ok (.return_, 1) := by decide +kernel
theorem dX11_rider_0 : decode cX11_rider 0 = .ok (.aload_n 0, 1) := by decide +kernel
theorem dX11_rider_1 : decode cX11_rider 1 = .ok (.getfield 7, 3) := by decide +kernel
theorem dX11_rider_4 : decode cX11_rider 4 = .ok (.sipush 408, 3) := by decide +kernel
theorem dX11_rider_7 : decode cX11_rider 7 = .ok (.bipush 8, 2) := by decide +kernel
theorem dX11_rider_9 : decode cX11_rider 9 = .ok (.iload_n 1, 1) := by decide +kernel
theorem dX11_rider_10 : decode cX11_rider 10 = .ok (.imul, 1) := by decide +kernel
theorem dX11_rider_11 : decode cX11_rider 11 = .ok (.iadd, 1) := by decide +kernel
theorem dX11_rider_12 : decode cX11_rider 12 = .ok (.iload_n 2, 1) := by decide +kernel
theorem dX11_rider_13 : decode cX11_rider 13 = .ok (.iadd, 1) := by decide +kernel
theorem dX11_rider_14 : decode cX11_rider 14 = .ok (.iaload, 1) := by decide +kernel
theorem dX11_rider_15 : decode cX11_rider 15 = .ok (.ireturn, 1) := by decide +kernel
theorem dX11_setRider_0 : decode cX11_setRider 0 = .ok (.aload_n 0, 1) := by decide +kernel
theorem dX11_setRider_1 : decode cX11_setRider 1 = .ok (.getfield 7, 3) := by decide +kernel
theorem dX11_setRider_4 : decode cX11_setRider 4 = .ok (.sipush 408, 3) := by decide +kernel
theorem dX11_setRider_7 : decode cX11_setRider 7 = .ok (.bipush 8, 2) := by decide +kernel
theorem dX11_setRider_9 : decode cX11_setRider 9 = .ok (.iload_n 1, 1) := by decide +kernel
theorem dX11_setRider_10 : decode cX11_setRider 10 = .ok (.imul, 1) := by decide +kernel
theorem dX11_setRider_11 : decode cX11_setRider 11 = .ok (.iadd, 1) := by decide +kernel
theorem dX11_setRider_12 : decode cX11_setRider 12 = .ok (.iload_n 2, 1) := by decide +kernel
theorem dX11_setRider_13 : decode cX11_setRider 13 = .ok (.iadd, 1) := by decide +kernel
theorem dX11_setRider_14 : decode cX11_setRider 14 = .ok (.iload_n 3, 1) := by decide +kernel
theorem dX11_setRider_15 : decode cX11_setRider 15 = .ok (.iastore, 1) := by decide +kernel
theorem dX11_setRider_16 : decode cX11_setRider 16 = .ok (.return_, 1) := by decide +kernel
theorem dX11_stop_0 : decode cX11_stop 0 = .ok (.aload_n 0, 1) := by decide +kernel
theorem dX11_stop_1 : decode cX11_stop 1 = .ok (.getfield 7, 3) := by decide +kernel
theorem dX11_stop_4 : decode cX11_stop 4 = .ok (.bipush 88, 2) := by decide +kernel
theorem dX11_stop_6 : decode cX11_stop 6 = .ok (.bipush 40, 2) := by decide +kernel
theorem dX11_stop_8 : decode cX11_stop 8 = .ok (.iload_n 1, 1) := by decide +kernel
theorem dX11_stop_9 : decode cX11_stop 9 = .ok (.imul, 1) := by decide +kernel
theorem dX11_stop_10 : decode cX11_stop 10 = .ok (.iadd, 1) := by decide +kernel
theorem dX11_stop_11 : decode cX11_stop 11 = .ok (.iload_n 2, 1) := by decide +kernel
theorem dX11_stop_12 : decode cX11_stop 12 = .ok (.iadd, 1) := by decide +kernel
theorem dX11_stop_13 : decode cX11_stop 13 = .ok (.iaload, 1) := by decide +kernel
theorem dX11_stop_14 : decode cX11_stop 14 = .ok (.ireturn, 1) := by decide +kernel
theorem dX11_isOpen_0 : decode cX11_isOpen 0 = .ok (.aload_n 0, 1) := by decide +kernel
theorem dX11_isOpen_1 : decode cX11_isOpen 1 = .ok (.iload_n 1, 1) := by decide +kernel
theorem dX11_isOpen_2 : decode cX11_isOpen 2 = .ok (.bipush 8, 2) := by decide +kernel
theorem dX11_isOpen_4 : decode cX11_isOpen 4 = .ok (.invokevirtual 68, 3) := by decide +kernel
theorem dX11_isOpen_7 : decode cX11_isOpen 7 = .ok (.ifCond .ne 7, 3) := by decide +kernel
theorem dX11_isOpen_10 : decode cX11_isOpen 10 = .ok (.iconst 1, 1) := by decide +kernel
theorem dX11_isOpen_11 : decode cX11_isOpen 11 = .ok (.goto 4, 3) := by decide +kernel
theorem dX11_isOpen_14 : decode cX11_isOpen 14 = .ok (.iconst 0, 1) := by decide +kernel
theorem dX11_isOpen_15 : decode cX11_isOpen 15 = .ok (.ireturn, 1) := by decide +kernel
theorem dX11_isIn_0 : decode cX11_isIn 0 = .ok (.aload_n 0, 1) := by decide +kernel
theorem dX11_isIn_1 : decode cX11_isIn 1 = .ok (.iload_n 1, 1) := by decide +kernel
theorem dX11_isIn_2 : decode cX11_isIn 2 = .ok (.bipush 7, 2) := by decide +kernel
theorem dX11_isIn_4 : decode cX11_isIn 4 = .ok (.invokevirtual 72, 3) := by decide +kernel
theorem dX11_isIn_7 : decode cX11_isIn 7 = .ok (.iload_n 2, 1) := by decide +kernel
theorem dX11_isIn_8 : decode cX11_isIn 8 = .ok (.if_icmp .ne 7, 3) := by decide +kernel
theorem dX11_isIn_11 : decode cX11_isIn 11 = .ok (.iconst 1, 1) := by decide +kernel
theorem dX11_isIn_12 : decode cX11_isIn 12 = .ok (.goto 4, 3) := by decide +kernel
theorem dX11_isIn_15 : decode cX11_isIn 15 = .ok (.iconst 0, 1) := by decide +kernel
theorem dX11_isIn_16 : decode cX11_isIn 16 = .ok (.ireturn, 1) := by decide +kernel
theorem dX11_arePlaces_0 : decode cX11_arePlaces 0 = .ok (.iload_n 0, 1) := by decide +kernel
theorem dX11_arePlaces_1 : decode cX11_arePlaces 1 = .ok (.iconst 0, 1) := by decide +kernel
theorem dX11_arePlaces_2 : decode cX11_arePlaces 2 = .ok (.bipush 99, 2) := by decide +kernel
theorem dX11_arePlaces_4 : decode cX11_arePlaces 4 = .ok (.invokestatic 64, 3) := by decide +kernel
theorem dX11_arePlaces_7 : decode cX11_arePlaces 7 = .ok (.ifCond .eq 37, 3) := by decide +kernel
theorem dX11_arePlaces_10 : decode cX11_arePlaces 10 = .ok (.iload_n 1, 1) := by decide +kernel
theorem dX11_arePlaces_11 : decode cX11_arePlaces 11 = .ok (.iconst 0, 1) := by decide +kernel
theorem dX11_arePlaces_12 : decode cX11_arePlaces 12 = .ok (.bipush 99, 2) := by decide +kernel
theorem dX11_arePlaces_14 : decode cX11_arePlaces 14 = .ok (.invokestatic 64, 3) := by decide +kernel
theorem dX11_arePlaces_17 : decode cX11_arePlaces 17 = .ok (.ifCond .eq 27, 3) := by decide +kernel
theorem dX11_arePlaces_20 : decode cX11_arePlaces 20 = .ok (.iload_n 2, 1) := by decide +kernel
theorem dX11_arePlaces_21 : decode cX11_arePlaces 21 = .ok (.iconst 0, 1) := by decide +kernel
theorem dX11_arePlaces_22 : decode cX11_arePlaces 22 = .ok (.bipush 99, 2) := by decide +kernel
theorem dX11_arePlaces_24 : decode cX11_arePlaces 24 = .ok (.invokestatic 64, 3) := by decide +kernel
theorem dX11_arePlaces_27 : decode cX11_arePlaces 27 = .ok (.ifCond .eq 17, 3) := by decide +kernel
theorem dX11_arePlaces_30 : decode cX11_arePlaces 30 = .ok (.iload_n 3, 1) := by decide +kernel
theorem dX11_arePlaces_31 : decode cX11_arePlaces 31 = .ok (.iconst 0, 1) := by decide +kernel
theorem dX11_arePlaces_32 : decode cX11_arePlaces 32 = .ok (.bipush 99, 2) := by decide +kernel
theorem dX11_arePlaces_34 : decode cX11_arePlaces 34 = .ok (.invokestatic 64, 3) := by decide +kernel
theorem dX11_arePlaces_37 : decode cX11_arePlaces 37 = .ok (.ifCond .eq 7, 3) := by decide +kernel
theorem dX11_arePlaces_40 : decode cX11_arePlaces 40 = .ok (.iconst 1, 1) := by decide +kernel
theorem dX11_arePlaces_41 : decode cX11_arePlaces 41 = .ok (.goto 4, 3) := by decide +kernel
theorem dX11_arePlaces_44 : decode cX11_arePlaces 44 = .ok (.iconst 0, 1) := by decide +kernel
theorem dX11_arePlaces_45 : decode cX11_arePlaces 45 = .ok (.ireturn, 1) := by decide +kernel
theorem dX11_appendDriver_0 : decode cX11_appendDriver 0 = .ok (.aload_n 0, 1) := by decide +kernel
theorem dX11_appendDriver_1 : decode cX11_appendDriver 1 = .ok (.getfield 7, 3) := by decide +kernel
theorem dX11_appendDriver_4 : decode cX11_appendDriver 4 = .ok (.iconst 1, 1) := by decide +kernel
theorem dX11_appendDriver_5 : decode cX11_appendDriver 5 = .ok (.iaload, 1) := by decide +kernel
theorem dX11_appendDriver_6 : decode cX11_appendDriver 6 = .ok (.istore 5, 2) := by decide +kernel
theorem dX11_appendDriver_8 : decode cX11_appendDriver 8 = .ok (.iconst 0, 1) := by decide +kernel
theorem dX11_appendDriver_9 : decode cX11_appendDriver 9 = .ok (.istore 6, 2) := by decide +kernel
theorem dX11_appendDriver_11 : decode cX11_appendDriver 11 = .ok (.iload 6, 2) := by decide +kernel
theorem dX11_appendDriver_13 : decode cX11_appendDriver 13 = .ok (.bipush 10, 2) := by decide +kernel
theorem dX11_appendDriver_15 : decode cX11_appendDriver 15 = .ok (.if_icmp .ge 18, 3) := by decide +kernel
theorem dX11_appendDriver_18 : decode cX11_appendDriver 18 = .ok (.aload_n 0, 1) := by decide +kernel
theorem dX11_appendDriver_19 : decode cX11_appendDriver 19 = .ok (.iload 5, 2) := by decide +kernel
theorem dX11_appendDriver_21 : decode cX11_appendDriver 21 = .ok (.iload 6, 2) := by decide +kernel
theorem dX11_appendDriver_23 : decode cX11_appendDriver 23 = .ok (.iconst 0, 1) := by decide +kernel
theorem dX11_appendDriver_24 : decode cX11_appendDriver 24 = .ok (.invokevirtual 75, 3) := by decide +kernel
theorem dX11_appendDriver_27 : decode cX11_appendDriver 27 = .ok (.iinc 6 1, 3) := by decide +kernel
theorem dX11_appendDriver_30 : decode cX11_appendDriver 30 = .ok (.goto (-19), 3) := by decide +kernel
theorem dX11_appendDriver_33 : decode cX11_appendDriver 33 = .ok (.aload_n 0, 1) := by decide +kernel
theorem dX11_appendDriver_34 : decode cX11_appendDriver 34 = .ok (.iload 5, 2) := by decide +kernel
theorem dX11_appendDriver_36 : decode cX11_appendDriver 36 = .ok (.iconst 4, 1) := by decide +kernel
theorem dX11_appendDriver_37 : decode cX11_appendDriver 37 = .ok (.iload_n 1, 1) := by decide +kernel
theorem dX11_appendDriver_38 : decode cX11_appendDriver 38 = .ok (.invokevirtual 75, 3) := by decide +kernel
theorem dX11_appendDriver_41 : decode cX11_appendDriver 41 = .ok (.aload_n 0, 1) := by decide +kernel
theorem dX11_appendDriver_42 : decode cX11_appendDriver 42 = .ok (.iload 5, 2) := by decide +kernel
theorem dX11_appendDriver_44 : decode cX11_appendDriver 44 = .ok (.iconst 5, 1) := by decide +kernel
theorem dX11_appendDriver_45 : decode cX11_appendDriver 45 = .ok (.iload_n 2, 1) := by decide +kernel
theorem dX11_appendDriver_46 : decode cX11_appendDriver 46 = .ok (.invokevirtual 75, 3) := by decide +kernel
theorem dX11_appendDriver_49 : decode cX11_appendDriver 49 = .ok (.aload_n 0, 1) := by decide +kernel
theorem dX11_appendDriver_50 : decode cX11_appendDriver 50 = .ok (.iload 5, 2) := by decide +kernel
theorem dX11_appendDriver_52 : decode cX11_appendDriver 52 = .ok (.bipush 6, 2) := by decide +kernel
theorem dX11_appendDriver_54 : decode cX11_appendDriver 54 = .ok (.iload_n 3, 1) := by decide +kernel
theorem dX11_appendDriver_55 : decode cX11_appendDriver 55 = .ok (.invokevirtual 75, 3) := by decide +kernel
theorem dX11_appendDriver_58 : decode cX11_appendDriver 58 = .ok (.aload_n 0, 1) := by decide +kernel
theorem dX11_appendDriver_59 : decode cX11_appendDriver 59 = .ok (.iload 5, 2) := by decide +kernel
theorem dX11_appendDriver_61 : decode cX11_appendDriver 61 = .ok (.bipush 7, 2) := by decide +kernel
theorem dX11_appendDriver_63 : decode cX11_appendDriver 63 = .ok (.iload 4, 2) := by decide +kernel
theorem dX11_appendDriver_65 : decode cX11_appendDriver 65 = .ok (.invokevirtual 75, 3) := by decide +kernel
theorem dX11_appendDriver_68 : decode cX11_appendDriver 68 = .ok (.aload_n 0, 1) := by decide +kernel
theorem dX11_appendDriver_69 : decode cX11_appendDriver 69 = .ok (.getfield 19, 3) := by decide +kernel
theorem dX11_appendDriver_72 : decode cX11_appendDriver 72 = .ok (.iload 5, 2) := by decide +kernel
theorem dX11_appendDriver_74 : decode cX11_appendDriver 74 = .ok (.lconst 0, 1) := by decide +kernel
theorem dX11_appendDriver_75 : decode cX11_appendDriver 75 = .ok (.lastore, 1) := by decide +kernel
theorem dX11_appendDriver_76 : decode cX11_appendDriver 76 = .ok (.aload_n 0, 1) := by decide +kernel
theorem dX11_appendDriver_77 : decode cX11_appendDriver 77 = .ok (.getfield 7, 3) := by decide +kernel
theorem dX11_appendDriver_80 : decode cX11_appendDriver 80 = .ok (.iconst 1, 1) := by decide +kernel
theorem dX11_appendDriver_81 : decode cX11_appendDriver 81 = .ok (.dup2, 1) := by decide +kernel
theorem dX11_appendDriver_82 : decode cX11_appendDriver 82 = .ok (.iaload, 1) := by decide +kernel
theorem dX11_appendDriver_83 : decode cX11_appendDriver 83 = .ok (.iconst 1, 1) := by decide +kernel
theorem dX11_appendDriver_84 : decode cX11_appendDriver 84 = .ok (.iadd, 1) := by decide +kernel
theorem dX11_appendDriver_85 : decode cX11_appendDriver 85 = .ok (.iastore, 1) := by decide +kernel
theorem dX11_appendDriver_86 : decode cX11_appendDriver 86 = .ok (.iload 5, 2) := by decide +kernel
theorem dX11_appendDriver_88 : decode cX11_appendDriver 88 = .ok (.ireturn, 1) := by decide +kernel
theorem dX11_addDriver_0 : decode cX11_addDriver 0 = .ok (.aload_n 0, 1) := by decide +kernel
theorem dX11_addDriver_1 : decode cX11_addDriver 1 = .ok (.iconst 0, 1) := by decide +kernel
theorem dX11_addDriver_2 : decode cX11_addDriver 2 = .ok (.putfield 61, 3) := by decide +kernel
theorem dX11_addDriver_5 : decode cX11_addDriver 5 = .ok (.iload_n 1, 1) := by decide +kernel
theorem dX11_addDriver_6 : decode cX11_addDriver 6 = .ok (.iconst 1, 1) := by decide +kernel
theorem dX11_addDriver_7 : decode cX11_addDriver 7 = .ok (.iconst 4, 1) := by decide +kernel
theorem dX11_addDriver_8 : decode cX11_addDriver 8 = .ok (.invokestatic 64, 3) := by decide +kernel
theorem dX11_addDriver_11 : decode cX11_addDriver 11 = .ok (.ifCond .eq 36, 3) := by decide +kernel
theorem dX11_addDriver_14 : decode cX11_addDriver 14 = .ok (.iload_n 2, 1) := by decide +kernel
theorem dX11_addDriver_15 : decode cX11_addDriver 15 = .ok (.iconst 0, 1) := by decide +kernel
theorem dX11_addDriver_16 : decode cX11_addDriver 16 = .ok (.sipush 1439, 3) := by decide +kernel
theorem dX11_addDriver_19 : decode cX11_addDriver 19 = .ok (.invokestatic 64, 3) := by decide +kernel
theorem dX11_addDriver_22 : decode cX11_addDriver 22 = .ok (.ifCond .eq 25, 3) := by decide +kernel
theorem dX11_addDriver_25 : decode cX11_addDriver 25 = .ok (.iload_n 3, 1) := by decide +kernel
theorem dX11_addDriver_26 : decode cX11_addDriver 26 = .ok (.iconst 0, 1) := by decide +kernel
theorem dX11_addDriver_27 : decode cX11_addDriver 27 = .ok (.sipush 400, 3) := by decide +kernel
theorem dX11_addDriver_30 : decode cX11_addDriver 30 = .ok (.invokestatic 64, 3) := by decide +kernel
theorem dX11_addDriver_33 : decode cX11_addDriver 33 = .ok (.ifCond .eq 14, 3) := by decide +kernel
theorem dX11_addDriver_36 : decode cX11_addDriver 36 = .ok (.iload 4, 2) := by decide +kernel
theorem dX11_addDriver_38 : decode cX11_addDriver 38 = .ok (.iconst 1, 1) := by decide +kernel
theorem dX11_addDriver_39 : decode cX11_addDriver 39 = .ok (.bipush 99, 2) := by decide +kernel
theorem dX11_addDriver_41 : decode cX11_addDriver 41 = .ok (.invokestatic 64, 3) := by decide +kernel
theorem dX11_addDriver_44 : decode cX11_addDriver 44 = .ok (.ifCond .ne 9, 3) := by decide +kernel
theorem dX11_addDriver_47 : decode cX11_addDriver 47 = .ok (.aload_n 0, 1) := by decide +kernel
theorem dX11_addDriver_48 : decode cX11_addDriver 48 = .ok (.iconst 1, 1) := by decide +kernel
theorem dX11_addDriver_49 : decode cX11_addDriver 49 = .ok (.invokevirtual 79, 3) := by decide +kernel
theorem dX11_addDriver_52 : decode cX11_addDriver 52 = .ok (.ireturn, 1) := by decide +kernel
theorem dX11_addDriver_53 : decode cX11_addDriver 53 = .ok (.aload_n 0, 1) := by decide +kernel
theorem dX11_addDriver_54 : decode cX11_addDriver 54 = .ok (.getfield 7, 3) := by decide +kernel
theorem dX11_addDriver_57 : decode cX11_addDriver 57 = .ok (.iconst 1, 1) := by decide +kernel
theorem dX11_addDriver_58 : decode cX11_addDriver 58 = .ok (.iaload, 1) := by decide +kernel
theorem dX11_addDriver_59 : decode cX11_addDriver 59 = .ok (.bipush 8, 2) := by decide +kernel
theorem dX11_addDriver_61 : decode cX11_addDriver 61 = .ok (.if_icmp .ne 11, 3) := by decide +kernel
theorem dX11_addDriver_64 : decode cX11_addDriver 64 = .ok (.aload_n 0, 1) := by decide +kernel
theorem dX11_addDriver_65 : decode cX11_addDriver 65 = .ok (.iconst 2, 1) := by decide +kernel
theorem dX11_addDriver_66 : decode cX11_addDriver 66 = .ok (.invokevirtual 79, 3) := by decide +kernel
theorem dX11_addDriver_69 : decode cX11_addDriver 69 = .ok (.goto 12, 3) := by decide +kernel
theorem dX11_addDriver_72 : decode cX11_addDriver 72 = .ok (.aload_n 0, 1) := by decide +kernel
theorem dX11_addDriver_73 : decode cX11_addDriver 73 = .ok (.iload_n 1, 1) := by decide +kernel
theorem dX11_addDriver_74 : decode cX11_addDriver 74 = .ok (.iload_n 2, 1) := by decide +kernel
theorem dX11_addDriver_75 : decode cX11_addDriver 75 = .ok (.iload_n 3, 1) := by decide +kernel
theorem dX11_addDriver_76 : decode cX11_addDriver 76 = .ok (.iload 4, 2) := by decide +kernel
theorem dX11_addDriver_78 : decode cX11_addDriver 78 = .ok (.invokevirtual 83, 3) := by decide +kernel
theorem dX11_addDriver_81 : decode cX11_addDriver 81 = .ok (.ireturn, 1) := by decide +kernel
theorem dX11_placeTrip_0 : decode cX11_placeTrip 0 = .ok (.aload_n 0, 1) := by decide +kernel
theorem dX11_placeTrip_1 : decode cX11_placeTrip 1 = .ok (.iload_n 1, 1) := by decide +kernel
theorem dX11_placeTrip_2 : decode cX11_placeTrip 2 = .ok (.iconst 0, 1) := by decide +kernel
theorem dX11_placeTrip_3 : decode cX11_placeTrip 3 = .ok (.iload_n 2, 1) := by decide +kernel
theorem dX11_placeTrip_4 : decode cX11_placeTrip 4 = .ok (.invokevirtual 75, 3) := by decide +kernel
theorem dX11_placeTrip_7 : decode cX11_placeTrip 7 = .ok (.aload_n 0, 1) := by decide +kernel
theorem dX11_placeTrip_8 : decode cX11_placeTrip 8 = .ok (.iload_n 1, 1) := by decide +kernel
theorem dX11_placeTrip_9 : decode cX11_placeTrip 9 = .ok (.iconst 1, 1) := by decide +kernel
theorem dX11_placeTrip_10 : decode cX11_placeTrip 10 = .ok (.iload_n 3, 1) := by decide +kernel
theorem dX11_placeTrip_11 : decode cX11_placeTrip 11 = .ok (.invokevirtual 75, 3) := by decide +kernel
theorem dX11_placeTrip_14 : decode cX11_placeTrip 14 = .ok (.aload_n 0, 1) := by decide +kernel
theorem dX11_placeTrip_15 : decode cX11_placeTrip 15 = .ok (.iload_n 1, 1) := by decide +kernel
theorem dX11_placeTrip_16 : decode cX11_placeTrip 16 = .ok (.iconst 2, 1) := by decide +kernel
theorem dX11_placeTrip_17 : decode cX11_placeTrip 17 = .ok (.iload 4, 2) := by decide +kernel
theorem dX11_placeTrip_19 : decode cX11_placeTrip 19 = .ok (.invokevirtual 75, 3) := by decide +kernel
theorem dX11_placeTrip_22 : decode cX11_placeTrip 22 = .ok (.aload_n 0, 1) := by decide +kernel
theorem dX11_placeTrip_23 : decode cX11_placeTrip 23 = .ok (.iload_n 1, 1) := by decide +kernel
theorem dX11_placeTrip_24 : decode cX11_placeTrip 24 = .ok (.iconst 3, 1) := by decide +kernel
theorem dX11_placeTrip_25 : decode cX11_placeTrip 25 = .ok (.iload 5, 2) := by decide +kernel
theorem dX11_placeTrip_27 : decode cX11_placeTrip 27 = .ok (.invokevirtual 75, 3) := by decide +kernel
theorem dX11_placeTrip_30 : decode cX11_placeTrip 30 = .ok (.return_, 1) := by decide +kernel
theorem dX11_setTrip_0 : decode cX11_setTrip 0 = .ok (.aload_n 0, 1) := by decide +kernel
theorem dX11_setTrip_1 : decode cX11_setTrip 1 = .ok (.iconst 0, 1) := by decide +kernel
theorem dX11_setTrip_2 : decode cX11_setTrip 2 = .ok (.putfield 61, 3) := by decide +kernel
theorem dX11_setTrip_5 : decode cX11_setTrip 5 = .ok (.aload_n 0, 1) := by decide +kernel
theorem dX11_setTrip_6 : decode cX11_setTrip 6 = .ok (.iload_n 1, 1) := by decide +kernel
theorem dX11_setTrip_7 : decode cX11_setTrip 7 = .ok (.invokevirtual 87, 3) := by decide +kernel
theorem dX11_setTrip_10 : decode cX11_setTrip 10 = .ok (.ifCond .ne 9, 3) := by decide +kernel
theorem dX11_setTrip_13 : decode cX11_setTrip 13 = .ok (.aload_n 0, 1) := by decide +kernel
theorem dX11_setTrip_14 : decode cX11_setTrip 14 = .ok (.iconst 1, 1) := by decide +kernel
theorem dX11_setTrip_15 : decode cX11_setTrip 15 = .ok (.invokevirtual 79, 3) := by decide +kernel
theorem dX11_setTrip_18 : decode cX11_setTrip 18 = .ok (.ireturn, 1) := by decide +kernel
theorem dX11_setTrip_19 : decode cX11_setTrip 19 = .ok (.iload_n 2, 1) := by decide +kernel
theorem dX11_setTrip_20 : decode cX11_setTrip 20 = .ok (.iload_n 3, 1) := by decide +kernel
theorem dX11_setTrip_21 : decode cX11_setTrip 21 = .ok (.iload 4, 2) := by decide +kernel
theorem dX11_setTrip_23 : decode cX11_setTrip 23 = .ok (.iload 5, 2) := by decide +kernel
theorem dX11_setTrip_25 : decode cX11_setTrip 25 = .ok (.invokestatic 91, 3) := by decide +kernel
theorem dX11_setTrip_28 : decode cX11_setTrip 28 = .ok (.ifCond .ne 9, 3) := by decide +kernel
theorem dX11_setTrip_31 : decode cX11_setTrip 31 = .ok (.aload_n 0, 1) := by decide +kernel
theorem dX11_setTrip_32 : decode cX11_setTrip 32 = .ok (.iconst 2, 1) := by decide +kernel
theorem dX11_setTrip_33 : decode cX11_setTrip 33 = .ok (.invokevirtual 79, 3) := by decide +kernel
theorem dX11_setTrip_36 : decode cX11_setTrip 36 = .ok (.ireturn, 1) := by decide +kernel
theorem dX11_setTrip_37 : decode cX11_setTrip 37 = .ok (.aload_n 0, 1) := by decide +kernel
theorem dX11_setTrip_38 : decode cX11_setTrip 38 = .ok (.iload_n 1, 1) := by decide +kernel
theorem dX11_setTrip_39 : decode cX11_setTrip 39 = .ok (.invokevirtual 95, 3) := by decide +kernel
theorem dX11_setTrip_42 : decode cX11_setTrip 42 = .ok (.ifCond .eq 13, 3) := by decide +kernel
theorem dX11_setTrip_45 : decode cX11_setTrip 45 = .ok (.aload_n 0, 1) := by decide +kernel
theorem dX11_setTrip_46 : decode cX11_setTrip 46 = .ok (.iload_n 1, 1) := by decide +kernel
theorem dX11_setTrip_47 : decode cX11_setTrip 47 = .ok (.bipush 9, 2) := by decide +kernel
theorem dX11_setTrip_49 : decode cX11_setTrip 49 = .ok (.invokevirtual 68, 3) := by decide +kernel
theorem dX11_setTrip_52 : decode cX11_setTrip 52 = .ok (.ifCond .le 9, 3) := by decide +kernel
theorem dX11_setTrip_55 : decode cX11_setTrip 55 = .ok (.aload_n 0, 1) := by decide +kernel
theorem dX11_setTrip_56 : decode cX11_setTrip 56 = .ok (.iconst 3, 1) := by decide +kernel
theorem dX11_setTrip_57 : decode cX11_setTrip 57 = .ok (.invokevirtual 79, 3) := by decide +kernel
theorem dX11_setTrip_60 : decode cX11_setTrip 60 = .ok (.ireturn, 1) := by decide +kernel
theorem dX11_setTrip_61 : decode cX11_setTrip 61 = .ok (.aload_n 0, 1) := by decide +kernel
theorem dX11_setTrip_62 : decode cX11_setTrip 62 = .ok (.iload_n 1, 1) := by decide +kernel
theorem dX11_setTrip_63 : decode cX11_setTrip 63 = .ok (.iload_n 2, 1) := by decide +kernel
theorem dX11_setTrip_64 : decode cX11_setTrip 64 = .ok (.iload_n 3, 1) := by decide +kernel
theorem dX11_setTrip_65 : decode cX11_setTrip 65 = .ok (.iload 4, 2) := by decide +kernel
theorem dX11_setTrip_67 : decode cX11_setTrip 67 = .ok (.iload 5, 2) := by decide +kernel
theorem dX11_setTrip_69 : decode cX11_setTrip 69 = .ok (.invokevirtual 98, 3) := by decide +kernel
theorem dX11_setTrip_72 : decode cX11_setTrip 72 = .ok (.aload_n 0, 1) := by decide +kernel
theorem dX11_setTrip_73 : decode cX11_setTrip 73 = .ok (.iload_n 1, 1) := by decide +kernel
theorem dX11_setTrip_74 : decode cX11_setTrip 74 = .ok (.invokevirtual 102, 3) := by decide +kernel
theorem dX11_setTrip_77 : decode cX11_setTrip 77 = .ok (.ireturn, 1) := by decide +kernel
theorem dX11_appendRider_0 : decode cX11_appendRider 0 = .ok (.aload_n 0, 1) := by decide +kernel
theorem dX11_appendRider_1 : decode cX11_appendRider 1 = .ok (.getfield 7, 3) := by decide +kernel
theorem dX11_appendRider_4 : decode cX11_appendRider 4 = .ok (.iconst 2, 1) := by decide +kernel
theorem dX11_appendRider_5 : decode cX11_appendRider 5 = .ok (.iaload, 1) := by decide +kernel
theorem dX11_appendRider_6 : decode cX11_appendRider 6 = .ok (.istore 7, 2) := by decide +kernel
theorem dX11_appendRider_8 : decode cX11_appendRider 8 = .ok (.aload_n 0, 1) := by decide +kernel
theorem dX11_appendRider_9 : decode cX11_appendRider 9 = .ok (.iload 7, 2) := by decide +kernel
theorem dX11_appendRider_11 : decode cX11_appendRider 11 = .ok (.iconst 0, 1) := by decide +kernel
theorem dX11_appendRider_12 : decode cX11_appendRider 12 = .ok (.iload_n 1, 1) := by decide +kernel
theorem dX11_appendRider_13 : decode cX11_appendRider 13 = .ok (.invokevirtual 105, 3) := by decide +kernel
theorem dX11_appendRider_16 : decode cX11_appendRider 16 = .ok (.aload_n 0, 1) := by decide +kernel
theorem dX11_appendRider_17 : decode cX11_appendRider 17 = .ok (.iload 7, 2) := by decide +kernel
theorem dX11_appendRider_19 : decode cX11_appendRider 19 = .ok (.iconst 1, 1) := by decide +kernel
theorem dX11_appendRider_20 : decode cX11_appendRider 20 = .ok (.iload_n 2, 1) := by decide +kernel
theorem dX11_appendRider_21 : decode cX11_appendRider 21 = .ok (.invokevirtual 105, 3) := by decide +kernel
theorem dX11_appendRider_24 : decode cX11_appendRider 24 = .ok (.aload_n 0, 1) := by decide +kernel
theorem dX11_appendRider_25 : decode cX11_appendRider 25 = .ok (.iload 7, 2) := by decide +kernel
theorem dX11_appendRider_27 : decode cX11_appendRider 27 = .ok (.iconst 2, 1) := by decide +kernel
theorem dX11_appendRider_28 : decode cX11_appendRider 28 = .ok (.iload_n 3, 1) := by decide +kernel
theorem dX11_appendRider_29 : decode cX11_appendRider 29 = .ok (.invokevirtual 105, 3) := by decide +kernel
theorem dX11_appendRider_32 : decode cX11_appendRider 32 = .ok (.aload_n 0, 1) := by decide +kernel
theorem dX11_appendRider_33 : decode cX11_appendRider 33 = .ok (.iload 7, 2) := by decide +kernel
theorem dX11_appendRider_35 : decode cX11_appendRider 35 = .ok (.iconst 3, 1) := by decide +kernel
theorem dX11_appendRider_36 : decode cX11_appendRider 36 = .ok (.iload 4, 2) := by decide +kernel
theorem dX11_appendRider_38 : decode cX11_appendRider 38 = .ok (.invokevirtual 105, 3) := by decide +kernel
theorem dX11_appendRider_41 : decode cX11_appendRider 41 = .ok (.aload_n 0, 1) := by decide +kernel
theorem dX11_appendRider_42 : decode cX11_appendRider 42 = .ok (.iload 7, 2) := by decide +kernel
theorem dX11_appendRider_44 : decode cX11_appendRider 44 = .ok (.iconst 4, 1) := by decide +kernel
theorem dX11_appendRider_45 : decode cX11_appendRider 45 = .ok (.iload 5, 2) := by decide +kernel
theorem dX11_appendRider_47 : decode cX11_appendRider 47 = .ok (.invokevirtual 105, 3) := by decide +kernel
theorem dX11_appendRider_50 : decode cX11_appendRider 50 = .ok (.aload_n 0, 1) := by decide +kernel
theorem dX11_appendRider_51 : decode cX11_appendRider 51 = .ok (.iload 7, 2) := by decide +kernel
theorem dX11_appendRider_53 : decode cX11_appendRider 53 = .ok (.iconst 5, 1) := by decide +kernel
theorem dX11_appendRider_54 : decode cX11_appendRider 54 = .ok (.iload 6, 2) := by decide +kernel
theorem dX11_appendRider_56 : decode cX11_appendRider 56 = .ok (.invokevirtual 105, 3) := by decide +kernel
theorem dX11_appendRider_59 : decode cX11_appendRider 59 = .ok (.aload_n 0, 1) := by decide +kernel
theorem dX11_appendRider_60 : decode cX11_appendRider 60 = .ok (.iload 7, 2) := by decide +kernel
theorem dX11_appendRider_62 : decode cX11_appendRider 62 = .ok (.bipush 6, 2) := by decide +kernel
theorem dX11_appendRider_64 : decode cX11_appendRider 64 = .ok (.iconst 0, 1) := by decide +kernel
theorem dX11_appendRider_65 : decode cX11_appendRider 65 = .ok (.invokevirtual 105, 3) := by decide +kernel
theorem dX11_appendRider_68 : decode cX11_appendRider 68 = .ok (.aload_n 0, 1) := by decide +kernel
theorem dX11_appendRider_69 : decode cX11_appendRider 69 = .ok (.iload 7, 2) := by decide +kernel
theorem dX11_appendRider_71 : decode cX11_appendRider 71 = .ok (.bipush 7, 2) := by decide +kernel
theorem dX11_appendRider_73 : decode cX11_appendRider 73 = .ok (.iconst (-1), 1) := by decide +kernel
theorem dX11_appendRider_74 : decode cX11_appendRider 74 = .ok (.invokevirtual 105, 3) := by decide +kernel
theorem dX11_appendRider_77 : decode cX11_appendRider 77 = .ok (.aload_n 0, 1) := by decide +kernel
theorem dX11_appendRider_78 : decode cX11_appendRider 78 = .ok (.getfield 19, 3) := by decide +kernel
theorem dX11_appendRider_81 : decode cX11_appendRider 81 = .ok (.bipush 8, 2) := by decide +kernel
theorem dX11_appendRider_83 : decode cX11_appendRider 83 = .ok (.iload 7, 2) := by decide +kernel
theorem dX11_appendRider_85 : decode cX11_appendRider 85 = .ok (.iadd, 1) := by decide +kernel
theorem dX11_appendRider_86 : decode cX11_appendRider 86 = .ok (.lconst 0, 1) := by decide +kernel
theorem dX11_appendRider_87 : decode cX11_appendRider 87 = .ok (.lastore, 1) := by decide +kernel
theorem dX11_appendRider_88 : decode cX11_appendRider 88 = .ok (.aload_n 0, 1) := by decide +kernel
theorem dX11_appendRider_89 : decode cX11_appendRider 89 = .ok (.getfield 7, 3) := by decide +kernel
theorem dX11_appendRider_92 : decode cX11_appendRider 92 = .ok (.iconst 2, 1) := by decide +kernel
theorem dX11_appendRider_93 : decode cX11_appendRider 93 = .ok (.dup2, 1) := by decide +kernel
theorem dX11_appendRider_94 : decode cX11_appendRider 94 = .ok (.iaload, 1) := by decide +kernel
theorem dX11_appendRider_95 : decode cX11_appendRider 95 = .ok (.iconst 1, 1) := by decide +kernel
theorem dX11_appendRider_96 : decode cX11_appendRider 96 = .ok (.iadd, 1) := by decide +kernel
theorem dX11_appendRider_97 : decode cX11_appendRider 97 = .ok (.iastore, 1) := by decide +kernel
theorem dX11_appendRider_98 : decode cX11_appendRider 98 = .ok (.iload 7, 2) := by decide +kernel
theorem dX11_appendRider_100 : decode cX11_appendRider 100 = .ok (.ireturn, 1) := by decide +kernel
theorem dX11_addRider_0 : decode cX11_addRider 0 = .ok (.aload_n 0, 1) := by decide +kernel
theorem dX11_addRider_1 : decode cX11_addRider 1 = .ok (.iconst 0, 1) := by decide +kernel
theorem dX11_addRider_2 : decode cX11_addRider 2 = .ok (.putfield 61, 3) := by decide +kernel
theorem dX11_addRider_5 : decode cX11_addRider 5 = .ok (.iload_n 1, 1) := by decide +kernel
theorem dX11_addRider_6 : decode cX11_addRider 6 = .ok (.iload_n 2, 1) := by decide +kernel
theorem dX11_addRider_7 : decode cX11_addRider 7 = .ok (.iload_n 3, 1) := by decide +kernel
theorem dX11_addRider_8 : decode cX11_addRider 8 = .ok (.iload 4, 2) := by decide +kernel
theorem dX11_addRider_10 : decode cX11_addRider 10 = .ok (.invokestatic 91, 3) := by decide +kernel
theorem dX11_addRider_13 : decode cX11_addRider 13 = .ok (.ifCond .eq 27, 3) := by decide +kernel
theorem dX11_addRider_16 : decode cX11_addRider 16 = .ok (.iload 5, 2) := by decide +kernel
theorem dX11_addRider_18 : decode cX11_addRider 18 = .ok (.iconst 0, 1) := by decide +kernel
theorem dX11_addRider_19 : decode cX11_addRider 19 = .ok (.sipush 1439, 3) := by decide +kernel
theorem dX11_addRider_22 : decode cX11_addRider 22 = .ok (.invokestatic 64, 3) := by decide +kernel
theorem dX11_addRider_25 : decode cX11_addRider 25 = .ok (.ifCond .eq 15, 3) := by decide +kernel
theorem dX11_addRider_28 : decode cX11_addRider 28 = .ok (.iload 6, 2) := by decide +kernel
theorem dX11_addRider_30 : decode cX11_addRider 30 = .ok (.iconst 0, 1) := by decide +kernel
theorem dX11_addRider_31 : decode cX11_addRider 31 = .ok (.sipush 9999, 3) := by decide +kernel
theorem dX11_addRider_34 : decode cX11_addRider 34 = .ok (.invokestatic 64, 3) := by decide +kernel
theorem dX11_addRider_37 : decode cX11_addRider 37 = .ok (.ifCond .ne 9, 3) := by decide +kernel
theorem dX11_addRider_40 : decode cX11_addRider 40 = .ok (.aload_n 0, 1) := by decide +kernel
theorem dX11_addRider_41 : decode cX11_addRider 41 = .ok (.iconst 1, 1) := by decide +kernel
theorem dX11_addRider_42 : decode cX11_addRider 42 = .ok (.invokevirtual 79, 3) := by decide +kernel
theorem dX11_addRider_45 : decode cX11_addRider 45 = .ok (.ireturn, 1) := by decide +kernel
theorem dX11_addRider_46 : decode cX11_addRider 46 = .ok (.aload_n 0, 1) := by decide +kernel
theorem dX11_addRider_47 : decode cX11_addRider 47 = .ok (.getfield 7, 3) := by decide +kernel
theorem dX11_addRider_50 : decode cX11_addRider 50 = .ok (.iconst 2, 1) := by decide +kernel
theorem dX11_addRider_51 : decode cX11_addRider 51 = .ok (.iaload, 1) := by decide +kernel
theorem dX11_addRider_52 : decode cX11_addRider 52 = .ok (.bipush 20, 2) := by decide +kernel
theorem dX11_addRider_54 : decode cX11_addRider 54 = .ok (.if_icmp .ne 11, 3) := by decide +kernel
theorem dX11_addRider_57 : decode cX11_addRider 57 = .ok (.aload_n 0, 1) := by decide +kernel
theorem dX11_addRider_58 : decode cX11_addRider 58 = .ok (.iconst 2, 1) := by decide +kernel
theorem dX11_addRider_59 : decode cX11_addRider 59 = .ok (.invokevirtual 79, 3) := by decide +kernel
theorem dX11_addRider_62 : decode cX11_addRider 62 = .ok (.goto 16, 3) := by decide +kernel
theorem dX11_addRider_65 : decode cX11_addRider 65 = .ok (.aload_n 0, 1) := by decide +kernel
theorem dX11_addRider_66 : decode cX11_addRider 66 = .ok (.iload_n 1, 1) := by decide +kernel
theorem dX11_addRider_67 : decode cX11_addRider 67 = .ok (.iload_n 2, 1) := by decide +kernel
theorem dX11_addRider_68 : decode cX11_addRider 68 = .ok (.iload_n 3, 1) := by decide +kernel
theorem dX11_addRider_69 : decode cX11_addRider 69 = .ok (.iload 4, 2) := by decide +kernel
theorem dX11_addRider_71 : decode cX11_addRider 71 = .ok (.iload 5, 2) := by decide +kernel
theorem dX11_addRider_73 : decode cX11_addRider 73 = .ok (.iload 6, 2) := by decide +kernel
theorem dX11_addRider_75 : decode cX11_addRider 75 = .ok (.invokevirtual 108, 3) := by decide +kernel
theorem dX11_addRider_78 : decode cX11_addRider 78 = .ok (.ireturn, 1) := by decide +kernel
theorem dX11_driverCount_0 : decode cX11_driverCount 0 = .ok (.aload_n 0, 1) := by decide +kernel
theorem dX11_driverCount_1 : decode cX11_driverCount 1 = .ok (.iconst 0, 1) := by decide +kernel
theorem dX11_driverCount_2 : decode cX11_driverCount 2 = .ok (.putfield 61, 3) := by decide +kernel
theorem dX11_driverCount_5 : decode cX11_driverCount 5 = .ok (.aload_n 0, 1) := by decide +kernel
theorem dX11_driverCount_6 : decode cX11_driverCount 6 = .ok (.getfield 7, 3) := by decide +kernel
theorem dX11_driverCount_9 : decode cX11_driverCount 9 = .ok (.iconst 1, 1) := by decide +kernel
theorem dX11_driverCount_10 : decode cX11_driverCount 10 = .ok (.iaload, 1) := by decide +kernel
theorem dX11_driverCount_11 : decode cX11_driverCount 11 = .ok (.ireturn, 1) := by decide +kernel
theorem dX11_riderCount_0 : decode cX11_riderCount 0 = .ok (.aload_n 0, 1) := by decide +kernel
theorem dX11_riderCount_1 : decode cX11_riderCount 1 = .ok (.iconst 0, 1) := by decide +kernel
theorem dX11_riderCount_2 : decode cX11_riderCount 2 = .ok (.putfield 61, 3) := by decide +kernel
theorem dX11_riderCount_5 : decode cX11_riderCount 5 = .ok (.aload_n 0, 1) := by decide +kernel
theorem dX11_riderCount_6 : decode cX11_riderCount 6 = .ok (.getfield 7, 3) := by decide +kernel
theorem dX11_riderCount_9 : decode cX11_riderCount 9 = .ok (.iconst 2, 1) := by decide +kernel
theorem dX11_riderCount_10 : decode cX11_riderCount 10 = .ok (.iaload, 1) := by decide +kernel
theorem dX11_riderCount_11 : decode cX11_riderCount 11 = .ok (.ireturn, 1) := by decide +kernel
theorem dX11_isDone_0 : decode cX11_isDone 0 = .ok (.aload_n 0, 1) := by decide +kernel
theorem dX11_isDone_1 : decode cX11_isDone 1 = .ok (.aload_n 0, 1) := by decide +kernel
theorem dX11_isDone_2 : decode cX11_isDone 2 = .ok (.iload_n 1, 1) := by decide +kernel
theorem dX11_isDone_3 : decode cX11_isDone 3 = .ok (.invokevirtual 87, 3) := by decide +kernel
theorem dX11_isDone_6 : decode cX11_isDone 6 = .ok (.ifCond .eq 7, 3) := by decide +kernel
theorem dX11_isDone_9 : decode cX11_isDone 9 = .ok (.iconst 0, 1) := by decide +kernel
theorem dX11_isDone_10 : decode cX11_isDone 10 = .ok (.goto 4, 3) := by decide +kernel
theorem dX11_isDone_13 : decode cX11_isDone 13 = .ok (.iconst 1, 1) := by decide +kernel
theorem dX11_isDone_14 : decode cX11_isDone 14 = .ok (.putfield 61, 3) := by decide +kernel
theorem dX11_isDone_17 : decode cX11_isDone 17 = .ok (.aload_n 0, 1) := by decide +kernel
theorem dX11_isDone_18 : decode cX11_isDone 18 = .ok (.getfield 61, 3) := by decide +kernel
theorem dX11_isDone_21 : decode cX11_isDone 21 = .ok (.ifCond .ne 15, 3) := by decide +kernel
theorem dX11_isDone_24 : decode cX11_isDone 24 = .ok (.aload_n 0, 1) := by decide +kernel
theorem dX11_isDone_25 : decode cX11_isDone 25 = .ok (.iload_n 1, 1) := by decide +kernel
theorem dX11_isDone_26 : decode cX11_isDone 26 = .ok (.invokevirtual 95, 3) := by decide +kernel
theorem dX11_isDone_29 : decode cX11_isDone 29 = .ok (.ifCond .ne 7, 3) := by decide +kernel
theorem dX11_isDone_32 : decode cX11_isDone 32 = .ok (.iconst 1, 1) := by decide +kernel
theorem dX11_isDone_33 : decode cX11_isDone 33 = .ok (.goto 4, 3) := by decide +kernel
theorem dX11_isDone_36 : decode cX11_isDone 36 = .ok (.iconst 0, 1) := by decide +kernel
theorem dX11_isDone_37 : decode cX11_isDone 37 = .ok (.ireturn, 1) := by decide +kernel
theorem dX11_riderState_0 : decode cX11_riderState 0 = .ok (.aload_n 0, 1) := by decide +kernel
theorem dX11_riderState_1 : decode cX11_riderState 1 = .ok (.iconst 0, 1) := by decide +kernel
theorem dX11_riderState_2 : decode cX11_riderState 2 = .ok (.putfield 61, 3) := by decide +kernel
theorem dX11_riderState_5 : decode cX11_riderState 5 = .ok (.aload_n 0, 1) := by decide +kernel
theorem dX11_riderState_6 : decode cX11_riderState 6 = .ok (.iload_n 1, 1) := by decide +kernel
theorem dX11_riderState_7 : decode cX11_riderState 7 = .ok (.invokevirtual 112, 3) := by decide +kernel
theorem dX11_riderState_10 : decode cX11_riderState 10 = .ok (.ifCond .eq 13, 3) := by decide +kernel
theorem dX11_riderState_13 : decode cX11_riderState 13 = .ok (.aload_n 0, 1) := by decide +kernel
theorem dX11_riderState_14 : decode cX11_riderState 14 = .ok (.iload_n 1, 1) := by decide +kernel
theorem dX11_riderState_15 : decode cX11_riderState 15 = .ok (.bipush 6, 2) := by decide +kernel
theorem dX11_riderState_17 : decode cX11_riderState 17 = .ok (.invokevirtual 72, 3) := by decide +kernel
theorem dX11_riderState_20 : decode cX11_riderState 20 = .ok (.goto 8, 3) := by decide +kernel
theorem dX11_riderState_23 : decode cX11_riderState 23 = .ok (.aload_n 0, 1) := by decide +kernel
theorem dX11_riderState_24 : decode cX11_riderState 24 = .ok (.iconst 1, 1) := by decide +kernel
theorem dX11_riderState_25 : decode cX11_riderState 25 = .ok (.invokevirtual 79, 3) := by decide +kernel
theorem dX11_riderState_28 : decode cX11_riderState 28 = .ok (.ireturn, 1) := by decide +kernel
theorem dX11_driverOf_0 : decode cX11_driverOf 0 = .ok (.aload_n 0, 1) := by decide +kernel
theorem dX11_driverOf_1 : decode cX11_driverOf 1 = .ok (.iconst 0, 1) := by decide +kernel
theorem dX11_driverOf_2 : decode cX11_driverOf 2 = .ok (.putfield 61, 3) := by decide +kernel
theorem dX11_driverOf_5 : decode cX11_driverOf 5 = .ok (.aload_n 0, 1) := by decide +kernel
theorem dX11_driverOf_6 : decode cX11_driverOf 6 = .ok (.iload_n 1, 1) := by decide +kernel
theorem dX11_driverOf_7 : decode cX11_driverOf 7 = .ok (.invokevirtual 112, 3) := by decide +kernel
theorem dX11_driverOf_10 : decode cX11_driverOf 10 = .ok (.ifCond .eq 13, 3) := by decide +kernel
theorem dX11_driverOf_13 : decode cX11_driverOf 13 = .ok (.aload_n 0, 1) := by decide +kernel
theorem dX11_driverOf_14 : decode cX11_driverOf 14 = .ok (.iload_n 1, 1) := by decide +kernel
theorem dX11_driverOf_15 : decode cX11_driverOf 15 = .ok (.bipush 7, 2) := by decide +kernel
theorem dX11_driverOf_17 : decode cX11_driverOf 17 = .ok (.invokevirtual 72, 3) := by decide +kernel
theorem dX11_driverOf_20 : decode cX11_driverOf 20 = .ok (.goto 8, 3) := by decide +kernel
theorem dX11_driverOf_23 : decode cX11_driverOf 23 = .ok (.aload_n 0, 1) := by decide +kernel
theorem dX11_driverOf_24 : decode cX11_driverOf 24 = .ok (.iconst 1, 1) := by decide +kernel
theorem dX11_driverOf_25 : decode cX11_driverOf 25 = .ok (.invokevirtual 79, 3) := by decide +kernel
theorem dX11_driverOf_28 : decode cX11_driverOf 28 = .ok (.ireturn, 1) := by decide +kernel
theorem dX11_ridersIn_0 : decode cX11_ridersIn 0 = .ok (.iconst 0, 1) := by decide +kernel
theorem dX11_ridersIn_1 : decode cX11_ridersIn 1 = .ok (.istore_n 2, 1) := by decide +kernel
theorem dX11_ridersIn_2 : decode cX11_ridersIn 2 = .ok (.iconst 0, 1) := by decide +kernel
theorem dX11_ridersIn_3 : decode cX11_ridersIn 3 = .ok (.istore_n 3, 1) := by decide +kernel
theorem dX11_ridersIn_4 : decode cX11_ridersIn 4 = .ok (.iload_n 3, 1) := by decide +kernel
theorem dX11_ridersIn_5 : decode cX11_ridersIn 5 = .ok (.aload_n 0, 1) := by decide +kernel
theorem dX11_ridersIn_6 : decode cX11_ridersIn 6 = .ok (.getfield 7, 3) := by decide +kernel
theorem dX11_ridersIn_9 : decode cX11_ridersIn 9 = .ok (.iconst 2, 1) := by decide +kernel
theorem dX11_ridersIn_10 : decode cX11_ridersIn 10 = .ok (.iaload, 1) := by decide +kernel
theorem dX11_ridersIn_11 : decode cX11_ridersIn 11 = .ok (.if_icmp .ge 28, 3) := by decide +kernel
theorem dX11_ridersIn_14 : decode cX11_ridersIn 14 = .ok (.iload_n 2, 1) := by decide +kernel
theorem dX11_ridersIn_15 : decode cX11_ridersIn 15 = .ok (.aload_n 0, 1) := by decide +kernel
theorem dX11_ridersIn_16 : decode cX11_ridersIn 16 = .ok (.iload_n 3, 1) := by decide +kernel
theorem dX11_ridersIn_17 : decode cX11_ridersIn 17 = .ok (.iload_n 1, 1) := by decide +kernel
theorem dX11_ridersIn_18 : decode cX11_ridersIn 18 = .ok (.invokevirtual 115, 3) := by decide +kernel
theorem dX11_ridersIn_21 : decode cX11_ridersIn 21 = .ok (.ifCond .eq 9, 3) := by decide +kernel
theorem dX11_ridersIn_24 : decode cX11_ridersIn 24 = .ok (.iconst 1, 1) := by decide +kernel
theorem dX11_ridersIn_25 : decode cX11_ridersIn 25 = .ok (.iload_n 3, 1) := by decide +kernel
theorem dX11_ridersIn_26 : decode cX11_ridersIn 26 = .ok (.ishl, 1) := by decide +kernel
theorem dX11_ridersIn_27 : decode cX11_ridersIn 27 = .ok (.goto 4, 3) := by decide +kernel
theorem dX11_ridersIn_30 : decode cX11_ridersIn 30 = .ok (.iconst 0, 1) := by decide +kernel
theorem dX11_ridersIn_31 : decode cX11_ridersIn 31 = .ok (.ior, 1) := by decide +kernel
theorem dX11_ridersIn_32 : decode cX11_ridersIn 32 = .ok (.istore_n 2, 1) := by decide +kernel
theorem dX11_ridersIn_33 : decode cX11_ridersIn 33 = .ok (.iinc 3 1, 3) := by decide +kernel
theorem dX11_ridersIn_36 : decode cX11_ridersIn 36 = .ok (.goto (-32), 3) := by decide +kernel
theorem dX11_ridersIn_39 : decode cX11_ridersIn 39 = .ok (.iload_n 2, 1) := by decide +kernel
theorem dX11_ridersIn_40 : decode cX11_ridersIn 40 = .ok (.ireturn, 1) := by decide +kernel
theorem dX11_ridersOf_0 : decode cX11_ridersOf 0 = .ok (.aload_n 0, 1) := by decide +kernel
theorem dX11_ridersOf_1 : decode cX11_ridersOf 1 = .ok (.iconst 0, 1) := by decide +kernel
theorem dX11_ridersOf_2 : decode cX11_ridersOf 2 = .ok (.putfield 61, 3) := by decide +kernel
theorem dX11_ridersOf_5 : decode cX11_ridersOf 5 = .ok (.aload_n 0, 1) := by decide +kernel
theorem dX11_ridersOf_6 : decode cX11_ridersOf 6 = .ok (.iload_n 1, 1) := by decide +kernel
theorem dX11_ridersOf_7 : decode cX11_ridersOf 7 = .ok (.invokevirtual 87, 3) := by decide +kernel
theorem dX11_ridersOf_10 : decode cX11_ridersOf 10 = .ok (.ifCond .eq 11, 3) := by decide +kernel
theorem dX11_ridersOf_13 : decode cX11_ridersOf 13 = .ok (.aload_n 0, 1) := by decide +kernel
theorem dX11_ridersOf_14 : decode cX11_ridersOf 14 = .ok (.iload_n 1, 1) := by decide +kernel
theorem dX11_ridersOf_15 : decode cX11_ridersOf 15 = .ok (.invokevirtual 119, 3) := by decide +kernel
theorem dX11_ridersOf_18 : decode cX11_ridersOf 18 = .ok (.goto 8, 3) := by decide +kernel
theorem dX11_ridersOf_21 : decode cX11_ridersOf 21 = .ok (.aload_n 0, 1) := by decide +kernel
theorem dX11_ridersOf_22 : decode cX11_ridersOf 22 = .ok (.iconst 1, 1) := by decide +kernel
theorem dX11_ridersOf_23 : decode cX11_ridersOf 23 = .ok (.invokevirtual 79, 3) := by decide +kernel
theorem dX11_ridersOf_26 : decode cX11_ridersOf 26 = .ok (.ireturn, 1) := by decide +kernel
theorem dX11_setPenalty_0 : decode cX11_setPenalty 0 = .ok (.aload_n 0, 1) := by decide +kernel
theorem dX11_setPenalty_1 : decode cX11_setPenalty 1 = .ok (.iconst 0, 1) := by decide +kernel
theorem dX11_setPenalty_2 : decode cX11_setPenalty 2 = .ok (.putfield 61, 3) := by decide +kernel
theorem dX11_setPenalty_5 : decode cX11_setPenalty 5 = .ok (.iload_n 1, 1) := by decide +kernel
theorem dX11_setPenalty_6 : decode cX11_setPenalty 6 = .ok (.iconst 0, 1) := by decide +kernel
theorem dX11_setPenalty_7 : decode cX11_setPenalty 7 = .ok (.sipush 9999, 3) := by decide +kernel
theorem dX11_setPenalty_10 : decode cX11_setPenalty 10 = .ok (.invokestatic 64, 3) := by decide +kernel
theorem dX11_setPenalty_13 : decode cX11_setPenalty 13 = .ok (.ifCond .ne 9, 3) := by decide +kernel
theorem dX11_setPenalty_16 : decode cX11_setPenalty 16 = .ok (.aload_n 0, 1) := by decide +kernel
theorem dX11_setPenalty_17 : decode cX11_setPenalty 17 = .ok (.iconst 1, 1) := by decide +kernel
theorem dX11_setPenalty_18 : decode cX11_setPenalty 18 = .ok (.invokevirtual 79, 3) := by decide +kernel
theorem dX11_setPenalty_21 : decode cX11_setPenalty 21 = .ok (.ireturn, 1) := by decide +kernel
theorem dX11_setPenalty_22 : decode cX11_setPenalty 22 = .ok (.aload_n 0, 1) := by decide +kernel
theorem dX11_setPenalty_23 : decode cX11_setPenalty 23 = .ok (.getfield 7, 3) := by decide +kernel
theorem dX11_setPenalty_26 : decode cX11_setPenalty 26 = .ok (.iconst 0, 1) := by decide +kernel
theorem dX11_setPenalty_27 : decode cX11_setPenalty 27 = .ok (.iaload, 1) := by decide +kernel
theorem dX11_setPenalty_28 : decode cX11_setPenalty 28 = .ok (.istore_n 2, 1) := by decide +kernel
theorem dX11_setPenalty_29 : decode cX11_setPenalty 29 = .ok (.aload_n 0, 1) := by decide +kernel
theorem dX11_setPenalty_30 : decode cX11_setPenalty 30 = .ok (.getfield 7, 3) := by decide +kernel
theorem dX11_setPenalty_33 : decode cX11_setPenalty 33 = .ok (.iconst 0, 1) := by decide +kernel
theorem dX11_setPenalty_34 : decode cX11_setPenalty 34 = .ok (.iload_n 1, 1) := by decide +kernel
theorem dX11_setPenalty_35 : decode cX11_setPenalty 35 = .ok (.iastore, 1) := by decide +kernel
theorem dX11_setPenalty_36 : decode cX11_setPenalty 36 = .ok (.iload_n 2, 1) := by decide +kernel
theorem dX11_setPenalty_37 : decode cX11_setPenalty 37 = .ok (.ireturn, 1) := by decide +kernel
theorem dX11_stopX_0 : decode cX11_stopX 0 = .ok (.iload_n 1, 1) := by decide +kernel
theorem dX11_stopX_1 : decode cX11_stopX 1 = .ok (.bipush 100, 2) := by decide +kernel
theorem dX11_stopX_3 : decode cX11_stopX 3 = .ok (.if_icmp .ge 12, 3) := by decide +kernel
theorem dX11_stopX_6 : decode cX11_stopX 6 = .ok (.aload_n 0, 1) := by decide +kernel
theorem dX11_stopX_7 : decode cX11_stopX 7 = .ok (.iload_n 1, 1) := by decide +kernel
theorem dX11_stopX_8 : decode cX11_stopX 8 = .ok (.iconst 0, 1) := by decide +kernel
theorem dX11_stopX_9 : decode cX11_stopX 9 = .ok (.invokevirtual 72, 3) := by decide +kernel
theorem dX11_stopX_12 : decode cX11_stopX 12 = .ok (.goto 12, 3) := by decide +kernel
theorem dX11_stopX_15 : decode cX11_stopX 15 = .ok (.aload_n 0, 1) := by decide +kernel
theorem dX11_stopX_16 : decode cX11_stopX 16 = .ok (.iload_n 1, 1) := by decide +kernel
theorem dX11_stopX_17 : decode cX11_stopX 17 = .ok (.bipush 100, 2) := by decide +kernel
theorem dX11_stopX_19 : decode cX11_stopX 19 = .ok (.isub, 1) := by decide +kernel
theorem dX11_stopX_20 : decode cX11_stopX 20 = .ok (.iconst 2, 1) := by decide +kernel
theorem dX11_stopX_21 : decode cX11_stopX 21 = .ok (.invokevirtual 72, 3) := by decide +kernel
theorem dX11_stopX_24 : decode cX11_stopX 24 = .ok (.ireturn, 1) := by decide +kernel
theorem dX11_stopY_0 : decode cX11_stopY 0 = .ok (.iload_n 1, 1) := by decide +kernel
theorem dX11_stopY_1 : decode cX11_stopY 1 = .ok (.bipush 100, 2) := by decide +kernel
theorem dX11_stopY_3 : decode cX11_stopY 3 = .ok (.if_icmp .ge 12, 3) := by decide +kernel
theorem dX11_stopY_6 : decode cX11_stopY 6 = .ok (.aload_n 0, 1) := by decide +kernel
theorem dX11_stopY_7 : decode cX11_stopY 7 = .ok (.iload_n 1, 1) := by decide +kernel
theorem dX11_stopY_8 : decode cX11_stopY 8 = .ok (.iconst 1, 1) := by decide +kernel
theorem dX11_stopY_9 : decode cX11_stopY 9 = .ok (.invokevirtual 72, 3) := by decide +kernel
theorem dX11_stopY_12 : decode cX11_stopY 12 = .ok (.goto 12, 3) := by decide +kernel
theorem dX11_stopY_15 : decode cX11_stopY 15 = .ok (.aload_n 0, 1) := by decide +kernel
theorem dX11_stopY_16 : decode cX11_stopY 16 = .ok (.iload_n 1, 1) := by decide +kernel
theorem dX11_stopY_17 : decode cX11_stopY 17 = .ok (.bipush 100, 2) := by decide +kernel
theorem dX11_stopY_19 : decode cX11_stopY 19 = .ok (.isub, 1) := by decide +kernel
theorem dX11_stopY_20 : decode cX11_stopY 20 = .ok (.iconst 3, 1) := by decide +kernel
theorem dX11_stopY_21 : decode cX11_stopY 21 = .ok (.invokevirtual 72, 3) := by decide +kernel
theorem dX11_stopY_24 : decode cX11_stopY 24 = .ok (.ireturn, 1) := by decide +kernel
theorem dX11_distance_0 : decode cX11_distance 0 = .ok (.iload_n 0, 1) := by decide +kernel
theorem dX11_distance_1 : decode cX11_distance 1 = .ok (.iload_n 2, 1) := by decide +kernel
theorem dX11_distance_2 : decode cX11_distance 2 = .ok (.isub, 1) := by decide +kernel
theorem dX11_distance_3 : decode cX11_distance 3 = .ok (.invokestatic 122, 3) := by decide +kernel
theorem dX11_distance_6 : decode cX11_distance 6 = .ok (.iload_n 1, 1) := by decide +kernel
theorem dX11_distance_7 : decode cX11_distance 7 = .ok (.iload_n 3, 1) := by decide +kernel
theorem dX11_distance_8 : decode cX11_distance 8 = .ok (.isub, 1) := by decide +kernel
theorem dX11_distance_9 : decode cX11_distance 9 = .ok (.invokestatic 122, 3) := by decide +kernel
theorem dX11_distance_12 : decode cX11_distance 12 = .ok (.iadd, 1) := by decide +kernel
theorem dX11_distance_13 : decode cX11_distance 13 = .ok (.ireturn, 1) := by decide +kernel
theorem dX11_directLength_0 : decode cX11_directLength 0 = .ok (.aload_n 0, 1) := by decide +kernel
theorem dX11_directLength_1 : decode cX11_directLength 1 = .ok (.iload_n 1, 1) := by decide +kernel
theorem dX11_directLength_2 : decode cX11_directLength 2 = .ok (.iconst 0, 1) := by decide +kernel
theorem dX11_directLength_3 : decode cX11_directLength 3 = .ok (.invokevirtual 68, 3) := by decide +kernel
theorem dX11_directLength_6 : decode cX11_directLength 6 = .ok (.aload_n 0, 1) := by decide +kernel
theorem dX11_directLength_7 : decode cX11_directLength 7 = .ok (.iload_n 1, 1) := by decide +kernel
theorem dX11_directLength_8 : decode cX11_directLength 8 = .ok (.iconst 1, 1) := by decide +kernel
theorem dX11_directLength_9 : decode cX11_directLength 9 = .ok (.invokevirtual 68, 3) := by decide +kernel
theorem dX11_directLength_12 : decode cX11_directLength 12 = .ok (.aload_n 0, 1) := by decide +kernel
theorem dX11_directLength_13 : decode cX11_directLength 13 = .ok (.iload_n 1, 1) := by decide +kernel
theorem dX11_directLength_14 : decode cX11_directLength 14 = .ok (.iconst 2, 1) := by decide +kernel
theorem dX11_directLength_15 : decode cX11_directLength 15 = .ok (.invokevirtual 68, 3) := by decide +kernel
theorem dX11_directLength_18 : decode cX11_directLength 18 = .ok (.aload_n 0, 1) := by decide +kernel
theorem dX11_directLength_19 : decode cX11_directLength 19 = .ok (.iload_n 1, 1) := by decide +kernel
theorem dX11_directLength_20 : decode cX11_directLength 20 = .ok (.iconst 3, 1) := by decide +kernel
theorem dX11_directLength_21 : decode cX11_directLength 21 = .ok (.invokevirtual 68, 3) := by decide +kernel
theorem dX11_directLength_24 : decode cX11_directLength 24 = .ok (.invokestatic 127, 3) := by decide +kernel
theorem dX11_directLength_27 : decode cX11_directLength 27 = .ok (.ireturn, 1) := by decide +kernel
theorem dX11_measureRow_0 : decode cX11_measureRow 0 = .ok (.aload_n 0, 1) := by decide +kernel
theorem dX11_measureRow_1 : decode cX11_measureRow 1 = .ok (.iload_n 1, 1) := by decide +kernel
theorem dX11_measureRow_2 : decode cX11_measureRow 2 = .ok (.iconst 0, 1) := by decide +kernel
theorem dX11_measureRow_3 : decode cX11_measureRow 3 = .ok (.invokevirtual 68, 3) := by decide +kernel
theorem dX11_measureRow_6 : decode cX11_measureRow 6 = .ok (.istore_n 2, 1) := by decide +kernel
theorem dX11_measureRow_7 : decode cX11_measureRow 7 = .ok (.aload_n 0, 1) := by decide +kernel
theorem dX11_measureRow_8 : decode cX11_measureRow 8 = .ok (.iload_n 1, 1) := by decide +kernel
theorem dX11_measureRow_9 : decode cX11_measureRow 9 = .ok (.iconst 1, 1) := by decide +kernel
theorem dX11_measureRow_10 : decode cX11_measureRow 10 = .ok (.invokevirtual 68, 3) := by decide +kernel
theorem dX11_measureRow_13 : decode cX11_measureRow 13 = .ok (.istore_n 3, 1) := by decide +kernel
theorem dX11_measureRow_14 : decode cX11_measureRow 14 = .ok (.aload_n 0, 1) := by decide +kernel
theorem dX11_measureRow_15 : decode cX11_measureRow 15 = .ok (.iload_n 1, 1) := by decide +kernel
theorem dX11_measureRow_16 : decode cX11_measureRow 16 = .ok (.iconst 5, 1) := by decide +kernel
theorem dX11_measureRow_17 : decode cX11_measureRow 17 = .ok (.invokevirtual 68, 3) := by decide +kernel
theorem dX11_measureRow_20 : decode cX11_measureRow 20 = .ok (.istore 4, 2) := by decide +kernel
theorem dX11_measureRow_22 : decode cX11_measureRow 22 = .ok (.iconst 0, 1) := by decide +kernel
theorem dX11_measureRow_23 : decode cX11_measureRow 23 = .ok (.istore 5, 2) := by decide +kernel
theorem dX11_measureRow_25 : decode cX11_measureRow 25 = .ok (.aload_n 0, 1) := by decide +kernel
theorem dX11_measureRow_26 : decode cX11_measureRow 26 = .ok (.iconst 0, 1) := by decide +kernel
theorem dX11_measureRow_27 : decode cX11_measureRow 27 = .ok (.putfield 130, 3) := by decide +kernel
theorem dX11_measureRow_30 : decode cX11_measureRow 30 = .ok (.aload_n 0, 1) := by decide +kernel
theorem dX11_measureRow_31 : decode cX11_measureRow 31 = .ok (.iconst 1, 1) := by decide +kernel
theorem dX11_measureRow_32 : decode cX11_measureRow 32 = .ok (.putfield 133, 3) := by decide +kernel
theorem dX11_measureRow_35 : decode cX11_measureRow 35 = .ok (.aload_n 0, 1) := by decide +kernel
theorem dX11_measureRow_36 : decode cX11_measureRow 36 = .ok (.getfield 36, 3) := by decide +kernel
theorem dX11_measureRow_39 : decode cX11_measureRow 39 = .ok (.iconst 0, 1) := by decide +kernel
theorem dX11_measureRow_40 : decode cX11_measureRow 40 = .ok (.iload 4, 2) := by decide +kernel
theorem dX11_measureRow_42 : decode cX11_measureRow 42 = .ok (.iastore, 1) := by decide +kernel
theorem dX11_measureRow_43 : decode cX11_measureRow 43 = .ok (.iconst 0, 1) := by decide +kernel
theorem dX11_measureRow_44 : decode cX11_measureRow 44 = .ok (.istore 6, 2) := by decide +kernel
theorem dX11_measureRow_46 : decode cX11_measureRow 46 = .ok (.iload 6, 2) := by decide +kernel
theorem dX11_measureRow_48 : decode cX11_measureRow 48 = .ok (.aload_n 0, 1) := by decide +kernel
theorem dX11_measureRow_49 : decode cX11_measureRow 49 = .ok (.getfield 137, 3) := by decide +kernel
theorem dX11_measureRow_52 : decode cX11_measureRow 52 = .ok (.if_icmp .ge 168, 3) := by decide +kernel
theorem dX11_measureRow_55 : decode cX11_measureRow 55 = .ok (.aload_n 0, 1) := by decide +kernel
theorem dX11_measureRow_56 : decode cX11_measureRow 56 = .ok (.getfield 33, 3) := by decide +kernel
theorem dX11_measureRow_59 : decode cX11_measureRow 59 = .ok (.iload 6, 2) := by decide +kernel
theorem dX11_measureRow_61 : decode cX11_measureRow 61 = .ok (.iaload, 1) := by decide +kernel
theorem dX11_measureRow_62 : decode cX11_measureRow 62 = .ok (.istore 7, 2) := by decide +kernel
theorem dX11_measureRow_64 : decode cX11_measureRow 64 = .ok (.iload_n 2, 1) := by decide +kernel
theorem dX11_measureRow_65 : decode cX11_measureRow 65 = .ok (.iload_n 3, 1) := by decide +kernel
theorem dX11_measureRow_66 : decode cX11_measureRow 66 = .ok (.aload_n 0, 1) := by decide +kernel
theorem dX11_measureRow_67 : decode cX11_measureRow 67 = .ok (.iload 7, 2) := by decide +kernel
theorem dX11_measureRow_69 : decode cX11_measureRow 69 = .ok (.invokevirtual 140, 3) := by decide +kernel
theorem dX11_measureRow_72 : decode cX11_measureRow 72 = .ok (.aload_n 0, 1) := by decide +kernel
theorem dX11_measureRow_73 : decode cX11_measureRow 73 = .ok (.iload 7, 2) := by decide +kernel
theorem dX11_measureRow_75 : decode cX11_measureRow 75 = .ok (.invokevirtual 143, 3) := by decide +kernel
theorem dX11_measureRow_78 : decode cX11_measureRow 78 = .ok (.invokestatic 127, 3) := by decide +kernel
theorem dX11_measureRow_81 : decode cX11_measureRow 81 = .ok (.istore 8, 2) := by decide +kernel
theorem dX11_measureRow_83 : decode cX11_measureRow 83 = .ok (.aload_n 0, 1) := by decide +kernel
theorem dX11_measureRow_84 : decode cX11_measureRow 84 = .ok (.iload 7, 2) := by decide +kernel
theorem dX11_measureRow_86 : decode cX11_measureRow 86 = .ok (.invokevirtual 140, 3) := by decide +kernel
theorem dX11_measureRow_89 : decode cX11_measureRow 89 = .ok (.istore_n 2, 1) := by decide +kernel
theorem dX11_measureRow_90 : decode cX11_measureRow 90 = .ok (.aload_n 0, 1) := by decide +kernel
theorem dX11_measureRow_91 : decode cX11_measureRow 91 = .ok (.iload 7, 2) := by decide +kernel
theorem dX11_measureRow_93 : decode cX11_measureRow 93 = .ok (.invokevirtual 143, 3) := by decide +kernel
theorem dX11_measureRow_96 : decode cX11_measureRow 96 = .ok (.istore_n 3, 1) := by decide +kernel
theorem dX11_measureRow_97 : decode cX11_measureRow 97 = .ok (.aload_n 0, 1) := by decide +kernel
theorem dX11_measureRow_98 : decode cX11_measureRow 98 = .ok (.dup, 1) := by decide +kernel
theorem dX11_measureRow_99 : decode cX11_measureRow 99 = .ok (.getfield 130, 3) := by decide +kernel
theorem dX11_measureRow_102 : decode cX11_measureRow 102 = .ok (.iload 8, 2) := by decide +kernel
theorem dX11_measureRow_104 : decode cX11_measureRow 104 = .ok (.iadd, 1) := by decide +kernel
theorem dX11_measureRow_105 : decode cX11_measureRow 105 = .ok (.putfield 130, 3) := by decide +kernel
theorem dX11_measureRow_108 : decode cX11_measureRow 108 = .ok (.iload 4, 2) := by decide +kernel
theorem dX11_measureRow_110 : decode cX11_measureRow 110 = .ok (.iload 8, 2) := by decide +kernel
theorem dX11_measureRow_112 : decode cX11_measureRow 112 = .ok (.iadd, 1) := by decide +kernel
theorem dX11_measureRow_113 : decode cX11_measureRow 113 = .ok (.istore 4, 2) := by decide +kernel
theorem dX11_measureRow_115 : decode cX11_measureRow 115 = .ok (.aload_n 0, 1) := by decide +kernel
theorem dX11_measureRow_116 : decode cX11_measureRow 116 = .ok (.getfield 36, 3) := by decide +kernel
theorem dX11_measureRow_119 : decode cX11_measureRow 119 = .ok (.iload 6, 2) := by decide +kernel
theorem dX11_measureRow_121 : decode cX11_measureRow 121 = .ok (.iconst 1, 1) := by decide +kernel
theorem dX11_measureRow_122 : decode cX11_measureRow 122 = .ok (.iadd, 1) := by decide +kernel
theorem dX11_measureRow_123 : decode cX11_measureRow 123 = .ok (.iload 4, 2) := by decide +kernel
theorem dX11_measureRow_125 : decode cX11_measureRow 125 = .ok (.iastore, 1) := by decide +kernel
theorem dX11_measureRow_126 : decode cX11_measureRow 126 = .ok (.iload 7, 2) := by decide +kernel
theorem dX11_measureRow_128 : decode cX11_measureRow 128 = .ok (.bipush 100, 2) := by decide +kernel
theorem dX11_measureRow_130 : decode cX11_measureRow 130 = .ok (.if_icmp .ge 50, 3) := by decide +kernel
theorem dX11_measureRow_133 : decode cX11_measureRow 133 = .ok (.iload 4, 2) := by decide +kernel
theorem dX11_measureRow_135 : decode cX11_measureRow 135 = .ok (.aload_n 0, 1) := by decide +kernel
theorem dX11_measureRow_136 : decode cX11_measureRow 136 = .ok (.iload 7, 2) := by decide +kernel
theorem dX11_measureRow_138 : decode cX11_measureRow 138 = .ok (.iconst 4, 1) := by decide +kernel
theorem dX11_measureRow_139 : decode cX11_measureRow 139 = .ok (.invokevirtual 72, 3) := by decide +kernel
theorem dX11_measureRow_142 : decode cX11_measureRow 142 = .ok (.invokestatic 146, 3) := by decide +kernel
theorem dX11_measureRow_145 : decode cX11_measureRow 145 = .ok (.istore 4, 2) := by decide +kernel
theorem dX11_measureRow_147 : decode cX11_measureRow 147 = .ok (.iinc 5 1, 3) := by decide +kernel
theorem dX11_measureRow_150 : decode cX11_measureRow 150 = .ok (.aload_n 0, 1) := by decide +kernel
theorem dX11_measureRow_151 : decode cX11_measureRow 151 = .ok (.aload_n 0, 1) := by decide +kernel
theorem dX11_measureRow_152 : decode cX11_measureRow 152 = .ok (.getfield 133, 3) := by decide +kernel
theorem dX11_measureRow_155 : decode cX11_measureRow 155 = .ok (.ifCond .eq 18, 3) := by decide +kernel
theorem dX11_measureRow_158 : decode cX11_measureRow 158 = .ok (.iload 5, 2) := by decide +kernel
theorem dX11_measureRow_160 : decode cX11_measureRow 160 = .ok (.aload_n 0, 1) := by decide +kernel
theorem dX11_measureRow_161 : decode cX11_measureRow 161 = .ok (.iload_n 1, 1) := by decide +kernel
theorem dX11_measureRow_162 : decode cX11_measureRow 162 = .ok (.iconst 4, 1) := by decide +kernel
theorem dX11_measureRow_163 : decode cX11_measureRow 163 = .ok (.invokevirtual 68, 3) := by decide +kernel
theorem dX11_measureRow_166 : decode cX11_measureRow 166 = .ok (.if_icmp .gt 7, 3) := by decide +kernel
theorem dX11_measureRow_169 : decode cX11_measureRow 169 = .ok (.iconst 1, 1) := by decide +kernel
theorem dX11_measureRow_170 : decode cX11_measureRow 170 = .ok (.goto 4, 3) := by decide +kernel
theorem dX11_measureRow_173 : decode cX11_measureRow 173 = .ok (.iconst 0, 1) := by decide +kernel
theorem dX11_measureRow_174 : decode cX11_measureRow 174 = .ok (.putfield 133, 3) := by decide +kernel
theorem dX11_measureRow_177 : decode cX11_measureRow 177 = .ok (.goto 37, 3) := by decide +kernel
theorem dX11_measureRow_180 : decode cX11_measureRow 180 = .ok (.iinc 5 (-1), 3) := by decide +kernel
theorem dX11_measureRow_183 : decode cX11_measureRow 183 = .ok (.aload_n 0, 1) := by decide +kernel
theorem dX11_measureRow_184 : decode cX11_measureRow 184 = .ok (.aload_n 0, 1) := by decide +kernel
theorem dX11_measureRow_185 : decode cX11_measureRow 185 = .ok (.getfield 133, 3) := by decide +kernel
theorem dX11_measureRow_188 : decode cX11_measureRow 188 = .ok (.ifCond .eq 22, 3) := by decide +kernel
theorem dX11_measureRow_191 : decode cX11_measureRow 191 = .ok (.iload 4, 2) := by decide +kernel
theorem dX11_measureRow_193 : decode cX11_measureRow 193 = .ok (.aload_n 0, 1) := by decide +kernel
theorem dX11_measureRow_194 : decode cX11_measureRow 194 = .ok (.iload 7, 2) := by decide +kernel
theorem dX11_measureRow_196 : decode cX11_measureRow 196 = .ok (.bipush 100, 2) := by decide +kernel
theorem dX11_measureRow_198 : decode cX11_measureRow 198 = .ok (.isub, 1) := by decide +kernel
theorem dX11_measureRow_199 : decode cX11_measureRow 199 = .ok (.iconst 5, 1) := by decide +kernel
theorem dX11_measureRow_200 : decode cX11_measureRow 200 = .ok (.invokevirtual 72, 3) := by decide +kernel
theorem dX11_measureRow_203 : decode cX11_measureRow 203 = .ok (.if_icmp .gt 7, 3) := by decide +kernel
theorem dX11_measureRow_206 : decode cX11_measureRow 206 = .ok (.iconst 1, 1) := by decide +kernel
theorem dX11_measureRow_207 : decode cX11_measureRow 207 = .ok (.goto 4, 3) := by decide +kernel
theorem dX11_measureRow_210 : decode cX11_measureRow 210 = .ok (.iconst 0, 1) := by decide +kernel
theorem dX11_measureRow_211 : decode cX11_measureRow 211 = .ok (.putfield 133, 3) := by decide +kernel
theorem dX11_measureRow_214 : decode cX11_measureRow 214 = .ok (.iinc 6 1, 3) := by decide +kernel
theorem dX11_measureRow_217 : decode cX11_measureRow 217 = .ok (.goto (-171), 3) := by decide +kernel
theorem dX11_measureRow_220 : decode cX11_measureRow 220 = .ok (.iload_n 2, 1) := by decide +kernel
theorem dX11_measureRow_221 : decode cX11_measureRow 221 = .ok (.iload_n 3, 1) := by decide +kernel
theorem dX11_measureRow_222 : decode cX11_measureRow 222 = .ok (.aload_n 0, 1) := by decide +kernel
theorem dX11_measureRow_223 : decode cX11_measureRow 223 = .ok (.iload_n 1, 1) := by decide +kernel
theorem dX11_measureRow_224 : decode cX11_measureRow 224 = .ok (.iconst 2, 1) := by decide +kernel
theorem dX11_measureRow_225 : decode cX11_measureRow 225 = .ok (.invokevirtual 68, 3) := by decide +kernel
theorem dX11_measureRow_228 : decode cX11_measureRow 228 = .ok (.aload_n 0, 1) := by decide +kernel
theorem dX11_measureRow_229 : decode cX11_measureRow 229 = .ok (.iload_n 1, 1) := by decide +kernel
theorem dX11_measureRow_230 : decode cX11_measureRow 230 = .ok (.iconst 3, 1) := by decide +kernel
theorem dX11_measureRow_231 : decode cX11_measureRow 231 = .ok (.invokevirtual 68, 3) := by decide +kernel
theorem dX11_measureRow_234 : decode cX11_measureRow 234 = .ok (.invokestatic 127, 3) := by decide +kernel
theorem dX11_measureRow_237 : decode cX11_measureRow 237 = .ok (.istore 6, 2) := by decide +kernel
theorem dX11_measureRow_239 : decode cX11_measureRow 239 = .ok (.aload_n 0, 1) := by decide +kernel
theorem dX11_measureRow_240 : decode cX11_measureRow 240 = .ok (.dup, 1) := by decide +kernel
theorem dX11_measureRow_241 : decode cX11_measureRow 241 = .ok (.getfield 130, 3) := by decide +kernel
theorem dX11_measureRow_244 : decode cX11_measureRow 244 = .ok (.iload 6, 2) := by decide +kernel
theorem dX11_measureRow_246 : decode cX11_measureRow 246 = .ok (.iadd, 1) := by decide +kernel
theorem dX11_measureRow_247 : decode cX11_measureRow 247 = .ok (.putfield 130, 3) := by decide +kernel
theorem dX11_measureRow_250 : decode cX11_measureRow 250 = .ok (.aload_n 0, 1) := by decide +kernel
theorem dX11_measureRow_251 : decode cX11_measureRow 251 = .ok (.getfield 36, 3) := by decide +kernel
theorem dX11_measureRow_254 : decode cX11_measureRow 254 = .ok (.aload_n 0, 1) := by decide +kernel
theorem dX11_measureRow_255 : decode cX11_measureRow 255 = .ok (.getfield 137, 3) := by decide +kernel
theorem dX11_measureRow_258 : decode cX11_measureRow 258 = .ok (.iconst 1, 1) := by decide +kernel
theorem dX11_measureRow_259 : decode cX11_measureRow 259 = .ok (.iadd, 1) := by decide +kernel
theorem dX11_measureRow_260 : decode cX11_measureRow 260 = .ok (.iload 4, 2) := by decide +kernel
theorem dX11_measureRow_262 : decode cX11_measureRow 262 = .ok (.iload 6, 2) := by decide +kernel
theorem dX11_measureRow_264 : decode cX11_measureRow 264 = .ok (.iadd, 1) := by decide +kernel
theorem dX11_measureRow_265 : decode cX11_measureRow 265 = .ok (.iastore, 1) := by decide +kernel
theorem dX11_measureRow_266 : decode cX11_measureRow 266 = .ok (.aload_n 0, 1) := by decide +kernel
theorem dX11_measureRow_267 : decode cX11_measureRow 267 = .ok (.aload_n 0, 1) := by decide +kernel
theorem dX11_measureRow_268 : decode cX11_measureRow 268 = .ok (.getfield 133, 3) := by decide +kernel
theorem dX11_measureRow_271 : decode cX11_measureRow 271 = .ok (.ifCond .eq 27, 3) := by decide +kernel
theorem dX11_measureRow_274 : decode cX11_measureRow 274 = .ok (.aload_n 0, 1) := by decide +kernel
theorem dX11_measureRow_275 : decode cX11_measureRow 275 = .ok (.getfield 130, 3) := by decide +kernel
theorem dX11_measureRow_278 : decode cX11_measureRow 278 = .ok (.aload_n 0, 1) := by decide +kernel
theorem dX11_measureRow_279 : decode cX11_measureRow 279 = .ok (.iload_n 1, 1) := by decide +kernel
theorem dX11_measureRow_280 : decode cX11_measureRow 280 = .ok (.invokevirtual 102, 3) := by decide +kernel
theorem dX11_measureRow_283 : decode cX11_measureRow 283 = .ok (.isub, 1) := by decide +kernel
theorem dX11_measureRow_284 : decode cX11_measureRow 284 = .ok (.aload_n 0, 1) := by decide +kernel
theorem dX11_measureRow_285 : decode cX11_measureRow 285 = .ok (.iload_n 1, 1) := by decide +kernel
theorem dX11_measureRow_286 : decode cX11_measureRow 286 = .ok (.bipush 6, 2) := by decide +kernel
theorem dX11_measureRow_288 : decode cX11_measureRow 288 = .ok (.invokevirtual 68, 3) := by decide +kernel
theorem dX11_measureRow_291 : decode cX11_measureRow 291 = .ok (.if_icmp .gt 7, 3) := by decide +kernel
theorem dX11_measureRow_294 : decode cX11_measureRow 294 = .ok (.iconst 1, 1) := by decide +kernel
theorem dX11_measureRow_295 : decode cX11_measureRow 295 = .ok (.goto 4, 3) := by decide +kernel
theorem dX11_measureRow_298 : decode cX11_measureRow 298 = .ok (.iconst 0, 1) := by decide +kernel
theorem dX11_measureRow_299 : decode cX11_measureRow 299 = .ok (.putfield 133, 3) := by decide +kernel
theorem dX11_measureRow_302 : decode cX11_measureRow 302 = .ok (.return_, 1) := by decide +kernel
theorem dX11_takeRoute_0 : decode cX11_takeRoute 0 = .ok (.aload_n 0, 1) := by decide +kernel
theorem dX11_takeRoute_1 : decode cX11_takeRoute 1 = .ok (.iconst 0, 1) := by decide +kernel
theorem dX11_takeRoute_2 : decode cX11_takeRoute 2 = .ok (.putfield 137, 3) := by decide +kernel
theorem dX11_takeRoute_5 : decode cX11_takeRoute 5 = .ok (.iconst 0, 1) := by decide +kernel
theorem dX11_takeRoute_6 : decode cX11_takeRoute 6 = .ok (.istore_n 3, 1) := by decide +kernel
theorem dX11_takeRoute_7 : decode cX11_takeRoute 7 = .ok (.iload_n 3, 1) := by decide +kernel
theorem dX11_takeRoute_8 : decode cX11_takeRoute 8 = .ok (.aload_n 0, 1) := by decide +kernel
theorem dX11_takeRoute_9 : decode cX11_takeRoute 9 = .ok (.iload_n 1, 1) := by decide +kernel
theorem dX11_takeRoute_10 : decode cX11_takeRoute 10 = .ok (.bipush 9, 2) := by decide +kernel
theorem dX11_takeRoute_12 : decode cX11_takeRoute 12 = .ok (.invokevirtual 68, 3) := by decide +kernel
theorem dX11_takeRoute_15 : decode cX11_takeRoute 15 = .ok (.if_icmp .ge 47, 3) := by decide +kernel
theorem dX11_takeRoute_18 : decode cX11_takeRoute 18 = .ok (.aload_n 0, 1) := by decide +kernel
theorem dX11_takeRoute_19 : decode cX11_takeRoute 19 = .ok (.iload_n 1, 1) := by decide +kernel
theorem dX11_takeRoute_20 : decode cX11_takeRoute 20 = .ok (.iload_n 3, 1) := by decide +kernel
theorem dX11_takeRoute_21 : decode cX11_takeRoute 21 = .ok (.invokevirtual 149, 3) := by decide +kernel
theorem dX11_takeRoute_24 : decode cX11_takeRoute 24 = .ok (.istore 4, 2) := by decide +kernel
theorem dX11_takeRoute_26 : decode cX11_takeRoute 26 = .ok (.iload 4, 2) := by decide +kernel
theorem dX11_takeRoute_28 : decode cX11_takeRoute 28 = .ok (.bipush 100, 2) := by decide +kernel
theorem dX11_takeRoute_30 : decode cX11_takeRoute 30 = .ok (.irem, 1) := by decide +kernel
theorem dX11_takeRoute_31 : decode cX11_takeRoute 31 = .ok (.iload_n 2, 1) := by decide +kernel
theorem dX11_takeRoute_32 : decode cX11_takeRoute 32 = .ok (.if_icmp .eq 24, 3) := by decide +kernel
theorem dX11_takeRoute_35 : decode cX11_takeRoute 35 = .ok (.aload_n 0, 1) := by decide +kernel
theorem dX11_takeRoute_36 : decode cX11_takeRoute 36 = .ok (.getfield 33, 3) := by decide +kernel
theorem dX11_takeRoute_39 : decode cX11_takeRoute 39 = .ok (.aload_n 0, 1) := by decide +kernel
theorem dX11_takeRoute_40 : decode cX11_takeRoute 40 = .ok (.getfield 137, 3) := by decide +kernel
theorem dX11_takeRoute_43 : decode cX11_takeRoute 43 = .ok (.iload 4, 2) := by decide +kernel
theorem dX11_takeRoute_45 : decode cX11_takeRoute 45 = .ok (.iastore, 1) := by decide +kernel
theorem dX11_takeRoute_46 : decode cX11_takeRoute 46 = .ok (.aload_n 0, 1) := by decide +kernel
theorem dX11_takeRoute_47 : decode cX11_takeRoute 47 = .ok (.dup, 1) := by decide +kernel
theorem dX11_takeRoute_48 : decode cX11_takeRoute 48 = .ok (.getfield 137, 3) := by decide +kernel
theorem dX11_takeRoute_51 : decode cX11_takeRoute 51 = .ok (.iconst 1, 1) := by decide +kernel
theorem dX11_takeRoute_52 : decode cX11_takeRoute 52 = .ok (.iadd, 1) := by decide +kernel
theorem dX11_takeRoute_53 : decode cX11_takeRoute 53 = .ok (.putfield 137, 3) := by decide +kernel
theorem dX11_takeRoute_56 : decode cX11_takeRoute 56 = .ok (.iinc 3 1, 3) := by decide +kernel
theorem dX11_takeRoute_59 : decode cX11_takeRoute 59 = .ok (.goto (-52), 3) := by decide +kernel
theorem dX11_takeRoute_62 : decode cX11_takeRoute 62 = .ok (.aload_n 0, 1) := by decide +kernel
theorem dX11_takeRoute_63 : decode cX11_takeRoute 63 = .ok (.iload_n 1, 1) := by decide +kernel
theorem dX11_takeRoute_64 : decode cX11_takeRoute 64 = .ok (.invokevirtual 152, 3) := by decide +kernel
theorem dX11_takeRoute_67 : decode cX11_takeRoute 67 = .ok (.return_, 1) := by decide +kernel
theorem dX11_putRoute_0 : decode cX11_putRoute 0 = .ok (.aload_n 0, 1) := by decide +kernel
theorem dX11_putRoute_1 : decode cX11_putRoute 1 = .ok (.iload_n 1, 1) := by decide +kernel
theorem dX11_putRoute_2 : decode cX11_putRoute 2 = .ok (.bipush 9, 2) := by decide +kernel
theorem dX11_putRoute_4 : decode cX11_putRoute 4 = .ok (.aload_n 0, 1) := by decide +kernel
theorem dX11_putRoute_5 : decode cX11_putRoute 5 = .ok (.getfield 137, 3) := by decide +kernel
theorem dX11_putRoute_8 : decode cX11_putRoute 8 = .ok (.invokevirtual 75, 3) := by decide +kernel
theorem dX11_putRoute_11 : decode cX11_putRoute 11 = .ok (.iconst 0, 1) := by decide +kernel
theorem dX11_putRoute_12 : decode cX11_putRoute 12 = .ok (.istore_n 2, 1) := by decide +kernel
theorem dX11_putRoute_13 : decode cX11_putRoute 13 = .ok (.iload_n 2, 1) := by decide +kernel
theorem dX11_putRoute_14 : decode cX11_putRoute 14 = .ok (.aload_n 0, 1) := by decide +kernel
theorem dX11_putRoute_15 : decode cX11_putRoute 15 = .ok (.getfield 137, 3) := by decide +kernel
theorem dX11_putRoute_18 : decode cX11_putRoute 18 = .ok (.if_icmp .ge 29, 3) := by decide +kernel
theorem dX11_putRoute_21 : decode cX11_putRoute 21 = .ok (.aload_n 0, 1) := by decide +kernel
theorem dX11_putRoute_22 : decode cX11_putRoute 22 = .ok (.getfield 7, 3) := by decide +kernel
theorem dX11_putRoute_25 : decode cX11_putRoute 25 = .ok (.bipush 88, 2) := by decide +kernel
theorem dX11_putRoute_27 : decode cX11_putRoute 27 = .ok (.bipush 40, 2) := by decide +kernel
theorem dX11_putRoute_29 : decode cX11_putRoute 29 = .ok (.iload_n 1, 1) := by decide +kernel
theorem dX11_putRoute_30 : decode cX11_putRoute 30 = .ok (.imul, 1) := by decide +kernel
theorem dX11_putRoute_31 : decode cX11_putRoute 31 = .ok (.iadd, 1) := by decide +kernel
theorem dX11_putRoute_32 : decode cX11_putRoute 32 = .ok (.iload_n 2, 1) := by decide +kernel
theorem dX11_putRoute_33 : decode cX11_putRoute 33 = .ok (.iadd, 1) := by decide +kernel
theorem dX11_putRoute_34 : decode cX11_putRoute 34 = .ok (.aload_n 0, 1) := by decide +kernel
theorem dX11_putRoute_35 : decode cX11_putRoute 35 = .ok (.getfield 33, 3) := by decide +kernel
theorem dX11_putRoute_38 : decode cX11_putRoute 38 = .ok (.iload_n 2, 1) := by decide +kernel
theorem dX11_putRoute_39 : decode cX11_putRoute 39 = .ok (.iaload, 1) := by decide +kernel
theorem dX11_putRoute_40 : decode cX11_putRoute 40 = .ok (.iastore, 1) := by decide +kernel
theorem dX11_putRoute_41 : decode cX11_putRoute 41 = .ok (.iinc 2 1, 3) := by decide +kernel
theorem dX11_putRoute_44 : decode cX11_putRoute 44 = .ok (.goto (-31), 3) := by decide +kernel
theorem dX11_putRoute_47 : decode cX11_putRoute 47 = .ok (.return_, 1) := by decide +kernel
theorem dX11_lengthOf_0 : decode cX11_lengthOf 0 = .ok (.aload_n 0, 1) := by decide +kernel
theorem dX11_lengthOf_1 : decode cX11_lengthOf 1 = .ok (.iload_n 1, 1) := by decide +kernel
theorem dX11_lengthOf_2 : decode cX11_lengthOf 2 = .ok (.iconst (-1), 1) := by decide +kernel
theorem dX11_lengthOf_3 : decode cX11_lengthOf 3 = .ok (.invokevirtual 156, 3) := by decide +kernel
theorem dX11_lengthOf_6 : decode cX11_lengthOf 6 = .ok (.aload_n 0, 1) := by decide +kernel
theorem dX11_lengthOf_7 : decode cX11_lengthOf 7 = .ok (.getfield 130, 3) := by decide +kernel
theorem dX11_lengthOf_10 : decode cX11_lengthOf 10 = .ok (.ireturn, 1) := by decide +kernel
theorem dX11_stopCount_0 : decode cX11_stopCount 0 = .ok (.aload_n 0, 1) := by decide +kernel
theorem dX11_stopCount_1 : decode cX11_stopCount 1 = .ok (.iconst 0, 1) := by decide +kernel
theorem dX11_stopCount_2 : decode cX11_stopCount 2 = .ok (.putfield 61, 3) := by decide +kernel
theorem dX11_stopCount_5 : decode cX11_stopCount 5 = .ok (.aload_n 0, 1) := by decide +kernel
theorem dX11_stopCount_6 : decode cX11_stopCount 6 = .ok (.iload_n 1, 1) := by decide +kernel
theorem dX11_stopCount_7 : decode cX11_stopCount 7 = .ok (.invokevirtual 87, 3) := by decide +kernel
theorem dX11_stopCount_10 : decode cX11_stopCount 10 = .ok (.ifCond .eq 15, 3) := by decide +kernel
theorem dX11_stopCount_13 : decode cX11_stopCount 13 = .ok (.aload_n 0, 1) := by decide +kernel
theorem dX11_stopCount_14 : decode cX11_stopCount 14 = .ok (.iload_n 1, 1) := by decide +kernel
theorem dX11_stopCount_15 : decode cX11_stopCount 15 = .ok (.bipush 9, 2) := by decide +kernel
theorem dX11_stopCount_17 : decode cX11_stopCount 17 = .ok (.invokevirtual 68, 3) := by decide +kernel
theorem dX11_stopCount_20 : decode cX11_stopCount 20 = .ok (.iconst 2, 1) := by decide +kernel
theorem dX11_stopCount_21 : decode cX11_stopCount 21 = .ok (.iadd, 1) := by decide +kernel
theorem dX11_stopCount_22 : decode cX11_stopCount 22 = .ok (.goto 8, 3) := by decide +kernel
theorem dX11_stopCount_25 : decode cX11_stopCount 25 = .ok (.aload_n 0, 1) := by decide +kernel
theorem dX11_stopCount_26 : decode cX11_stopCount 26 = .ok (.iconst 1, 1) := by decide +kernel
theorem dX11_stopCount_27 : decode cX11_stopCount 27 = .ok (.invokevirtual 79, 3) := by decide +kernel
theorem dX11_stopCount_30 : decode cX11_stopCount 30 = .ok (.ireturn, 1) := by decide +kernel
theorem dX11_isStop_0 : decode cX11_isStop 0 = .ok (.aload_n 0, 1) := by decide +kernel
theorem dX11_isStop_1 : decode cX11_isStop 1 = .ok (.iload_n 1, 1) := by decide +kernel
theorem dX11_isStop_2 : decode cX11_isStop 2 = .ok (.invokevirtual 87, 3) := by decide +kernel
theorem dX11_isStop_5 : decode cX11_isStop 5 = .ok (.ifCond .eq 24, 3) := by decide +kernel
theorem dX11_isStop_8 : decode cX11_isStop 8 = .ok (.iload_n 2, 1) := by decide +kernel
theorem dX11_isStop_9 : decode cX11_isStop 9 = .ok (.iconst 0, 1) := by decide +kernel
theorem dX11_isStop_10 : decode cX11_isStop 10 = .ok (.aload_n 0, 1) := by decide +kernel
theorem dX11_isStop_11 : decode cX11_isStop 11 = .ok (.iload_n 1, 1) := by decide +kernel
theorem dX11_isStop_12 : decode cX11_isStop 12 = .ok (.bipush 9, 2) := by decide +kernel
theorem dX11_isStop_14 : decode cX11_isStop 14 = .ok (.invokevirtual 68, 3) := by decide +kernel
theorem dX11_isStop_17 : decode cX11_isStop 17 = .ok (.iconst 1, 1) := by decide +kernel
theorem dX11_isStop_18 : decode cX11_isStop 18 = .ok (.iadd, 1) := by decide +kernel
theorem dX11_isStop_19 : decode cX11_isStop 19 = .ok (.invokestatic 64, 3) := by decide +kernel
theorem dX11_isStop_22 : decode cX11_isStop 22 = .ok (.ifCond .eq 7, 3) := by decide +kernel
theorem dX11_isStop_25 : decode cX11_isStop 25 = .ok (.iconst 1, 1) := by decide +kernel
theorem dX11_isStop_26 : decode cX11_isStop 26 = .ok (.goto 4, 3) := by decide +kernel
theorem dX11_isStop_29 : decode cX11_isStop 29 = .ok (.iconst 0, 1) := by decide +kernel
theorem dX11_isStop_30 : decode cX11_isStop 30 = .ok (.ireturn, 1) := by decide +kernel
theorem dX11_stopRider_0 : decode cX11_stopRider 0 = .ok (.aload_n 0, 1) := by decide +kernel
theorem dX11_stopRider_1 : decode cX11_stopRider 1 = .ok (.iconst 0, 1) := by decide +kernel
theorem dX11_stopRider_2 : decode cX11_stopRider 2 = .ok (.putfield 61, 3) := by decide +kernel
theorem dX11_stopRider_5 : decode cX11_stopRider 5 = .ok (.aload_n 0, 1) := by decide +kernel
theorem dX11_stopRider_6 : decode cX11_stopRider 6 = .ok (.iload_n 1, 1) := by decide +kernel
theorem dX11_stopRider_7 : decode cX11_stopRider 7 = .ok (.iload_n 2, 1) := by decide +kernel
theorem dX11_stopRider_8 : decode cX11_stopRider 8 = .ok (.invokevirtual 160, 3) := by decide +kernel
theorem dX11_stopRider_11 : decode cX11_stopRider 11 = .ok (.ifCond .ne 9, 3) := by decide +kernel
theorem dX11_stopRider_14 : decode cX11_stopRider 14 = .ok (.aload_n 0, 1) := by decide +kernel
theorem dX11_stopRider_15 : decode cX11_stopRider 15 = .ok (.iconst 1, 1) := by decide +kernel
theorem dX11_stopRider_16 : decode cX11_stopRider 16 = .ok (.invokevirtual 79, 3) := by decide +kernel
theorem dX11_stopRider_19 : decode cX11_stopRider 19 = .ok (.ireturn, 1) := by decide +kernel
theorem dX11_stopRider_20 : decode cX11_stopRider 20 = .ok (.iload_n 2, 1) := by decide +kernel
theorem dX11_stopRider_21 : decode cX11_stopRider 21 = .ok (.ifCond .eq 16, 3) := by decide +kernel
theorem dX11_stopRider_24 : decode cX11_stopRider 24 = .ok (.iload_n 2, 1) := by decide +kernel
theorem dX11_stopRider_25 : decode cX11_stopRider 25 = .ok (.aload_n 0, 1) := by decide +kernel
theorem dX11_stopRider_26 : decode cX11_stopRider 26 = .ok (.iload_n 1, 1) := by decide +kernel
theorem dX11_stopRider_27 : decode cX11_stopRider 27 = .ok (.bipush 9, 2) := by decide +kernel
theorem dX11_stopRider_29 : decode cX11_stopRider 29 = .ok (.invokevirtual 68, 3) := by decide +kernel
theorem dX11_stopRider_32 : decode cX11_stopRider 32 = .ok (.iconst 1, 1) := by decide +kernel
theorem dX11_stopRider_33 : decode cX11_stopRider 33 = .ok (.iadd, 1) := by decide +kernel
theorem dX11_stopRider_34 : decode cX11_stopRider 34 = .ok (.if_icmp .ne 7, 3) := by decide +kernel
theorem dX11_stopRider_37 : decode cX11_stopRider 37 = .ok (.iconst (-1), 1) := by decide +kernel
theorem dX11_stopRider_38 : decode cX11_stopRider 38 = .ok (.goto 11, 3) := by decide +kernel
theorem dX11_stopRider_41 : decode cX11_stopRider 41 = .ok (.aload_n 0, 1) := by decide +kernel
theorem dX11_stopRider_42 : decode cX11_stopRider 42 = .ok (.iload_n 1, 1) := by decide +kernel
theorem dX11_stopRider_43 : decode cX11_stopRider 43 = .ok (.iload_n 2, 1) := by decide +kernel
theorem dX11_stopRider_44 : decode cX11_stopRider 44 = .ok (.iconst 1, 1) := by decide +kernel
theorem dX11_stopRider_45 : decode cX11_stopRider 45 = .ok (.isub, 1) := by decide +kernel
theorem dX11_stopRider_46 : decode cX11_stopRider 46 = .ok (.invokevirtual 149, 3) := by decide +kernel
theorem dX11_stopRider_49 : decode cX11_stopRider 49 = .ok (.ireturn, 1) := by decide +kernel
theorem dX11_arrival_0 : decode cX11_arrival 0 = .ok (.aload_n 0, 1) := by decide +kernel
theorem dX11_arrival_1 : decode cX11_arrival 1 = .ok (.iconst 0, 1) := by decide +kernel
theorem dX11_arrival_2 : decode cX11_arrival 2 = .ok (.putfield 61, 3) := by decide +kernel
theorem dX11_arrival_5 : decode cX11_arrival 5 = .ok (.aload_n 0, 1) := by decide +kernel
theorem dX11_arrival_6 : decode cX11_arrival 6 = .ok (.iload_n 1, 1) := by decide +kernel
theorem dX11_arrival_7 : decode cX11_arrival 7 = .ok (.iload_n 2, 1) := by decide +kernel
theorem dX11_arrival_8 : decode cX11_arrival 8 = .ok (.invokevirtual 160, 3) := by decide +kernel
theorem dX11_arrival_11 : decode cX11_arrival 11 = .ok (.ifCond .ne 9, 3) := by decide +kernel
theorem dX11_arrival_14 : decode cX11_arrival 14 = .ok (.aload_n 0, 1) := by decide +kernel
theorem dX11_arrival_15 : decode cX11_arrival 15 = .ok (.iconst 1, 1) := by decide +kernel
theorem dX11_arrival_16 : decode cX11_arrival 16 = .ok (.invokevirtual 79, 3) := by decide +kernel
theorem dX11_arrival_19 : decode cX11_arrival 19 = .ok (.ireturn, 1) := by decide +kernel
theorem dX11_arrival_20 : decode cX11_arrival 20 = .ok (.aload_n 0, 1) := by decide +kernel
theorem dX11_arrival_21 : decode cX11_arrival 21 = .ok (.iload_n 1, 1) := by decide +kernel
theorem dX11_arrival_22 : decode cX11_arrival 22 = .ok (.iconst (-1), 1) := by decide +kernel
theorem dX11_arrival_23 : decode cX11_arrival 23 = .ok (.invokevirtual 156, 3) := by decide +kernel
theorem dX11_arrival_26 : decode cX11_arrival 26 = .ok (.aload_n 0, 1) := by decide +kernel
theorem dX11_arrival_27 : decode cX11_arrival 27 = .ok (.getfield 36, 3) := by decide +kernel
theorem dX11_arrival_30 : decode cX11_arrival 30 = .ok (.iload_n 2, 1) := by decide +kernel
theorem dX11_arrival_31 : decode cX11_arrival 31 = .ok (.iaload, 1) := by decide +kernel
theorem dX11_arrival_32 : decode cX11_arrival 32 = .ok (.ireturn, 1) := by decide +kernel
theorem dX11_routeLength_0 : decode cX11_routeLength 0 = .ok (.aload_n 0, 1) := by decide +kernel
theorem dX11_routeLength_1 : decode cX11_routeLength 1 = .ok (.iconst 0, 1) := by decide +kernel
theorem dX11_routeLength_2 : decode cX11_routeLength 2 = .ok (.putfield 61, 3) := by decide +kernel
theorem dX11_routeLength_5 : decode cX11_routeLength 5 = .ok (.aload_n 0, 1) := by decide +kernel
theorem dX11_routeLength_6 : decode cX11_routeLength 6 = .ok (.iload_n 1, 1) := by decide +kernel
theorem dX11_routeLength_7 : decode cX11_routeLength 7 = .ok (.invokevirtual 87, 3) := by decide +kernel
theorem dX11_routeLength_10 : decode cX11_routeLength 10 = .ok (.ifCond .eq 11, 3) := by decide +kernel
theorem dX11_routeLength_13 : decode cX11_routeLength 13 = .ok (.aload_n 0, 1) := by decide +kernel
theorem dX11_routeLength_14 : decode cX11_routeLength 14 = .ok (.iload_n 1, 1) := by decide +kernel
theorem dX11_routeLength_15 : decode cX11_routeLength 15 = .ok (.invokevirtual 163, 3) := by decide +kernel
theorem dX11_routeLength_18 : decode cX11_routeLength 18 = .ok (.goto 8, 3) := by decide +kernel
theorem dX11_routeLength_21 : decode cX11_routeLength 21 = .ok (.aload_n 0, 1) := by decide +kernel
theorem dX11_routeLength_22 : decode cX11_routeLength 22 = .ok (.iconst 1, 1) := by decide +kernel
theorem dX11_routeLength_23 : decode cX11_routeLength 23 = .ok (.invokevirtual 79, 3) := by decide +kernel
theorem dX11_routeLength_26 : decode cX11_routeLength 26 = .ok (.ireturn, 1) := by decide +kernel
theorem dX11_detour_0 : decode cX11_detour 0 = .ok (.aload_n 0, 1) := by decide +kernel
theorem dX11_detour_1 : decode cX11_detour 1 = .ok (.iconst 0, 1) := by decide +kernel
theorem dX11_detour_2 : decode cX11_detour 2 = .ok (.putfield 61, 3) := by decide +kernel
theorem dX11_detour_5 : decode cX11_detour 5 = .ok (.aload_n 0, 1) := by decide +kernel
theorem dX11_detour_6 : decode cX11_detour 6 = .ok (.iload_n 1, 1) := by decide +kernel
theorem dX11_detour_7 : decode cX11_detour 7 = .ok (.invokevirtual 87, 3) := by decide +kernel
theorem dX11_detour_10 : decode cX11_detour 10 = .ok (.ifCond .eq 17, 3) := by decide +kernel
theorem dX11_detour_13 : decode cX11_detour 13 = .ok (.aload_n 0, 1) := by decide +kernel
theorem dX11_detour_14 : decode cX11_detour 14 = .ok (.iload_n 1, 1) := by decide +kernel
theorem dX11_detour_15 : decode cX11_detour 15 = .ok (.invokevirtual 163, 3) := by decide +kernel
theorem dX11_detour_18 : decode cX11_detour 18 = .ok (.aload_n 0, 1) := by decide +kernel
theorem dX11_detour_19 : decode cX11_detour 19 = .ok (.iload_n 1, 1) := by decide +kernel
theorem dX11_detour_20 : decode cX11_detour 20 = .ok (.invokevirtual 102, 3) := by decide +kernel
theorem dX11_detour_23 : decode cX11_detour 23 = .ok (.isub, 1) := by decide +kernel
theorem dX11_detour_24 : decode cX11_detour 24 = .ok (.goto 8, 3) := by decide +kernel
theorem dX11_detour_27 : decode cX11_detour 27 = .ok (.aload_n 0, 1) := by decide +kernel
theorem dX11_detour_28 : decode cX11_detour 28 = .ok (.iconst 1, 1) := by decide +kernel
theorem dX11_detour_29 : decode cX11_detour 29 = .ok (.invokevirtual 79, 3) := by decide +kernel
theorem dX11_detour_32 : decode cX11_detour 32 = .ok (.ireturn, 1) := by decide +kernel
theorem dX11_layInsertion_0 : decode cX11_layInsertion 0 = .ok (.aload_n 0, 1) := by decide +kernel
theorem dX11_layInsertion_1 : decode cX11_layInsertion 1 = .ok (.iconst 0, 1) := by decide +kernel
theorem dX11_layInsertion_2 : decode cX11_layInsertion 2 = .ok (.putfield 137, 3) := by decide +kernel
theorem dX11_layInsertion_5 : decode cX11_layInsertion 5 = .ok (.iconst 0, 1) := by decide +kernel
theorem dX11_layInsertion_6 : decode cX11_layInsertion 6 = .ok (.istore 6, 2) := by decide +kernel
theorem dX11_layInsertion_8 : decode cX11_layInsertion 8 = .ok (.iload 6, 2) := by decide +kernel
theorem dX11_layInsertion_10 : decode cX11_layInsertion 10 = .ok (.iload_n 3, 1) := by decide +kernel
theorem dX11_layInsertion_11 : decode cX11_layInsertion 11 = .ok (.if_icmp .gt 98, 3) := by decide +kernel
theorem dX11_layInsertion_14 : decode cX11_layInsertion 14 = .ok (.iload 6, 2) := by decide +kernel
theorem dX11_layInsertion_16 : decode cX11_layInsertion 16 = .ok (.iload 4, 2) := by decide +kernel
theorem dX11_layInsertion_18 : decode cX11_layInsertion 18 = .ok (.if_icmp .ne 23, 3) := by decide +kernel
theorem dX11_layInsertion_21 : decode cX11_layInsertion 21 = .ok (.aload_n 0, 1) := by decide +kernel
theorem dX11_layInsertion_22 : decode cX11_layInsertion 22 = .ok (.getfield 33, 3) := by decide +kernel
theorem dX11_layInsertion_25 : decode cX11_layInsertion 25 = .ok (.aload_n 0, 1) := by decide +kernel
theorem dX11_layInsertion_26 : decode cX11_layInsertion 26 = .ok (.getfield 137, 3) := by decide +kernel
theorem dX11_layInsertion_29 : decode cX11_layInsertion 29 = .ok (.iload_n 1, 1) := by decide +kernel
theorem dX11_layInsertion_30 : decode cX11_layInsertion 30 = .ok (.iastore, 1) := by decide +kernel
theorem dX11_layInsertion_31 : decode cX11_layInsertion 31 = .ok (.aload_n 0, 1) := by decide +kernel
theorem dX11_layInsertion_32 : decode cX11_layInsertion 32 = .ok (.dup, 1) := by decide +kernel
theorem dX11_layInsertion_33 : decode cX11_layInsertion 33 = .ok (.getfield 137, 3) := by decide +kernel
theorem dX11_layInsertion_36 : decode cX11_layInsertion 36 = .ok (.iconst 1, 1) := by decide +kernel
theorem dX11_layInsertion_37 : decode cX11_layInsertion 37 = .ok (.iadd, 1) := by decide +kernel
theorem dX11_layInsertion_38 : decode cX11_layInsertion 38 = .ok (.putfield 137, 3) := by decide +kernel
theorem dX11_layInsertion_41 : decode cX11_layInsertion 41 = .ok (.iload 6, 2) := by decide +kernel
theorem dX11_layInsertion_43 : decode cX11_layInsertion 43 = .ok (.iload 5, 2) := by decide +kernel
theorem dX11_layInsertion_45 : decode cX11_layInsertion 45 = .ok (.if_icmp .ne 26, 3) := by decide +kernel
theorem dX11_layInsertion_48 : decode cX11_layInsertion 48 = .ok (.aload_n 0, 1) := by decide +kernel
theorem dX11_layInsertion_49 : decode cX11_layInsertion 49 = .ok (.getfield 33, 3) := by decide +kernel
theorem dX11_layInsertion_52 : decode cX11_layInsertion 52 = .ok (.aload_n 0, 1) := by decide +kernel
theorem dX11_layInsertion_53 : decode cX11_layInsertion 53 = .ok (.getfield 137, 3) := by decide +kernel
theorem dX11_layInsertion_56 : decode cX11_layInsertion 56 = .ok (.bipush 100, 2) := by decide +kernel
theorem dX11_layInsertion_58 : decode cX11_layInsertion 58 = .ok (.iload_n 1, 1) := by decide +kernel
theorem dX11_layInsertion_59 : decode cX11_layInsertion 59 = .ok (.iadd, 1) := by decide +kernel
theorem dX11_layInsertion_60 : decode cX11_layInsertion 60 = .ok (.iastore, 1) := by decide +kernel
theorem dX11_layInsertion_61 : decode cX11_layInsertion 61 = .ok (.aload_n 0, 1) := by decide +kernel
theorem dX11_layInsertion_62 : decode cX11_layInsertion 62 = .ok (.dup, 1) := by decide +kernel
theorem dX11_layInsertion_63 : decode cX11_layInsertion 63 = .ok (.getfield 137, 3) := by decide +kernel
theorem dX11_layInsertion_66 : decode cX11_layInsertion 66 = .ok (.iconst 1, 1) := by decide +kernel
theorem dX11_layInsertion_67 : decode cX11_layInsertion 67 = .ok (.iadd, 1) := by decide +kernel
theorem dX11_layInsertion_68 : decode cX11_layInsertion 68 = .ok (.putfield 137, 3) := by decide +kernel
theorem dX11_layInsertion_71 : decode cX11_layInsertion 71 = .ok (.iload 6, 2) := by decide +kernel
theorem dX11_layInsertion_73 : decode cX11_layInsertion 73 = .ok (.iload_n 3, 1) := by decide +kernel
theorem dX11_layInsertion_74 : decode cX11_layInsertion 74 = .ok (.if_icmp .ge 29, 3) := by decide +kernel
theorem dX11_layInsertion_77 : decode cX11_layInsertion 77 = .ok (.aload_n 0, 1) := by decide +kernel
theorem dX11_layInsertion_78 : decode cX11_layInsertion 78 = .ok (.getfield 33, 3) := by decide +kernel
theorem dX11_layInsertion_81 : decode cX11_layInsertion 81 = .ok (.aload_n 0, 1) := by decide +kernel
theorem dX11_layInsertion_82 : decode cX11_layInsertion 82 = .ok (.getfield 137, 3) := by decide +kernel
theorem dX11_layInsertion_85 : decode cX11_layInsertion 85 = .ok (.aload_n 0, 1) := by decide +kernel
theorem dX11_layInsertion_86 : decode cX11_layInsertion 86 = .ok (.iload_n 2, 1) := by decide +kernel
theorem dX11_layInsertion_87 : decode cX11_layInsertion 87 = .ok (.iload 6, 2) := by decide +kernel
theorem dX11_layInsertion_89 : decode cX11_layInsertion 89 = .ok (.invokevirtual 149, 3) := by decide +kernel
theorem dX11_layInsertion_92 : decode cX11_layInsertion 92 = .ok (.iastore, 1) := by decide +kernel
theorem dX11_layInsertion_93 : decode cX11_layInsertion 93 = .ok (.aload_n 0, 1) := by decide +kernel
theorem dX11_layInsertion_94 : decode cX11_layInsertion 94 = .ok (.dup, 1) := by decide +kernel
theorem dX11_layInsertion_95 : decode cX11_layInsertion 95 = .ok (.getfield 137, 3) := by decide +kernel
theorem dX11_layInsertion_98 : decode cX11_layInsertion 98 = .ok (.iconst 1, 1) := by decide +kernel
theorem dX11_layInsertion_99 : decode cX11_layInsertion 99 = .ok (.iadd, 1) := by decide +kernel
theorem dX11_layInsertion_100 : decode cX11_layInsertion 100 = .ok (.putfield 137, 3) := by decide +kernel
theorem dX11_layInsertion_103 : decode cX11_layInsertion 103 = .ok (.iinc 6 1, 3) := by decide +kernel
theorem dX11_layInsertion_106 : decode cX11_layInsertion 106 = .ok (.goto (-98), 3) := by decide +kernel
theorem dX11_layInsertion_109 : decode cX11_layInsertion 109 = .ok (.aload_n 0, 1) := by decide +kernel
theorem dX11_layInsertion_110 : decode cX11_layInsertion 110 = .ok (.iload_n 2, 1) := by decide +kernel
theorem dX11_layInsertion_111 : decode cX11_layInsertion 111 = .ok (.invokevirtual 152, 3) := by decide +kernel
theorem dX11_layInsertion_114 : decode cX11_layInsertion 114 = .ok (.return_, 1) := by decide +kernel
theorem dX11_findInsertion_0 : decode cX11_findInsertion 0 = .ok (.aload_n 0, 1) := by decide +kernel
theorem dX11_findInsertion_1 : decode cX11_findInsertion 1 = .ok (.ldc 166, 2) := by decide +kernel
theorem dX11_findInsertion_3 : decode cX11_findInsertion 3 = .ok (.putfield 167, 3) := by decide +kernel
theorem dX11_findInsertion_6 : decode cX11_findInsertion 6 = .ok (.iconst 0, 1) := by decide +kernel
theorem dX11_findInsertion_7 : decode cX11_findInsertion 7 = .ok (.istore 4, 2) := by decide +kernel
theorem dX11_findInsertion_9 : decode cX11_findInsertion 9 = .ok (.iload 4, 2) := by decide +kernel
theorem dX11_findInsertion_11 : decode cX11_findInsertion 11 = .ok (.iload_n 3, 1) := by decide +kernel
theorem dX11_findInsertion_12 : decode cX11_findInsertion 12 = .ok (.if_icmp .gt 74, 3) := by decide +kernel
theorem dX11_findInsertion_15 : decode cX11_findInsertion 15 = .ok (.iload 4, 2) := by decide +kernel
theorem dX11_findInsertion_17 : decode cX11_findInsertion 17 = .ok (.istore 5, 2) := by decide +kernel
theorem dX11_findInsertion_19 : decode cX11_findInsertion 19 = .ok (.iload 5, 2) := by decide +kernel
theorem dX11_findInsertion_21 : decode cX11_findInsertion 21 = .ok (.iload_n 3, 1) := by decide +kernel
theorem dX11_findInsertion_22 : decode cX11_findInsertion 22 = .ok (.if_icmp .gt 58, 3) := by decide +kernel
theorem dX11_findInsertion_25 : decode cX11_findInsertion 25 = .ok (.aload_n 0, 1) := by decide +kernel
theorem dX11_findInsertion_26 : decode cX11_findInsertion 26 = .ok (.iload_n 1, 1) := by decide +kernel
theorem dX11_findInsertion_27 : decode cX11_findInsertion 27 = .ok (.iload_n 2, 1) := by decide +kernel
theorem dX11_findInsertion_28 : decode cX11_findInsertion 28 = .ok (.iload_n 3, 1) := by decide +kernel
theorem dX11_findInsertion_29 : decode cX11_findInsertion 29 = .ok (.iload 4, 2) := by decide +kernel
theorem dX11_findInsertion_31 : decode cX11_findInsertion 31 = .ok (.iload 5, 2) := by decide +kernel
theorem dX11_findInsertion_33 : decode cX11_findInsertion 33 = .ok (.invokevirtual 170, 3) := by decide +kernel
theorem dX11_findInsertion_36 : decode cX11_findInsertion 36 = .ok (.aload_n 0, 1) := by decide +kernel
theorem dX11_findInsertion_37 : decode cX11_findInsertion 37 = .ok (.getfield 133, 3) := by decide +kernel
theorem dX11_findInsertion_40 : decode cX11_findInsertion 40 = .ok (.ifCond .eq 34, 3) := by decide +kernel
theorem dX11_findInsertion_43 : decode cX11_findInsertion 43 = .ok (.aload_n 0, 1) := by decide +kernel
theorem dX11_findInsertion_44 : decode cX11_findInsertion 44 = .ok (.getfield 130, 3) := by decide +kernel
theorem dX11_findInsertion_47 : decode cX11_findInsertion 47 = .ok (.aload_n 0, 1) := by decide +kernel
theorem dX11_findInsertion_48 : decode cX11_findInsertion 48 = .ok (.getfield 167, 3) := by decide +kernel
theorem dX11_findInsertion_51 : decode cX11_findInsertion 51 = .ok (.if_icmp .ge 23, 3) := by decide +kernel
theorem dX11_findInsertion_54 : decode cX11_findInsertion 54 = .ok (.aload_n 0, 1) := by decide +kernel
theorem dX11_findInsertion_55 : decode cX11_findInsertion 55 = .ok (.aload_n 0, 1) := by decide +kernel
theorem dX11_findInsertion_56 : decode cX11_findInsertion 56 = .ok (.getfield 130, 3) := by decide +kernel
theorem dX11_findInsertion_59 : decode cX11_findInsertion 59 = .ok (.putfield 167, 3) := by decide +kernel
theorem dX11_findInsertion_62 : decode cX11_findInsertion 62 = .ok (.aload_n 0, 1) := by decide +kernel
theorem dX11_findInsertion_63 : decode cX11_findInsertion 63 = .ok (.iload 4, 2) := by decide +kernel
theorem dX11_findInsertion_65 : decode cX11_findInsertion 65 = .ok (.putfield 173, 3) := by decide +kernel
theorem dX11_findInsertion_68 : decode cX11_findInsertion 68 = .ok (.aload_n 0, 1) := by decide +kernel
theorem dX11_findInsertion_69 : decode cX11_findInsertion 69 = .ok (.iload 5, 2) := by decide +kernel
theorem dX11_findInsertion_71 : decode cX11_findInsertion 71 = .ok (.putfield 176, 3) := by decide +kernel
theorem dX11_findInsertion_74 : decode cX11_findInsertion 74 = .ok (.iinc 5 1, 3) := by decide +kernel
theorem dX11_findInsertion_77 : decode cX11_findInsertion 77 = .ok (.goto (-58), 3) := by decide +kernel
theorem dX11_findInsertion_80 : decode cX11_findInsertion 80 = .ok (.iinc 4 1, 3) := by decide +kernel
theorem dX11_findInsertion_83 : decode cX11_findInsertion 83 = .ok (.goto (-74), 3) := by decide +kernel
theorem dX11_findInsertion_86 : decode cX11_findInsertion 86 = .ok (.return_, 1) := by decide +kernel
theorem dX11_extraOf_0 : decode cX11_extraOf 0 = .ok (.aload_n 0, 1) := by decide +kernel
theorem dX11_extraOf_1 : decode cX11_extraOf 1 = .ok (.iload_n 1, 1) := by decide +kernel
theorem dX11_extraOf_2 : decode cX11_extraOf 2 = .ok (.iload_n 2, 1) := by decide +kernel
theorem dX11_extraOf_3 : decode cX11_extraOf 3 = .ok (.invokevirtual 115, 3) := by decide +kernel
theorem dX11_extraOf_6 : decode cX11_extraOf 6 = .ok (.ifCond .eq 6, 3) := by decide +kernel
theorem dX11_extraOf_9 : decode cX11_extraOf 9 = .ok (.ldc 166, 2) := by decide +kernel
theorem dX11_extraOf_11 : decode cX11_extraOf 11 = .ok (.ireturn, 1) := by decide +kernel
theorem dX11_extraOf_12 : decode cX11_extraOf 12 = .ok (.aload_n 0, 1) := by decide +kernel
theorem dX11_extraOf_13 : decode cX11_extraOf 13 = .ok (.iload_n 1, 1) := by decide +kernel
theorem dX11_extraOf_14 : decode cX11_extraOf 14 = .ok (.iload_n 2, 1) := by decide +kernel
theorem dX11_extraOf_15 : decode cX11_extraOf 15 = .ok (.aload_n 0, 1) := by decide +kernel
theorem dX11_extraOf_16 : decode cX11_extraOf 16 = .ok (.iload_n 2, 1) := by decide +kernel
theorem dX11_extraOf_17 : decode cX11_extraOf 17 = .ok (.bipush 9, 2) := by decide +kernel
theorem dX11_extraOf_19 : decode cX11_extraOf 19 = .ok (.invokevirtual 68, 3) := by decide +kernel
theorem dX11_extraOf_22 : decode cX11_extraOf 22 = .ok (.invokevirtual 179, 3) := by decide +kernel
theorem dX11_extraOf_25 : decode cX11_extraOf 25 = .ok (.aload_n 0, 1) := by decide +kernel
theorem dX11_extraOf_26 : decode cX11_extraOf 26 = .ok (.getfield 167, 3) := by decide +kernel
theorem dX11_extraOf_29 : decode cX11_extraOf 29 = .ok (.ldc 166, 2) := by decide +kernel
theorem dX11_extraOf_31 : decode cX11_extraOf 31 = .ok (.if_icmp .ne 8, 3) := by decide +kernel
theorem dX11_extraOf_34 : decode cX11_extraOf 34 = .ok (.ldc 166, 2) := by decide +kernel
theorem dX11_extraOf_36 : decode cX11_extraOf 36 = .ok (.goto 13, 3) := by decide +kernel
theorem dX11_extraOf_39 : decode cX11_extraOf 39 = .ok (.aload_n 0, 1) := by decide +kernel
theorem dX11_extraOf_40 : decode cX11_extraOf 40 = .ok (.getfield 167, 3) := by decide +kernel
theorem dX11_extraOf_43 : decode cX11_extraOf 43 = .ok (.aload_n 0, 1) := by decide +kernel
theorem dX11_extraOf_44 : decode cX11_extraOf 44 = .ok (.iload_n 2, 1) := by decide +kernel
theorem dX11_extraOf_45 : decode cX11_extraOf 45 = .ok (.invokevirtual 163, 3) := by decide +kernel
theorem dX11_extraOf_48 : decode cX11_extraOf 48 = .ok (.isub, 1) := by decide +kernel
theorem dX11_extraOf_49 : decode cX11_extraOf 49 = .ok (.ireturn, 1) := by decide +kernel
theorem dX11_soloOf_0 : decode cX11_soloOf 0 = .ok (.aload_n 0, 1) := by decide +kernel
theorem dX11_soloOf_1 : decode cX11_soloOf 1 = .ok (.iload_n 1, 1) := by decide +kernel
theorem dX11_soloOf_2 : decode cX11_soloOf 2 = .ok (.iload_n 2, 1) := by decide +kernel
theorem dX11_soloOf_3 : decode cX11_soloOf 3 = .ok (.iconst 0, 1) := by decide +kernel
theorem dX11_soloOf_4 : decode cX11_soloOf 4 = .ok (.invokevirtual 179, 3) := by decide +kernel
theorem dX11_soloOf_7 : decode cX11_soloOf 7 = .ok (.aload_n 0, 1) := by decide +kernel
theorem dX11_soloOf_8 : decode cX11_soloOf 8 = .ok (.getfield 167, 3) := by decide +kernel
theorem dX11_soloOf_11 : decode cX11_soloOf 11 = .ok (.ldc 166, 2) := by decide +kernel
theorem dX11_soloOf_13 : decode cX11_soloOf 13 = .ok (.if_icmp .ne 8, 3) := by decide +kernel
theorem dX11_soloOf_16 : decode cX11_soloOf 16 = .ok (.ldc 166, 2) := by decide +kernel
theorem dX11_soloOf_18 : decode cX11_soloOf 18 = .ok (.goto 13, 3) := by decide +kernel
theorem dX11_soloOf_21 : decode cX11_soloOf 21 = .ok (.aload_n 0, 1) := by decide +kernel
theorem dX11_soloOf_22 : decode cX11_soloOf 22 = .ok (.getfield 167, 3) := by decide +kernel
theorem dX11_soloOf_25 : decode cX11_soloOf 25 = .ok (.aload_n 0, 1) := by decide +kernel
theorem dX11_soloOf_26 : decode cX11_soloOf 26 = .ok (.iload_n 2, 1) := by decide +kernel
theorem dX11_soloOf_27 : decode cX11_soloOf 27 = .ok (.invokevirtual 102, 3) := by decide +kernel
theorem dX11_soloOf_30 : decode cX11_soloOf 30 = .ok (.isub, 1) := by decide +kernel
theorem dX11_soloOf_31 : decode cX11_soloOf 31 = .ok (.ireturn, 1) := by decide +kernel
theorem dX11_orNone_0 : decode cX11_orNone 0 = .ok (.iload_n 0, 1) := by decide +kernel
theorem dX11_orNone_1 : decode cX11_orNone 1 = .ok (.ldc 166, 2) := by decide +kernel
theorem dX11_orNone_3 : decode cX11_orNone 3 = .ok (.if_icmp .ne 7, 3) := by decide +kernel
theorem dX11_orNone_6 : decode cX11_orNone 6 = .ok (.iconst (-1), 1) := by decide +kernel
theorem dX11_orNone_7 : decode cX11_orNone 7 = .ok (.goto 4, 3) := by decide +kernel
theorem dX11_orNone_10 : decode cX11_orNone 10 = .ok (.iload_n 0, 1) := by decide +kernel
theorem dX11_orNone_11 : decode cX11_orNone 11 = .ok (.ireturn, 1) := by decide +kernel
theorem dX11_extra_0 : decode cX11_extra 0 = .ok (.aload_n 0, 1) := by decide +kernel
theorem dX11_extra_1 : decode cX11_extra 1 = .ok (.iconst 0, 1) := by decide +kernel
theorem dX11_extra_2 : decode cX11_extra 2 = .ok (.putfield 61, 3) := by decide +kernel
theorem dX11_extra_5 : decode cX11_extra 5 = .ok (.aload_n 0, 1) := by decide +kernel
theorem dX11_extra_6 : decode cX11_extra 6 = .ok (.iload_n 1, 1) := by decide +kernel
theorem dX11_extra_7 : decode cX11_extra 7 = .ok (.invokevirtual 112, 3) := by decide +kernel
theorem dX11_extra_10 : decode cX11_extra 10 = .ok (.ifCond .eq 23, 3) := by decide +kernel
theorem dX11_extra_13 : decode cX11_extra 13 = .ok (.aload_n 0, 1) := by decide +kernel
theorem dX11_extra_14 : decode cX11_extra 14 = .ok (.iload_n 2, 1) := by decide +kernel
theorem dX11_extra_15 : decode cX11_extra 15 = .ok (.invokevirtual 87, 3) := by decide +kernel
theorem dX11_extra_18 : decode cX11_extra 18 = .ok (.ifCond .eq 15, 3) := by decide +kernel
theorem dX11_extra_21 : decode cX11_extra 21 = .ok (.aload_n 0, 1) := by decide +kernel
theorem dX11_extra_22 : decode cX11_extra 22 = .ok (.iload_n 1, 1) := by decide +kernel
theorem dX11_extra_23 : decode cX11_extra 23 = .ok (.iload_n 2, 1) := by decide +kernel
theorem dX11_extra_24 : decode cX11_extra 24 = .ok (.invokevirtual 182, 3) := by decide +kernel
theorem dX11_extra_27 : decode cX11_extra 27 = .ok (.invokestatic 185, 3) := by decide +kernel
theorem dX11_extra_30 : decode cX11_extra 30 = .ok (.goto 8, 3) := by decide +kernel
theorem dX11_extra_33 : decode cX11_extra 33 = .ok (.aload_n 0, 1) := by decide +kernel
theorem dX11_extra_34 : decode cX11_extra 34 = .ok (.iconst 1, 1) := by decide +kernel
theorem dX11_extra_35 : decode cX11_extra 35 = .ok (.invokevirtual 79, 3) := by decide +kernel
theorem dX11_extra_38 : decode cX11_extra 38 = .ok (.ireturn, 1) := by decide +kernel
theorem dX11_soloExtra_0 : decode cX11_soloExtra 0 = .ok (.aload_n 0, 1) := by decide +kernel
theorem dX11_soloExtra_1 : decode cX11_soloExtra 1 = .ok (.iconst 0, 1) := by decide +kernel
theorem dX11_soloExtra_2 : decode cX11_soloExtra 2 = .ok (.putfield 61, 3) := by decide +kernel
theorem dX11_soloExtra_5 : decode cX11_soloExtra 5 = .ok (.aload_n 0, 1) := by decide +kernel
theorem dX11_soloExtra_6 : decode cX11_soloExtra 6 = .ok (.iload_n 1, 1) := by decide +kernel
theorem dX11_soloExtra_7 : decode cX11_soloExtra 7 = .ok (.invokevirtual 112, 3) := by decide +kernel
theorem dX11_soloExtra_10 : decode cX11_soloExtra 10 = .ok (.ifCond .eq 23, 3) := by decide +kernel
theorem dX11_soloExtra_13 : decode cX11_soloExtra 13 = .ok (.aload_n 0, 1) := by decide +kernel
theorem dX11_soloExtra_14 : decode cX11_soloExtra 14 = .ok (.iload_n 2, 1) := by decide +kernel
theorem dX11_soloExtra_15 : decode cX11_soloExtra 15 = .ok (.invokevirtual 87, 3) := by decide +kernel
theorem dX11_soloExtra_18 : decode cX11_soloExtra 18 = .ok (.ifCond .eq 15, 3) := by decide +kernel
theorem dX11_soloExtra_21 : decode cX11_soloExtra 21 = .ok (.aload_n 0, 1) := by decide +kernel
theorem dX11_soloExtra_22 : decode cX11_soloExtra 22 = .ok (.iload_n 1, 1) := by decide +kernel
theorem dX11_soloExtra_23 : decode cX11_soloExtra 23 = .ok (.iload_n 2, 1) := by decide +kernel
theorem dX11_soloExtra_24 : decode cX11_soloExtra 24 = .ok (.invokevirtual 188, 3) := by decide +kernel
theorem dX11_soloExtra_27 : decode cX11_soloExtra 27 = .ok (.invokestatic 185, 3) := by decide +kernel
theorem dX11_soloExtra_30 : decode cX11_soloExtra 30 = .ok (.goto 8, 3) := by decide +kernel
theorem dX11_soloExtra_33 : decode cX11_soloExtra 33 = .ok (.aload_n 0, 1) := by decide +kernel
theorem dX11_soloExtra_34 : decode cX11_soloExtra 34 = .ok (.iconst 1, 1) := by decide +kernel
theorem dX11_soloExtra_35 : decode cX11_soloExtra 35 = .ok (.invokevirtual 79, 3) := by decide +kernel
theorem dX11_soloExtra_38 : decode cX11_soloExtra 38 = .ok (.ireturn, 1) := by decide +kernel
theorem dX11_bestDriver_0 : decode cX11_bestDriver 0 = .ok (.aload_n 0, 1) := by decide +kernel
theorem dX11_bestDriver_1 : decode cX11_bestDriver 1 = .ok (.iconst 0, 1) := by decide +kernel
theorem dX11_bestDriver_2 : decode cX11_bestDriver 2 = .ok (.putfield 61, 3) := by decide +kernel
theorem dX11_bestDriver_5 : decode cX11_bestDriver 5 = .ok (.aload_n 0, 1) := by decide +kernel
theorem dX11_bestDriver_6 : decode cX11_bestDriver 6 = .ok (.iload_n 1, 1) := by decide +kernel
theorem dX11_bestDriver_7 : decode cX11_bestDriver 7 = .ok (.invokevirtual 112, 3) := by decide +kernel
theorem dX11_bestDriver_10 : decode cX11_bestDriver 10 = .ok (.ifCond .ne 9, 3) := by decide +kernel
theorem dX11_bestDriver_13 : decode cX11_bestDriver 13 = .ok (.aload_n 0, 1) := by decide +kernel
theorem dX11_bestDriver_14 : decode cX11_bestDriver 14 = .ok (.iconst 1, 1) := by decide +kernel
theorem dX11_bestDriver_15 : decode cX11_bestDriver 15 = .ok (.invokevirtual 79, 3) := by decide +kernel
theorem dX11_bestDriver_18 : decode cX11_bestDriver 18 = .ok (.ireturn, 1) := by decide +kernel
theorem dX11_bestDriver_19 : decode cX11_bestDriver 19 = .ok (.iconst (-1), 1) := by decide +kernel
theorem dX11_bestDriver_20 : decode cX11_bestDriver 20 = .ok (.istore_n 2, 1) := by decide +kernel
theorem dX11_bestDriver_21 : decode cX11_bestDriver 21 = .ok (.ldc 166, 2) := by decide +kernel
theorem dX11_bestDriver_23 : decode cX11_bestDriver 23 = .ok (.istore_n 3, 1) := by decide +kernel
theorem dX11_bestDriver_24 : decode cX11_bestDriver 24 = .ok (.iconst 0, 1) := by decide +kernel
theorem dX11_bestDriver_25 : decode cX11_bestDriver 25 = .ok (.istore 4, 2) := by decide +kernel
theorem dX11_bestDriver_27 : decode cX11_bestDriver 27 = .ok (.iload 4, 2) := by decide +kernel
theorem dX11_bestDriver_29 : decode cX11_bestDriver 29 = .ok (.aload_n 0, 1) := by decide +kernel
theorem dX11_bestDriver_30 : decode cX11_bestDriver 30 = .ok (.getfield 7, 3) := by decide +kernel
theorem dX11_bestDriver_33 : decode cX11_bestDriver 33 = .ok (.iconst 1, 1) := by decide +kernel
theorem dX11_bestDriver_34 : decode cX11_bestDriver 34 = .ok (.iaload, 1) := by decide +kernel
theorem dX11_bestDriver_35 : decode cX11_bestDriver 35 = .ok (.if_icmp .ge 44, 3) := by decide +kernel
theorem dX11_bestDriver_38 : decode cX11_bestDriver 38 = .ok (.aload_n 0, 1) := by decide +kernel
theorem dX11_bestDriver_39 : decode cX11_bestDriver 39 = .ok (.iload 4, 2) := by decide +kernel
theorem dX11_bestDriver_41 : decode cX11_bestDriver 41 = .ok (.invokevirtual 95, 3) := by decide +kernel
theorem dX11_bestDriver_44 : decode cX11_bestDriver 44 = .ok (.ifCond .eq 13, 3) := by decide +kernel
theorem dX11_bestDriver_47 : decode cX11_bestDriver 47 = .ok (.aload_n 0, 1) := by decide +kernel
theorem dX11_bestDriver_48 : decode cX11_bestDriver 48 = .ok (.iload_n 1, 1) := by decide +kernel
theorem dX11_bestDriver_49 : decode cX11_bestDriver 49 = .ok (.iload 4, 2) := by decide +kernel
theorem dX11_bestDriver_51 : decode cX11_bestDriver 51 = .ok (.invokevirtual 182, 3) := by decide +kernel
theorem dX11_bestDriver_54 : decode cX11_bestDriver 54 = .ok (.goto 5, 3) := by decide +kernel
theorem dX11_bestDriver_57 : decode cX11_bestDriver 57 = .ok (.ldc 166, 2) := by decide +kernel
theorem dX11_bestDriver_59 : decode cX11_bestDriver 59 = .ok (.istore 5, 2) := by decide +kernel
theorem dX11_bestDriver_61 : decode cX11_bestDriver 61 = .ok (.iload 5, 2) := by decide +kernel
theorem dX11_bestDriver_63 : decode cX11_bestDriver 63 = .ok (.iload_n 3, 1) := by decide +kernel
theorem dX11_bestDriver_64 : decode cX11_bestDriver 64 = .ok (.if_icmp .ge 9, 3) := by decide +kernel
theorem dX11_bestDriver_67 : decode cX11_bestDriver 67 = .ok (.iload 5, 2) := by decide +kernel
theorem dX11_bestDriver_69 : decode cX11_bestDriver 69 = .ok (.istore_n 3, 1) := by decide +kernel
theorem dX11_bestDriver_70 : decode cX11_bestDriver 70 = .ok (.iload 4, 2) := by decide +kernel
theorem dX11_bestDriver_72 : decode cX11_bestDriver 72 = .ok (.istore_n 2, 1) := by decide +kernel
theorem dX11_bestDriver_73 : decode cX11_bestDriver 73 = .ok (.iinc 4 1, 3) := by decide +kernel
theorem dX11_bestDriver_76 : decode cX11_bestDriver 76 = .ok (.goto (-49), 3) := by decide +kernel
theorem dX11_bestDriver_79 : decode cX11_bestDriver 79 = .ok (.iload_n 2, 1) := by decide +kernel
theorem dX11_bestDriver_80 : decode cX11_bestDriver 80 = .ok (.ireturn, 1) := by decide +kernel
theorem dX11_join_0 : decode cX11_join 0 = .ok (.aload_n 0, 1) := by decide +kernel
theorem dX11_join_1 : decode cX11_join 1 = .ok (.iload_n 1, 1) := by decide +kernel
theorem dX11_join_2 : decode cX11_join 2 = .ok (.iload_n 2, 1) := by decide +kernel
theorem dX11_join_3 : decode cX11_join 3 = .ok (.invokevirtual 182, 3) := by decide +kernel
theorem dX11_join_6 : decode cX11_join 6 = .ok (.istore_n 3, 1) := by decide +kernel
theorem dX11_join_7 : decode cX11_join 7 = .ok (.iload_n 3, 1) := by decide +kernel
theorem dX11_join_8 : decode cX11_join 8 = .ok (.ldc 166, 2) := by decide +kernel
theorem dX11_join_10 : decode cX11_join 10 = .ok (.if_icmp .ne 6, 3) := by decide +kernel
theorem dX11_join_13 : decode cX11_join 13 = .ok (.ldc 166, 2) := by decide +kernel
theorem dX11_join_15 : decode cX11_join 15 = .ok (.ireturn, 1) := by decide +kernel
theorem dX11_join_16 : decode cX11_join 16 = .ok (.aload_n 0, 1) := by decide +kernel
theorem dX11_join_17 : decode cX11_join 17 = .ok (.iload_n 1, 1) := by decide +kernel
theorem dX11_join_18 : decode cX11_join 18 = .ok (.iload_n 2, 1) := by decide +kernel
theorem dX11_join_19 : decode cX11_join 19 = .ok (.aload_n 0, 1) := by decide +kernel
theorem dX11_join_20 : decode cX11_join 20 = .ok (.iload_n 2, 1) := by decide +kernel
theorem dX11_join_21 : decode cX11_join 21 = .ok (.bipush 9, 2) := by decide +kernel
theorem dX11_join_23 : decode cX11_join 23 = .ok (.invokevirtual 68, 3) := by decide +kernel
theorem dX11_join_26 : decode cX11_join 26 = .ok (.invokevirtual 179, 3) := by decide +kernel
theorem dX11_join_29 : decode cX11_join 29 = .ok (.aload_n 0, 1) := by decide +kernel
theorem dX11_join_30 : decode cX11_join 30 = .ok (.iload_n 1, 1) := by decide +kernel
theorem dX11_join_31 : decode cX11_join 31 = .ok (.iload_n 2, 1) := by decide +kernel
theorem dX11_join_32 : decode cX11_join 32 = .ok (.aload_n 0, 1) := by decide +kernel
theorem dX11_join_33 : decode cX11_join 33 = .ok (.iload_n 2, 1) := by decide +kernel
theorem dX11_join_34 : decode cX11_join 34 = .ok (.bipush 9, 2) := by decide +kernel
theorem dX11_join_36 : decode cX11_join 36 = .ok (.invokevirtual 68, 3) := by decide +kernel
theorem dX11_join_39 : decode cX11_join 39 = .ok (.aload_n 0, 1) := by decide +kernel
theorem dX11_join_40 : decode cX11_join 40 = .ok (.getfield 173, 3) := by decide +kernel
theorem dX11_join_43 : decode cX11_join 43 = .ok (.aload_n 0, 1) := by decide +kernel
theorem dX11_join_44 : decode cX11_join 44 = .ok (.getfield 176, 3) := by decide +kernel
theorem dX11_join_47 : decode cX11_join 47 = .ok (.invokevirtual 170, 3) := by decide +kernel
theorem dX11_join_50 : decode cX11_join 50 = .ok (.aload_n 0, 1) := by decide +kernel
theorem dX11_join_51 : decode cX11_join 51 = .ok (.iload_n 2, 1) := by decide +kernel
theorem dX11_join_52 : decode cX11_join 52 = .ok (.invokevirtual 191, 3) := by decide +kernel
theorem dX11_join_55 : decode cX11_join 55 = .ok (.aload_n 0, 1) := by decide +kernel
theorem dX11_join_56 : decode cX11_join 56 = .ok (.iload_n 1, 1) := by decide +kernel
theorem dX11_join_57 : decode cX11_join 57 = .ok (.bipush 6, 2) := by decide +kernel
theorem dX11_join_59 : decode cX11_join 59 = .ok (.iconst 1, 1) := by decide +kernel
theorem dX11_join_60 : decode cX11_join 60 = .ok (.invokevirtual 105, 3) := by decide +kernel
theorem dX11_join_63 : decode cX11_join 63 = .ok (.aload_n 0, 1) := by decide +kernel
theorem dX11_join_64 : decode cX11_join 64 = .ok (.iload_n 1, 1) := by decide +kernel
theorem dX11_join_65 : decode cX11_join 65 = .ok (.bipush 7, 2) := by decide +kernel
theorem dX11_join_67 : decode cX11_join 67 = .ok (.iload_n 2, 1) := by decide +kernel
theorem dX11_join_68 : decode cX11_join 68 = .ok (.invokevirtual 105, 3) := by decide +kernel
theorem dX11_join_71 : decode cX11_join 71 = .ok (.iload_n 3, 1) := by decide +kernel
theorem dX11_join_72 : decode cX11_join 72 = .ok (.ireturn, 1) := by decide +kernel
theorem dX11_assign_0 : decode cX11_assign 0 = .ok (.aload_n 0, 1) := by decide +kernel
theorem dX11_assign_1 : decode cX11_assign 1 = .ok (.iconst 0, 1) := by decide +kernel
theorem dX11_assign_2 : decode cX11_assign 2 = .ok (.putfield 61, 3) := by decide +kernel
theorem dX11_assign_5 : decode cX11_assign 5 = .ok (.aload_n 0, 1) := by decide +kernel
theorem dX11_assign_6 : decode cX11_assign 6 = .ok (.iload_n 1, 1) := by decide +kernel
theorem dX11_assign_7 : decode cX11_assign 7 = .ok (.invokevirtual 112, 3) := by decide +kernel
theorem dX11_assign_10 : decode cX11_assign 10 = .ok (.ifCond .eq 11, 3) := by decide +kernel
theorem dX11_assign_13 : decode cX11_assign 13 = .ok (.aload_n 0, 1) := by decide +kernel
theorem dX11_assign_14 : decode cX11_assign 14 = .ok (.iload_n 2, 1) := by decide +kernel
theorem dX11_assign_15 : decode cX11_assign 15 = .ok (.invokevirtual 87, 3) := by decide +kernel
theorem dX11_assign_18 : decode cX11_assign 18 = .ok (.ifCond .ne 9, 3) := by decide +kernel
theorem dX11_assign_21 : decode cX11_assign 21 = .ok (.aload_n 0, 1) := by decide +kernel
theorem dX11_assign_22 : decode cX11_assign 22 = .ok (.iconst 1, 1) := by decide +kernel
theorem dX11_assign_23 : decode cX11_assign 23 = .ok (.invokevirtual 79, 3) := by decide +kernel
theorem dX11_assign_26 : decode cX11_assign 26 = .ok (.ireturn, 1) := by decide +kernel
theorem dX11_assign_27 : decode cX11_assign 27 = .ok (.aload_n 0, 1) := by decide +kernel
theorem dX11_assign_28 : decode cX11_assign 28 = .ok (.iload_n 1, 1) := by decide +kernel
theorem dX11_assign_29 : decode cX11_assign 29 = .ok (.bipush 6, 2) := by decide +kernel
theorem dX11_assign_31 : decode cX11_assign 31 = .ok (.invokevirtual 72, 3) := by decide +kernel
theorem dX11_assign_34 : decode cX11_assign 34 = .ok (.ifCond .ne 20, 3) := by decide +kernel
theorem dX11_assign_37 : decode cX11_assign 37 = .ok (.aload_n 0, 1) := by decide +kernel
theorem dX11_assign_38 : decode cX11_assign 38 = .ok (.iload_n 2, 1) := by decide +kernel
theorem dX11_assign_39 : decode cX11_assign 39 = .ok (.invokevirtual 95, 3) := by decide +kernel
theorem dX11_assign_42 : decode cX11_assign 42 = .ok (.ifCond .eq 12, 3) := by decide +kernel
theorem dX11_assign_45 : decode cX11_assign 45 = .ok (.aload_n 0, 1) := by decide +kernel
theorem dX11_assign_46 : decode cX11_assign 46 = .ok (.iload_n 1, 1) := by decide +kernel
theorem dX11_assign_47 : decode cX11_assign 47 = .ok (.iload_n 2, 1) := by decide +kernel
theorem dX11_assign_48 : decode cX11_assign 48 = .ok (.invokevirtual 194, 3) := by decide +kernel
theorem dX11_assign_51 : decode cX11_assign 51 = .ok (.goto 5, 3) := by decide +kernel
theorem dX11_assign_54 : decode cX11_assign 54 = .ok (.ldc 166, 2) := by decide +kernel
theorem dX11_assign_56 : decode cX11_assign 56 = .ok (.istore_n 3, 1) := by decide +kernel
theorem dX11_assign_57 : decode cX11_assign 57 = .ok (.iload_n 3, 1) := by decide +kernel
theorem dX11_assign_58 : decode cX11_assign 58 = .ok (.ldc 166, 2) := by decide +kernel
theorem dX11_assign_60 : decode cX11_assign 60 = .ok (.if_icmp .ne 11, 3) := by decide +kernel
theorem dX11_assign_63 : decode cX11_assign 63 = .ok (.aload_n 0, 1) := by decide +kernel
theorem dX11_assign_64 : decode cX11_assign 64 = .ok (.iconst 2, 1) := by decide +kernel
theorem dX11_assign_65 : decode cX11_assign 65 = .ok (.invokevirtual 79, 3) := by decide +kernel
theorem dX11_assign_68 : decode cX11_assign 68 = .ok (.goto 4, 3) := by decide +kernel
theorem dX11_assign_71 : decode cX11_assign 71 = .ok (.iload_n 3, 1) := by decide +kernel
theorem dX11_assign_72 : decode cX11_assign 72 = .ok (.ireturn, 1) := by decide +kernel
theorem dX11_leave_0 : decode cX11_leave 0 = .ok (.aload_n 0, 1) := by decide +kernel
theorem dX11_leave_1 : decode cX11_leave 1 = .ok (.iload_n 1, 1) := by decide +kernel
theorem dX11_leave_2 : decode cX11_leave 2 = .ok (.bipush 7, 2) := by decide +kernel
theorem dX11_leave_4 : decode cX11_leave 4 = .ok (.invokevirtual 72, 3) := by decide +kernel
theorem dX11_leave_7 : decode cX11_leave 7 = .ok (.istore_n 3, 1) := by decide +kernel
theorem dX11_leave_8 : decode cX11_leave 8 = .ok (.aload_n 0, 1) := by decide +kernel
theorem dX11_leave_9 : decode cX11_leave 9 = .ok (.iload_n 3, 1) := by decide +kernel
theorem dX11_leave_10 : decode cX11_leave 10 = .ok (.invokevirtual 163, 3) := by decide +kernel
theorem dX11_leave_13 : decode cX11_leave 13 = .ok (.istore 4, 2) := by decide +kernel
theorem dX11_leave_15 : decode cX11_leave 15 = .ok (.aload_n 0, 1) := by decide +kernel
theorem dX11_leave_16 : decode cX11_leave 16 = .ok (.iload_n 3, 1) := by decide +kernel
theorem dX11_leave_17 : decode cX11_leave 17 = .ok (.iload_n 1, 1) := by decide +kernel
theorem dX11_leave_18 : decode cX11_leave 18 = .ok (.invokevirtual 156, 3) := by decide +kernel
theorem dX11_leave_21 : decode cX11_leave 21 = .ok (.aload_n 0, 1) := by decide +kernel
theorem dX11_leave_22 : decode cX11_leave 22 = .ok (.iload_n 3, 1) := by decide +kernel
theorem dX11_leave_23 : decode cX11_leave 23 = .ok (.invokevirtual 191, 3) := by decide +kernel
theorem dX11_leave_26 : decode cX11_leave 26 = .ok (.aload_n 0, 1) := by decide +kernel
theorem dX11_leave_27 : decode cX11_leave 27 = .ok (.iload_n 1, 1) := by decide +kernel
theorem dX11_leave_28 : decode cX11_leave 28 = .ok (.bipush 6, 2) := by decide +kernel
theorem dX11_leave_30 : decode cX11_leave 30 = .ok (.iload_n 2, 1) := by decide +kernel
theorem dX11_leave_31 : decode cX11_leave 31 = .ok (.invokevirtual 105, 3) := by decide +kernel
theorem dX11_leave_34 : decode cX11_leave 34 = .ok (.aload_n 0, 1) := by decide +kernel
theorem dX11_leave_35 : decode cX11_leave 35 = .ok (.iload_n 1, 1) := by decide +kernel
theorem dX11_leave_36 : decode cX11_leave 36 = .ok (.bipush 7, 2) := by decide +kernel
theorem dX11_leave_38 : decode cX11_leave 38 = .ok (.iconst (-1), 1) := by decide +kernel
theorem dX11_leave_39 : decode cX11_leave 39 = .ok (.invokevirtual 105, 3) := by decide +kernel
theorem dX11_leave_42 : decode cX11_leave 42 = .ok (.iload 4, 2) := by decide +kernel
theorem dX11_leave_44 : decode cX11_leave 44 = .ok (.aload_n 0, 1) := by decide +kernel
theorem dX11_leave_45 : decode cX11_leave 45 = .ok (.getfield 130, 3) := by decide +kernel
theorem dX11_leave_48 : decode cX11_leave 48 = .ok (.isub, 1) := by decide +kernel
theorem dX11_leave_49 : decode cX11_leave 49 = .ok (.ireturn, 1) := by decide +kernel
theorem dX11_unassign_0 : decode cX11_unassign 0 = .ok (.aload_n 0, 1) := by decide +kernel
theorem dX11_unassign_1 : decode cX11_unassign 1 = .ok (.iconst 0, 1) := by decide +kernel
theorem dX11_unassign_2 : decode cX11_unassign 2 = .ok (.putfield 61, 3) := by decide +kernel
theorem dX11_unassign_5 : decode cX11_unassign 5 = .ok (.aload_n 0, 1) := by decide +kernel
theorem dX11_unassign_6 : decode cX11_unassign 6 = .ok (.iload_n 1, 1) := by decide +kernel
theorem dX11_unassign_7 : decode cX11_unassign 7 = .ok (.invokevirtual 112, 3) := by decide +kernel
theorem dX11_unassign_10 : decode cX11_unassign 10 = .ok (.ifCond .ne 9, 3) := by decide +kernel
theorem dX11_unassign_13 : decode cX11_unassign 13 = .ok (.aload_n 0, 1) := by decide +kernel
theorem dX11_unassign_14 : decode cX11_unassign 14 = .ok (.iconst 1, 1) := by decide +kernel
theorem dX11_unassign_15 : decode cX11_unassign 15 = .ok (.invokevirtual 79, 3) := by decide +kernel
theorem dX11_unassign_18 : decode cX11_unassign 18 = .ok (.ireturn, 1) := by decide +kernel
theorem dX11_unassign_19 : decode cX11_unassign 19 = .ok (.aload_n 0, 1) := by decide +kernel
theorem dX11_unassign_20 : decode cX11_unassign 20 = .ok (.iload_n 1, 1) := by decide +kernel
theorem dX11_unassign_21 : decode cX11_unassign 21 = .ok (.bipush 6, 2) := by decide +kernel
theorem dX11_unassign_23 : decode cX11_unassign 23 = .ok (.invokevirtual 72, 3) := by decide +kernel
theorem dX11_unassign_26 : decode cX11_unassign 26 = .ok (.iconst 1, 1) := by decide +kernel
theorem dX11_unassign_27 : decode cX11_unassign 27 = .ok (.if_icmp .ne 12, 3) := by decide +kernel
theorem dX11_unassign_30 : decode cX11_unassign 30 = .ok (.aload_n 0, 1) := by decide +kernel
theorem dX11_unassign_31 : decode cX11_unassign 31 = .ok (.iload_n 1, 1) := by decide +kernel
theorem dX11_unassign_32 : decode cX11_unassign 32 = .ok (.iconst 0, 1) := by decide +kernel
theorem dX11_unassign_33 : decode cX11_unassign 33 = .ok (.invokevirtual 197, 3) := by decide +kernel
theorem dX11_unassign_36 : decode cX11_unassign 36 = .ok (.goto 8, 3) := by decide +kernel
theorem dX11_unassign_39 : decode cX11_unassign 39 = .ok (.aload_n 0, 1) := by decide +kernel
theorem dX11_unassign_40 : decode cX11_unassign 40 = .ok (.iconst 2, 1) := by decide +kernel
theorem dX11_unassign_41 : decode cX11_unassign 41 = .ok (.invokevirtual 79, 3) := by decide +kernel
theorem dX11_unassign_44 : decode cX11_unassign 44 = .ok (.ireturn, 1) := by decide +kernel
theorem dX11_findSolos_0 : decode cX11_findSolos 0 = .ok (.iconst 0, 1) := by decide +kernel
theorem dX11_findSolos_1 : decode cX11_findSolos 1 = .ok (.istore_n 1, 1) := by decide +kernel
theorem dX11_findSolos_2 : decode cX11_findSolos 2 = .ok (.iload_n 1, 1) := by decide +kernel
theorem dX11_findSolos_3 : decode cX11_findSolos 3 = .ok (.aload_n 0, 1) := by decide +kernel
theorem dX11_findSolos_4 : decode cX11_findSolos 4 = .ok (.getfield 7, 3) := by decide +kernel
theorem dX11_findSolos_7 : decode cX11_findSolos 7 = .ok (.iconst 2, 1) := by decide +kernel
theorem dX11_findSolos_8 : decode cX11_findSolos 8 = .ok (.iaload, 1) := by decide +kernel
theorem dX11_findSolos_9 : decode cX11_findSolos 9 = .ok (.if_icmp .ge 57, 3) := by decide +kernel
theorem dX11_findSolos_12 : decode cX11_findSolos 12 = .ok (.iconst 0, 1) := by decide +kernel
theorem dX11_findSolos_13 : decode cX11_findSolos 13 = .ok (.istore_n 2, 1) := by decide +kernel
theorem dX11_findSolos_14 : decode cX11_findSolos 14 = .ok (.iload_n 2, 1) := by decide +kernel
theorem dX11_findSolos_15 : decode cX11_findSolos 15 = .ok (.aload_n 0, 1) := by decide +kernel
theorem dX11_findSolos_16 : decode cX11_findSolos 16 = .ok (.getfield 7, 3) := by decide +kernel
theorem dX11_findSolos_19 : decode cX11_findSolos 19 = .ok (.iconst 1, 1) := by decide +kernel
theorem dX11_findSolos_20 : decode cX11_findSolos 20 = .ok (.iaload, 1) := by decide +kernel
theorem dX11_findSolos_21 : decode cX11_findSolos 21 = .ok (.if_icmp .ge 39, 3) := by decide +kernel
theorem dX11_findSolos_24 : decode cX11_findSolos 24 = .ok (.aload_n 0, 1) := by decide +kernel
theorem dX11_findSolos_25 : decode cX11_findSolos 25 = .ok (.getfield 39, 3) := by decide +kernel
theorem dX11_findSolos_28 : decode cX11_findSolos 28 = .ok (.bipush 8, 2) := by decide +kernel
theorem dX11_findSolos_30 : decode cX11_findSolos 30 = .ok (.iload_n 1, 1) := by decide +kernel
theorem dX11_findSolos_31 : decode cX11_findSolos 31 = .ok (.imul, 1) := by decide +kernel
theorem dX11_findSolos_32 : decode cX11_findSolos 32 = .ok (.iload_n 2, 1) := by decide +kernel
theorem dX11_findSolos_33 : decode cX11_findSolos 33 = .ok (.iadd, 1) := by decide +kernel
theorem dX11_findSolos_34 : decode cX11_findSolos 34 = .ok (.aload_n 0, 1) := by decide +kernel
theorem dX11_findSolos_35 : decode cX11_findSolos 35 = .ok (.iload_n 2, 1) := by decide +kernel
theorem dX11_findSolos_36 : decode cX11_findSolos 36 = .ok (.invokevirtual 95, 3) := by decide +kernel
theorem dX11_findSolos_39 : decode cX11_findSolos 39 = .ok (.ifCond .eq 12, 3) := by decide +kernel
theorem dX11_findSolos_42 : decode cX11_findSolos 42 = .ok (.aload_n 0, 1) := by decide +kernel
theorem dX11_findSolos_43 : decode cX11_findSolos 43 = .ok (.iload_n 1, 1) := by decide +kernel
theorem dX11_findSolos_44 : decode cX11_findSolos 44 = .ok (.iload_n 2, 1) := by decide +kernel
theorem dX11_findSolos_45 : decode cX11_findSolos 45 = .ok (.invokevirtual 188, 3) := by decide +kernel
theorem dX11_findSolos_48 : decode cX11_findSolos 48 = .ok (.goto 5, 3) := by decide +kernel
theorem dX11_findSolos_51 : decode cX11_findSolos 51 = .ok (.ldc 166, 2) := by decide +kernel
theorem dX11_findSolos_53 : decode cX11_findSolos 53 = .ok (.iastore, 1) := by decide +kernel
theorem dX11_findSolos_54 : decode cX11_findSolos 54 = .ok (.iinc 2 1, 3) := by decide +kernel
theorem dX11_findSolos_57 : decode cX11_findSolos 57 = .ok (.goto (-43), 3) := by decide +kernel
theorem dX11_findSolos_60 : decode cX11_findSolos 60 = .ok (.iinc 1 1, 3) := by decide +kernel
theorem dX11_findSolos_63 : decode cX11_findSolos 63 = .ok (.goto (-61), 3) := by decide +kernel
theorem dX11_findSolos_66 : decode cX11_findSolos 66 = .ok (.return_, 1) := by decide +kernel
theorem dX11_solo_0 : decode cX11_solo 0 = .ok (.aload_n 0, 1) := by decide +kernel
theorem dX11_solo_1 : decode cX11_solo 1 = .ok (.getfield 39, 3) := by decide +kernel
theorem dX11_solo_4 : decode cX11_solo 4 = .ok (.bipush 8, 2) := by decide +kernel
theorem dX11_solo_6 : decode cX11_solo 6 = .ok (.iload_n 1, 1) := by decide +kernel
theorem dX11_solo_7 : decode cX11_solo 7 = .ok (.imul, 1) := by decide +kernel
theorem dX11_solo_8 : decode cX11_solo 8 = .ok (.iload_n 2, 1) := by decide +kernel
theorem dX11_solo_9 : decode cX11_solo 9 = .ok (.iadd, 1) := by decide +kernel
theorem dX11_solo_10 : decode cX11_solo 10 = .ok (.iaload, 1) := by decide +kernel
theorem dX11_solo_11 : decode cX11_solo 11 = .ok (.ireturn, 1) := by decide +kernel
theorem dX11_doFit_0 : decode cX11_doFit 0 = .ok (.aload_n 0, 1) := by decide +kernel
theorem dX11_doFit_1 : decode cX11_doFit 1 = .ok (.iload_n 1, 1) := by decide +kernel
theorem dX11_doFit_2 : decode cX11_doFit 2 = .ok (.iload_n 2, 1) := by decide +kernel
theorem dX11_doFit_3 : decode cX11_doFit 3 = .ok (.invokevirtual 200, 3) := by decide +kernel
theorem dX11_doFit_6 : decode cX11_doFit 6 = .ok (.ldc 166, 2) := by decide +kernel
theorem dX11_doFit_8 : decode cX11_doFit 8 = .ok (.if_icmp .ge 7, 3) := by decide +kernel
theorem dX11_doFit_11 : decode cX11_doFit 11 = .ok (.iconst 1, 1) := by decide +kernel
theorem dX11_doFit_12 : decode cX11_doFit 12 = .ok (.goto 4, 3) := by decide +kernel
theorem dX11_doFit_15 : decode cX11_doFit 15 = .ok (.iconst 0, 1) := by decide +kernel
theorem dX11_doFit_16 : decode cX11_doFit 16 = .ok (.ireturn, 1) := by decide +kernel
theorem dX11_likesDriver_0 : decode cX11_likesDriver 0 = .ok (.aload_n 0, 1) := by decide +kernel
theorem dX11_likesDriver_1 : decode cX11_likesDriver 1 = .ok (.iload_n 1, 1) := by decide +kernel
theorem dX11_likesDriver_2 : decode cX11_likesDriver 2 = .ok (.iload_n 2, 1) := by decide +kernel
theorem dX11_likesDriver_3 : decode cX11_likesDriver 3 = .ok (.invokevirtual 200, 3) := by decide +kernel
theorem dX11_likesDriver_6 : decode cX11_likesDriver 6 = .ok (.aload_n 0, 1) := by decide +kernel
theorem dX11_likesDriver_7 : decode cX11_likesDriver 7 = .ok (.iload_n 2, 1) := by decide +kernel
theorem dX11_likesDriver_8 : decode cX11_likesDriver 8 = .ok (.bipush 7, 2) := by decide +kernel
theorem dX11_likesDriver_10 : decode cX11_likesDriver 10 = .ok (.invokevirtual 68, 3) := by decide +kernel
theorem dX11_likesDriver_13 : decode cX11_likesDriver 13 = .ok (.imul, 1) := by decide +kernel
theorem dX11_likesDriver_14 : decode cX11_likesDriver 14 = .ok (.istore 4, 2) := by decide +kernel
theorem dX11_likesDriver_16 : decode cX11_likesDriver 16 = .ok (.aload_n 0, 1) := by decide +kernel
theorem dX11_likesDriver_17 : decode cX11_likesDriver 17 = .ok (.iload_n 1, 1) := by decide +kernel
theorem dX11_likesDriver_18 : decode cX11_likesDriver 18 = .ok (.iload_n 3, 1) := by decide +kernel
theorem dX11_likesDriver_19 : decode cX11_likesDriver 19 = .ok (.invokevirtual 200, 3) := by decide +kernel
theorem dX11_likesDriver_22 : decode cX11_likesDriver 22 = .ok (.aload_n 0, 1) := by decide +kernel
theorem dX11_likesDriver_23 : decode cX11_likesDriver 23 = .ok (.iload_n 3, 1) := by decide +kernel
theorem dX11_likesDriver_24 : decode cX11_likesDriver 24 = .ok (.bipush 7, 2) := by decide +kernel
theorem dX11_likesDriver_26 : decode cX11_likesDriver 26 = .ok (.invokevirtual 68, 3) := by decide +kernel
theorem dX11_likesDriver_29 : decode cX11_likesDriver 29 = .ok (.imul, 1) := by decide +kernel
theorem dX11_likesDriver_30 : decode cX11_likesDriver 30 = .ok (.istore 5, 2) := by decide +kernel
theorem dX11_likesDriver_32 : decode cX11_likesDriver 32 = .ok (.iload 4, 2) := by decide +kernel
theorem dX11_likesDriver_34 : decode cX11_likesDriver 34 = .ok (.iload 5, 2) := by decide +kernel
theorem dX11_likesDriver_36 : decode cX11_likesDriver 36 = .ok (.if_icmp .eq 18, 3) := by decide +kernel
theorem dX11_likesDriver_39 : decode cX11_likesDriver 39 = .ok (.iload 4, 2) := by decide +kernel
theorem dX11_likesDriver_41 : decode cX11_likesDriver 41 = .ok (.iload 5, 2) := by decide +kernel
theorem dX11_likesDriver_43 : decode cX11_likesDriver 43 = .ok (.if_icmp .ge 7, 3) := by decide +kernel
theorem dX11_likesDriver_46 : decode cX11_likesDriver 46 = .ok (.iconst 1, 1) := by decide +kernel
theorem dX11_likesDriver_47 : decode cX11_likesDriver 47 = .ok (.goto 17, 3) := by decide +kernel
theorem dX11_likesDriver_50 : decode cX11_likesDriver 50 = .ok (.iconst 0, 1) := by decide +kernel
theorem dX11_likesDriver_51 : decode cX11_likesDriver 51 = .ok (.goto 13, 3) := by decide +kernel
theorem dX11_likesDriver_54 : decode cX11_likesDriver 54 = .ok (.iload_n 2, 1) := by decide +kernel
theorem dX11_likesDriver_55 : decode cX11_likesDriver 55 = .ok (.iload_n 3, 1) := by decide +kernel
theorem dX11_likesDriver_56 : decode cX11_likesDriver 56 = .ok (.if_icmp .ge 7, 3) := by decide +kernel
theorem dX11_likesDriver_59 : decode cX11_likesDriver 59 = .ok (.iconst 1, 1) := by decide +kernel
theorem dX11_likesDriver_60 : decode cX11_likesDriver 60 = .ok (.goto 4, 3) := by decide +kernel
theorem dX11_likesDriver_63 : decode cX11_likesDriver 63 = .ok (.iconst 0, 1) := by decide +kernel
theorem dX11_likesDriver_64 : decode cX11_likesDriver 64 = .ok (.ireturn, 1) := by decide +kernel
theorem dX11_likesRider_0 : decode cX11_likesRider 0 = .ok (.aload_n 0, 1) := by decide +kernel
theorem dX11_likesRider_1 : decode cX11_likesRider 1 = .ok (.iload_n 2, 1) := by decide +kernel
theorem dX11_likesRider_2 : decode cX11_likesRider 2 = .ok (.iload_n 1, 1) := by decide +kernel
theorem dX11_likesRider_3 : decode cX11_likesRider 3 = .ok (.invokevirtual 200, 3) := by decide +kernel
theorem dX11_likesRider_6 : decode cX11_likesRider 6 = .ok (.aload_n 0, 1) := by decide +kernel
theorem dX11_likesRider_7 : decode cX11_likesRider 7 = .ok (.iload_n 3, 1) := by decide +kernel
theorem dX11_likesRider_8 : decode cX11_likesRider 8 = .ok (.iload_n 1, 1) := by decide +kernel
theorem dX11_likesRider_9 : decode cX11_likesRider 9 = .ok (.invokevirtual 200, 3) := by decide +kernel
theorem dX11_likesRider_12 : decode cX11_likesRider 12 = .ok (.if_icmp .eq 24, 3) := by decide +kernel
theorem dX11_likesRider_15 : decode cX11_likesRider 15 = .ok (.aload_n 0, 1) := by decide +kernel
theorem dX11_likesRider_16 : decode cX11_likesRider 16 = .ok (.iload_n 2, 1) := by decide +kernel
theorem dX11_likesRider_17 : decode cX11_likesRider 17 = .ok (.iload_n 1, 1) := by decide +kernel
theorem dX11_likesRider_18 : decode cX11_likesRider 18 = .ok (.invokevirtual 200, 3) := by decide +kernel
theorem dX11_likesRider_21 : decode cX11_likesRider 21 = .ok (.aload_n 0, 1) := by decide +kernel
theorem dX11_likesRider_22 : decode cX11_likesRider 22 = .ok (.iload_n 3, 1) := by decide +kernel
theorem dX11_likesRider_23 : decode cX11_likesRider 23 = .ok (.iload_n 1, 1) := by decide +kernel
theorem dX11_likesRider_24 : decode cX11_likesRider 24 = .ok (.invokevirtual 200, 3) := by decide +kernel
theorem dX11_likesRider_27 : decode cX11_likesRider 27 = .ok (.if_icmp .ge 7, 3) := by decide +kernel
theorem dX11_likesRider_30 : decode cX11_likesRider 30 = .ok (.iconst 1, 1) := by decide +kernel
theorem dX11_likesRider_31 : decode cX11_likesRider 31 = .ok (.goto 4, 3) := by decide +kernel
theorem dX11_likesRider_34 : decode cX11_likesRider 34 = .ok (.iconst 0, 1) := by decide +kernel
theorem dX11_likesRider_35 : decode cX11_likesRider 35 = .ok (.ireturn, 1) := by decide +kernel
theorem dX11_likesRider_36 : decode cX11_likesRider 36 = .ok (.aload_n 0, 1) := by decide +kernel
theorem dX11_likesRider_37 : decode cX11_likesRider 37 = .ok (.iload_n 2, 1) := by decide +kernel
theorem dX11_likesRider_38 : decode cX11_likesRider 38 = .ok (.iload_n 3, 1) := by decide +kernel
theorem dX11_likesRider_39 : decode cX11_likesRider 39 = .ok (.invokevirtual 203, 3) := by decide +kernel
theorem dX11_likesRider_42 : decode cX11_likesRider 42 = .ok (.ireturn, 1) := by decide +kernel
theorem dX11_hasMore_0 : decode cX11_hasMore 0 = .ok (.aload_n 0, 1) := by decide +kernel
theorem dX11_hasMore_1 : decode cX11_hasMore 1 = .ok (.getfield 19, 3) := by decide +kernel
theorem dX11_hasMore_4 : decode cX11_hasMore 4 = .ok (.bipush 8, 2) := by decide +kernel
theorem dX11_hasMore_6 : decode cX11_hasMore 6 = .ok (.iload_n 1, 1) := by decide +kernel
theorem dX11_hasMore_7 : decode cX11_hasMore 7 = .ok (.iadd, 1) := by decide +kernel
theorem dX11_hasMore_8 : decode cX11_hasMore 8 = .ok (.laload, 1) := by decide +kernel
theorem dX11_hasMore_9 : decode cX11_hasMore 9 = .ok (.lstore_n 3, 1) := by decide +kernel
theorem dX11_hasMore_10 : decode cX11_hasMore 10 = .ok (.aload_n 0, 1) := by decide +kernel
theorem dX11_hasMore_11 : decode cX11_hasMore 11 = .ok (.getfield 19, 3) := by decide +kernel
theorem dX11_hasMore_14 : decode cX11_hasMore 14 = .ok (.bipush 8, 2) := by decide +kernel
theorem dX11_hasMore_16 : decode cX11_hasMore 16 = .ok (.iload_n 2, 1) := by decide +kernel
theorem dX11_hasMore_17 : decode cX11_hasMore 17 = .ok (.iadd, 1) := by decide +kernel
theorem dX11_hasMore_18 : decode cX11_hasMore 18 = .ok (.laload, 1) := by decide +kernel
theorem dX11_hasMore_19 : decode cX11_hasMore 19 = .ok (.lstore 5, 2) := by decide +kernel
theorem dX11_hasMore_21 : decode cX11_hasMore 21 = .ok (.lload_n 3, 1) := by decide +kernel
theorem dX11_hasMore_22 : decode cX11_hasMore 22 = .ok (.lload 5, 2) := by decide +kernel
theorem dX11_hasMore_24 : decode cX11_hasMore 24 = .ok (.lcmp, 1) := by decide +kernel
theorem dX11_hasMore_25 : decode cX11_hasMore 25 = .ok (.ifCond .eq 18, 3) := by decide +kernel
theorem dX11_hasMore_28 : decode cX11_hasMore 28 = .ok (.lload_n 3, 1) := by decide +kernel
theorem dX11_hasMore_29 : decode cX11_hasMore 29 = .ok (.lload 5, 2) := by decide +kernel
theorem dX11_hasMore_31 : decode cX11_hasMore 31 = .ok (.lcmp, 1) := by decide +kernel
theorem dX11_hasMore_32 : decode cX11_hasMore 32 = .ok (.ifCond .le 7, 3) := by decide +kernel
theorem dX11_hasMore_35 : decode cX11_hasMore 35 = .ok (.iconst 1, 1) := by decide +kernel
theorem dX11_hasMore_36 : decode cX11_hasMore 36 = .ok (.goto 17, 3) := by decide +kernel
theorem dX11_hasMore_39 : decode cX11_hasMore 39 = .ok (.iconst 0, 1) := by decide +kernel
theorem dX11_hasMore_40 : decode cX11_hasMore 40 = .ok (.goto 13, 3) := by decide +kernel
theorem dX11_hasMore_43 : decode cX11_hasMore 43 = .ok (.iload_n 1, 1) := by decide +kernel
theorem dX11_hasMore_44 : decode cX11_hasMore 44 = .ok (.iload_n 2, 1) := by decide +kernel
theorem dX11_hasMore_45 : decode cX11_hasMore 45 = .ok (.if_icmp .ge 7, 3) := by decide +kernel
theorem dX11_hasMore_48 : decode cX11_hasMore 48 = .ok (.iconst 1, 1) := by decide +kernel
theorem dX11_hasMore_49 : decode cX11_hasMore 49 = .ok (.goto 4, 3) := by decide +kernel
theorem dX11_hasMore_52 : decode cX11_hasMore 52 = .ok (.iconst 0, 1) := by decide +kernel
theorem dX11_hasMore_53 : decode cX11_hasMore 53 = .ok (.ireturn, 1) := by decide +kernel
theorem dX11_takesPart_0 : decode cX11_takesPart 0 = .ok (.aload_n 0, 1) := by decide +kernel
theorem dX11_takesPart_1 : decode cX11_takesPart 1 = .ok (.iload_n 1, 1) := by decide +kernel
theorem dX11_takesPart_2 : decode cX11_takesPart 2 = .ok (.bipush 6, 2) := by decide +kernel
theorem dX11_takesPart_4 : decode cX11_takesPart 4 = .ok (.invokevirtual 72, 3) := by decide +kernel
theorem dX11_takesPart_7 : decode cX11_takesPart 7 = .ok (.ifCond .eq 14, 3) := by decide +kernel
theorem dX11_takesPart_10 : decode cX11_takesPart 10 = .ok (.aload_n 0, 1) := by decide +kernel
theorem dX11_takesPart_11 : decode cX11_takesPart 11 = .ok (.iload_n 1, 1) := by decide +kernel
theorem dX11_takesPart_12 : decode cX11_takesPart 12 = .ok (.bipush 6, 2) := by decide +kernel
theorem dX11_takesPart_14 : decode cX11_takesPart 14 = .ok (.invokevirtual 72, 3) := by decide +kernel
theorem dX11_takesPart_17 : decode cX11_takesPart 17 = .ok (.iconst 1, 1) := by decide +kernel
theorem dX11_takesPart_18 : decode cX11_takesPart 18 = .ok (.if_icmp .ne 7, 3) := by decide +kernel
theorem dX11_takesPart_21 : decode cX11_takesPart 21 = .ok (.iconst 1, 1) := by decide +kernel
theorem dX11_takesPart_22 : decode cX11_takesPart 22 = .ok (.goto 4, 3) := by decide +kernel
theorem dX11_takesPart_25 : decode cX11_takesPart 25 = .ok (.iconst 0, 1) := by decide +kernel
theorem dX11_takesPart_26 : decode cX11_takesPart 26 = .ok (.ireturn, 1) := by decide +kernel
theorem dX11_riderChoice_0 : decode cX11_riderChoice 0 = .ok (.aload_n 0, 1) := by decide +kernel
theorem dX11_riderChoice_1 : decode cX11_riderChoice 1 = .ok (.iconst 0, 1) := by decide +kernel
theorem dX11_riderChoice_2 : decode cX11_riderChoice 2 = .ok (.putfield 61, 3) := by decide +kernel
theorem dX11_riderChoice_5 : decode cX11_riderChoice 5 = .ok (.aload_n 0, 1) := by decide +kernel
theorem dX11_riderChoice_6 : decode cX11_riderChoice 6 = .ok (.iload_n 1, 1) := by decide +kernel
theorem dX11_riderChoice_7 : decode cX11_riderChoice 7 = .ok (.invokevirtual 112, 3) := by decide +kernel
theorem dX11_riderChoice_10 : decode cX11_riderChoice 10 = .ok (.ifCond .ne 9, 3) := by decide +kernel
theorem dX11_riderChoice_13 : decode cX11_riderChoice 13 = .ok (.aload_n 0, 1) := by decide +kernel
theorem dX11_riderChoice_14 : decode cX11_riderChoice 14 = .ok (.iconst 1, 1) := by decide +kernel
theorem dX11_riderChoice_15 : decode cX11_riderChoice 15 = .ok (.invokevirtual 79, 3) := by decide +kernel
theorem dX11_riderChoice_18 : decode cX11_riderChoice 18 = .ok (.ireturn, 1) := by decide +kernel
theorem dX11_riderChoice_19 : decode cX11_riderChoice 19 = .ok (.aload_n 0, 1) := by decide +kernel
theorem dX11_riderChoice_20 : decode cX11_riderChoice 20 = .ok (.invokevirtual 206, 3) := by decide +kernel
theorem dX11_riderChoice_23 : decode cX11_riderChoice 23 = .ok (.iconst 0, 1) := by decide +kernel
theorem dX11_riderChoice_24 : decode cX11_riderChoice 24 = .ok (.istore_n 3, 1) := by decide +kernel
theorem dX11_riderChoice_25 : decode cX11_riderChoice 25 = .ok (.iload_n 3, 1) := by decide +kernel
theorem dX11_riderChoice_26 : decode cX11_riderChoice 26 = .ok (.aload_n 0, 1) := by decide +kernel
theorem dX11_riderChoice_27 : decode cX11_riderChoice 27 = .ok (.getfield 7, 3) := by decide +kernel
theorem dX11_riderChoice_30 : decode cX11_riderChoice 30 = .ok (.iconst 1, 1) := by decide +kernel
theorem dX11_riderChoice_31 : decode cX11_riderChoice 31 = .ok (.iaload, 1) := by decide +kernel
theorem dX11_riderChoice_32 : decode cX11_riderChoice 32 = .ok (.if_icmp .ge 95, 3) := by decide +kernel
theorem dX11_riderChoice_35 : decode cX11_riderChoice 35 = .ok (.iconst 0, 1) := by decide +kernel
theorem dX11_riderChoice_36 : decode cX11_riderChoice 36 = .ok (.istore 4, 2) := by decide +kernel
theorem dX11_riderChoice_38 : decode cX11_riderChoice 38 = .ok (.iconst 0, 1) := by decide +kernel
theorem dX11_riderChoice_39 : decode cX11_riderChoice 39 = .ok (.istore 5, 2) := by decide +kernel
theorem dX11_riderChoice_41 : decode cX11_riderChoice 41 = .ok (.iload 5, 2) := by decide +kernel
theorem dX11_riderChoice_43 : decode cX11_riderChoice 43 = .ok (.aload_n 0, 1) := by decide +kernel
theorem dX11_riderChoice_44 : decode cX11_riderChoice 44 = .ok (.getfield 7, 3) := by decide +kernel
theorem dX11_riderChoice_47 : decode cX11_riderChoice 47 = .ok (.iconst 1, 1) := by decide +kernel
theorem dX11_riderChoice_48 : decode cX11_riderChoice 48 = .ok (.iaload, 1) := by decide +kernel
theorem dX11_riderChoice_49 : decode cX11_riderChoice 49 = .ok (.if_icmp .ge 55, 3) := by decide +kernel
theorem dX11_riderChoice_52 : decode cX11_riderChoice 52 = .ok (.iload 4, 2) := by decide +kernel
theorem dX11_riderChoice_54 : decode cX11_riderChoice 54 = .ok (.iload 5, 2) := by decide +kernel
theorem dX11_riderChoice_56 : decode cX11_riderChoice 56 = .ok (.iload_n 3, 1) := by decide +kernel
theorem dX11_riderChoice_57 : decode cX11_riderChoice 57 = .ok (.if_icmp .eq 37, 3) := by decide +kernel
theorem dX11_riderChoice_60 : decode cX11_riderChoice 60 = .ok (.aload_n 0, 1) := by decide +kernel
theorem dX11_riderChoice_61 : decode cX11_riderChoice 61 = .ok (.iload_n 1, 1) := by decide +kernel
theorem dX11_riderChoice_62 : decode cX11_riderChoice 62 = .ok (.iload_n 3, 1) := by decide +kernel
theorem dX11_riderChoice_63 : decode cX11_riderChoice 63 = .ok (.invokevirtual 209, 3) := by decide +kernel
theorem dX11_riderChoice_66 : decode cX11_riderChoice 66 = .ok (.ifCond .eq 28, 3) := by decide +kernel
theorem dX11_riderChoice_69 : decode cX11_riderChoice 69 = .ok (.aload_n 0, 1) := by decide +kernel
theorem dX11_riderChoice_70 : decode cX11_riderChoice 70 = .ok (.iload_n 1, 1) := by decide +kernel
theorem dX11_riderChoice_71 : decode cX11_riderChoice 71 = .ok (.iload 5, 2) := by decide +kernel
theorem dX11_riderChoice_73 : decode cX11_riderChoice 73 = .ok (.invokevirtual 209, 3) := by decide +kernel
theorem dX11_riderChoice_76 : decode cX11_riderChoice 76 = .ok (.ifCond .eq 18, 3) := by decide +kernel
theorem dX11_riderChoice_79 : decode cX11_riderChoice 79 = .ok (.aload_n 0, 1) := by decide +kernel
theorem dX11_riderChoice_80 : decode cX11_riderChoice 80 = .ok (.iload_n 1, 1) := by decide +kernel
theorem dX11_riderChoice_81 : decode cX11_riderChoice 81 = .ok (.iload 5, 2) := by decide +kernel
theorem dX11_riderChoice_83 : decode cX11_riderChoice 83 = .ok (.iload_n 3, 1) := by decide +kernel
theorem dX11_riderChoice_84 : decode cX11_riderChoice 84 = .ok (.invokevirtual 212, 3) := by decide +kernel
theorem dX11_riderChoice_87 : decode cX11_riderChoice 87 = .ok (.ifCond .eq 7, 3) := by decide +kernel
theorem dX11_riderChoice_90 : decode cX11_riderChoice 90 = .ok (.iconst 1, 1) := by decide +kernel
theorem dX11_riderChoice_91 : decode cX11_riderChoice 91 = .ok (.goto 4, 3) := by decide +kernel
theorem dX11_riderChoice_94 : decode cX11_riderChoice 94 = .ok (.iconst 0, 1) := by decide +kernel
theorem dX11_riderChoice_95 : decode cX11_riderChoice 95 = .ok (.iadd, 1) := by decide +kernel
theorem dX11_riderChoice_96 : decode cX11_riderChoice 96 = .ok (.istore 4, 2) := by decide +kernel
theorem dX11_riderChoice_98 : decode cX11_riderChoice 98 = .ok (.iinc 5 1, 3) := by decide +kernel
theorem dX11_riderChoice_101 : decode cX11_riderChoice 101 = .ok (.goto (-60), 3) := by decide +kernel
theorem dX11_riderChoice_104 : decode cX11_riderChoice 104 = .ok (.aload_n 0, 1) := by decide +kernel
theorem dX11_riderChoice_105 : decode cX11_riderChoice 105 = .ok (.iload_n 1, 1) := by decide +kernel
theorem dX11_riderChoice_106 : decode cX11_riderChoice 106 = .ok (.iload_n 3, 1) := by decide +kernel
theorem dX11_riderChoice_107 : decode cX11_riderChoice 107 = .ok (.invokevirtual 209, 3) := by decide +kernel
theorem dX11_riderChoice_110 : decode cX11_riderChoice 110 = .ok (.ifCond .eq 11, 3) := by decide +kernel
theorem dX11_riderChoice_113 : decode cX11_riderChoice 113 = .ok (.iload 4, 2) := by decide +kernel
theorem dX11_riderChoice_115 : decode cX11_riderChoice 115 = .ok (.iload_n 2, 1) := by decide +kernel
theorem dX11_riderChoice_116 : decode cX11_riderChoice 116 = .ok (.if_icmp .ne 5, 3) := by decide +kernel
theorem dX11_riderChoice_119 : decode cX11_riderChoice 119 = .ok (.iload_n 3, 1) := by decide +kernel
theorem dX11_riderChoice_120 : decode cX11_riderChoice 120 = .ok (.ireturn, 1) := by decide +kernel
theorem dX11_riderChoice_121 : decode cX11_riderChoice 121 = .ok (.iinc 3 1, 3) := by decide +kernel
theorem dX11_riderChoice_124 : decode cX11_riderChoice 124 = .ok (.goto (-99), 3) := by decide +kernel
theorem dX11_riderChoice_127 : decode cX11_riderChoice 127 = .ok (.iconst (-1), 1) := by decide +kernel
theorem dX11_riderChoice_128 : decode cX11_riderChoice 128 = .ok (.ireturn, 1) := by decide +kernel
theorem dX11_driverChoice_0 : decode cX11_driverChoice 0 = .ok (.aload_n 0, 1) := by decide +kernel
theorem dX11_driverChoice_1 : decode cX11_driverChoice 1 = .ok (.iconst 0, 1) := by decide +kernel
theorem dX11_driverChoice_2 : decode cX11_driverChoice 2 = .ok (.putfield 61, 3) := by decide +kernel
theorem dX11_driverChoice_5 : decode cX11_driverChoice 5 = .ok (.aload_n 0, 1) := by decide +kernel
theorem dX11_driverChoice_6 : decode cX11_driverChoice 6 = .ok (.iload_n 1, 1) := by decide +kernel
theorem dX11_driverChoice_7 : decode cX11_driverChoice 7 = .ok (.invokevirtual 87, 3) := by decide +kernel
theorem dX11_driverChoice_10 : decode cX11_driverChoice 10 = .ok (.ifCond .ne 9, 3) := by decide +kernel
theorem dX11_driverChoice_13 : decode cX11_driverChoice 13 = .ok (.aload_n 0, 1) := by decide +kernel
theorem dX11_driverChoice_14 : decode cX11_driverChoice 14 = .ok (.iconst 1, 1) := by decide +kernel
theorem dX11_driverChoice_15 : decode cX11_driverChoice 15 = .ok (.invokevirtual 79, 3) := by decide +kernel
theorem dX11_driverChoice_18 : decode cX11_driverChoice 18 = .ok (.ireturn, 1) := by decide +kernel
theorem dX11_driverChoice_19 : decode cX11_driverChoice 19 = .ok (.aload_n 0, 1) := by decide +kernel
theorem dX11_driverChoice_20 : decode cX11_driverChoice 20 = .ok (.invokevirtual 206, 3) := by decide +kernel
theorem dX11_driverChoice_23 : decode cX11_driverChoice 23 = .ok (.iconst 0, 1) := by decide +kernel
theorem dX11_driverChoice_24 : decode cX11_driverChoice 24 = .ok (.istore_n 3, 1) := by decide +kernel
theorem dX11_driverChoice_25 : decode cX11_driverChoice 25 = .ok (.iload_n 3, 1) := by decide +kernel
theorem dX11_driverChoice_26 : decode cX11_driverChoice 26 = .ok (.aload_n 0, 1) := by decide +kernel
theorem dX11_driverChoice_27 : decode cX11_driverChoice 27 = .ok (.getfield 7, 3) := by decide +kernel
theorem dX11_driverChoice_30 : decode cX11_driverChoice 30 = .ok (.iconst 2, 1) := by decide +kernel
theorem dX11_driverChoice_31 : decode cX11_driverChoice 31 = .ok (.iaload, 1) := by decide +kernel
theorem dX11_driverChoice_32 : decode cX11_driverChoice 32 = .ok (.if_icmp .ge 95, 3) := by decide +kernel
theorem dX11_driverChoice_35 : decode cX11_driverChoice 35 = .ok (.iconst 0, 1) := by decide +kernel
theorem dX11_driverChoice_36 : decode cX11_driverChoice 36 = .ok (.istore 4, 2) := by decide +kernel
theorem dX11_driverChoice_38 : decode cX11_driverChoice 38 = .ok (.iconst 0, 1) := by decide +kernel
theorem dX11_driverChoice_39 : decode cX11_driverChoice 39 = .ok (.istore 5, 2) := by decide +kernel
theorem dX11_driverChoice_41 : decode cX11_driverChoice 41 = .ok (.iload 5, 2) := by decide +kernel
theorem dX11_driverChoice_43 : decode cX11_driverChoice 43 = .ok (.aload_n 0, 1) := by decide +kernel
theorem dX11_driverChoice_44 : decode cX11_driverChoice 44 = .ok (.getfield 7, 3) := by decide +kernel
theorem dX11_driverChoice_47 : decode cX11_driverChoice 47 = .ok (.iconst 2, 1) := by decide +kernel
theorem dX11_driverChoice_48 : decode cX11_driverChoice 48 = .ok (.iaload, 1) := by decide +kernel
theorem dX11_driverChoice_49 : decode cX11_driverChoice 49 = .ok (.if_icmp .ge 55, 3) := by decide +kernel
theorem dX11_driverChoice_52 : decode cX11_driverChoice 52 = .ok (.iload 4, 2) := by decide +kernel
theorem dX11_driverChoice_54 : decode cX11_driverChoice 54 = .ok (.iload 5, 2) := by decide +kernel
theorem dX11_driverChoice_56 : decode cX11_driverChoice 56 = .ok (.iload_n 3, 1) := by decide +kernel
theorem dX11_driverChoice_57 : decode cX11_driverChoice 57 = .ok (.if_icmp .eq 37, 3) := by decide +kernel
theorem dX11_driverChoice_60 : decode cX11_driverChoice 60 = .ok (.aload_n 0, 1) := by decide +kernel
theorem dX11_driverChoice_61 : decode cX11_driverChoice 61 = .ok (.iload_n 1, 1) := by decide +kernel
theorem dX11_driverChoice_62 : decode cX11_driverChoice 62 = .ok (.iload_n 3, 1) := by decide +kernel
theorem dX11_driverChoice_63 : decode cX11_driverChoice 63 = .ok (.invokevirtual 215, 3) := by decide +kernel
theorem dX11_driverChoice_66 : decode cX11_driverChoice 66 = .ok (.ifCond .eq 28, 3) := by decide +kernel
theorem dX11_driverChoice_69 : decode cX11_driverChoice 69 = .ok (.aload_n 0, 1) := by decide +kernel
theorem dX11_driverChoice_70 : decode cX11_driverChoice 70 = .ok (.iload_n 1, 1) := by decide +kernel
theorem dX11_driverChoice_71 : decode cX11_driverChoice 71 = .ok (.iload 5, 2) := by decide +kernel
theorem dX11_driverChoice_73 : decode cX11_driverChoice 73 = .ok (.invokevirtual 215, 3) := by decide +kernel
theorem dX11_driverChoice_76 : decode cX11_driverChoice 76 = .ok (.ifCond .eq 18, 3) := by decide +kernel
theorem dX11_driverChoice_79 : decode cX11_driverChoice 79 = .ok (.aload_n 0, 1) := by decide +kernel
theorem dX11_driverChoice_80 : decode cX11_driverChoice 80 = .ok (.iload_n 1, 1) := by decide +kernel
theorem dX11_driverChoice_81 : decode cX11_driverChoice 81 = .ok (.iload 5, 2) := by decide +kernel
theorem dX11_driverChoice_83 : decode cX11_driverChoice 83 = .ok (.iload_n 3, 1) := by decide +kernel
theorem dX11_driverChoice_84 : decode cX11_driverChoice 84 = .ok (.invokevirtual 218, 3) := by decide +kernel
theorem dX11_driverChoice_87 : decode cX11_driverChoice 87 = .ok (.ifCond .eq 7, 3) := by decide +kernel
theorem dX11_driverChoice_90 : decode cX11_driverChoice 90 = .ok (.iconst 1, 1) := by decide +kernel
theorem dX11_driverChoice_91 : decode cX11_driverChoice 91 = .ok (.goto 4, 3) := by decide +kernel
theorem dX11_driverChoice_94 : decode cX11_driverChoice 94 = .ok (.iconst 0, 1) := by decide +kernel
theorem dX11_driverChoice_95 : decode cX11_driverChoice 95 = .ok (.iadd, 1) := by decide +kernel
theorem dX11_driverChoice_96 : decode cX11_driverChoice 96 = .ok (.istore 4, 2) := by decide +kernel
theorem dX11_driverChoice_98 : decode cX11_driverChoice 98 = .ok (.iinc 5 1, 3) := by decide +kernel
theorem dX11_driverChoice_101 : decode cX11_driverChoice 101 = .ok (.goto (-60), 3) := by decide +kernel
theorem dX11_driverChoice_104 : decode cX11_driverChoice 104 = .ok (.aload_n 0, 1) := by decide +kernel
theorem dX11_driverChoice_105 : decode cX11_driverChoice 105 = .ok (.iload_n 1, 1) := by decide +kernel
theorem dX11_driverChoice_106 : decode cX11_driverChoice 106 = .ok (.iload_n 3, 1) := by decide +kernel
theorem dX11_driverChoice_107 : decode cX11_driverChoice 107 = .ok (.invokevirtual 215, 3) := by decide +kernel
theorem dX11_driverChoice_110 : decode cX11_driverChoice 110 = .ok (.ifCond .eq 11, 3) := by decide +kernel
theorem dX11_driverChoice_113 : decode cX11_driverChoice 113 = .ok (.iload 4, 2) := by decide +kernel
theorem dX11_driverChoice_115 : decode cX11_driverChoice 115 = .ok (.iload_n 2, 1) := by decide +kernel
theorem dX11_driverChoice_116 : decode cX11_driverChoice 116 = .ok (.if_icmp .ne 5, 3) := by decide +kernel
theorem dX11_driverChoice_119 : decode cX11_driverChoice 119 = .ok (.iload_n 3, 1) := by decide +kernel
theorem dX11_driverChoice_120 : decode cX11_driverChoice 120 = .ok (.ireturn, 1) := by decide +kernel
theorem dX11_driverChoice_121 : decode cX11_driverChoice 121 = .ok (.iinc 3 1, 3) := by decide +kernel
theorem dX11_driverChoice_124 : decode cX11_driverChoice 124 = .ok (.goto (-99), 3) := by decide +kernel
theorem dX11_driverChoice_127 : decode cX11_driverChoice 127 = .ok (.iconst (-1), 1) := by decide +kernel
theorem dX11_driverChoice_128 : decode cX11_driverChoice 128 = .ok (.ireturn, 1) := by decide +kernel
theorem dX11_isChoice_0 : decode cX11_isChoice 0 = .ok (.aload_n 0, 1) := by decide +kernel
theorem dX11_isChoice_1 : decode cX11_isChoice 1 = .ok (.iload_n 2, 1) := by decide +kernel
theorem dX11_isChoice_2 : decode cX11_isChoice 2 = .ok (.invokevirtual 221, 3) := by decide +kernel
theorem dX11_isChoice_5 : decode cX11_isChoice 5 = .ok (.ifCond .eq 16, 3) := by decide +kernel
theorem dX11_isChoice_8 : decode cX11_isChoice 8 = .ok (.aload_n 0, 1) := by decide +kernel
theorem dX11_isChoice_9 : decode cX11_isChoice 9 = .ok (.iload_n 2, 1) := by decide +kernel
theorem dX11_isChoice_10 : decode cX11_isChoice 10 = .ok (.iload_n 1, 1) := by decide +kernel
theorem dX11_isChoice_11 : decode cX11_isChoice 11 = .ok (.invokevirtual 209, 3) := by decide +kernel
theorem dX11_isChoice_14 : decode cX11_isChoice 14 = .ok (.ifCond .eq 7, 3) := by decide +kernel
theorem dX11_isChoice_17 : decode cX11_isChoice 17 = .ok (.iconst 1, 1) := by decide +kernel
theorem dX11_isChoice_18 : decode cX11_isChoice 18 = .ok (.goto 4, 3) := by decide +kernel
theorem dX11_isChoice_21 : decode cX11_isChoice 21 = .ok (.iconst 0, 1) := by decide +kernel
theorem dX11_isChoice_22 : decode cX11_isChoice 22 = .ok (.ireturn, 1) := by decide +kernel
theorem dX11_countBits_0 : decode cX11_countBits 0 = .ok (.iconst 0, 1) := by decide +kernel
theorem dX11_countBits_1 : decode cX11_countBits 1 = .ok (.istore_n 1, 1) := by decide +kernel
theorem dX11_countBits_2 : decode cX11_countBits 2 = .ok (.iload_n 0, 1) := by decide +kernel
theorem dX11_countBits_3 : decode cX11_countBits 3 = .ok (.istore_n 2, 1) := by decide +kernel
theorem dX11_countBits_4 : decode cX11_countBits 4 = .ok (.iload_n 2, 1) := by decide +kernel
theorem dX11_countBits_5 : decode cX11_countBits 5 = .ok (.ifCond .eq 15, 3) := by decide +kernel
theorem dX11_countBits_8 : decode cX11_countBits 8 = .ok (.iinc 1 1, 3) := by decide +kernel
theorem dX11_countBits_11 : decode cX11_countBits 11 = .ok (.iload_n 2, 1) := by decide +kernel
theorem dX11_countBits_12 : decode cX11_countBits 12 = .ok (.iload_n 2, 1) := by decide +kernel
theorem dX11_countBits_13 : decode cX11_countBits 13 = .ok (.iconst 1, 1) := by decide +kernel
theorem dX11_countBits_14 : decode cX11_countBits 14 = .ok (.isub, 1) := by decide +kernel
theorem dX11_countBits_15 : decode cX11_countBits 15 = .ok (.iand, 1) := by decide +kernel
theorem dX11_countBits_16 : decode cX11_countBits 16 = .ok (.istore_n 2, 1) := by decide +kernel
theorem dX11_countBits_17 : decode cX11_countBits 17 = .ok (.goto (-13), 3) := by decide +kernel
theorem dX11_countBits_20 : decode cX11_countBits 20 = .ok (.iload_n 1, 1) := by decide +kernel
theorem dX11_countBits_21 : decode cX11_countBits 21 = .ok (.ireturn, 1) := by decide +kernel
theorem dX11_blockingPairs_0 : decode cX11_blockingPairs 0 = .ok (.aload_n 0, 1) := by decide +kernel
theorem dX11_blockingPairs_1 : decode cX11_blockingPairs 1 = .ok (.iconst 0, 1) := by decide +kernel
theorem dX11_blockingPairs_2 : decode cX11_blockingPairs 2 = .ok (.putfield 61, 3) := by decide +kernel
theorem dX11_blockingPairs_5 : decode cX11_blockingPairs 5 = .ok (.aload_n 0, 1) := by decide +kernel
theorem dX11_blockingPairs_6 : decode cX11_blockingPairs 6 = .ok (.invokevirtual 206, 3) := by decide +kernel
theorem dX11_blockingPairs_9 : decode cX11_blockingPairs 9 = .ok (.iconst 0, 1) := by decide +kernel
theorem dX11_blockingPairs_10 : decode cX11_blockingPairs 10 = .ok (.istore_n 1, 1) := by decide +kernel
theorem dX11_blockingPairs_11 : decode cX11_blockingPairs 11 = .ok (.iconst 0, 1) := by decide +kernel
theorem dX11_blockingPairs_12 : decode cX11_blockingPairs 12 = .ok (.istore_n 2, 1) := by decide +kernel
theorem dX11_blockingPairs_13 : decode cX11_blockingPairs 13 = .ok (.iload_n 2, 1) := by decide +kernel
theorem dX11_blockingPairs_14 : decode cX11_blockingPairs 14 = .ok (.aload_n 0, 1) := by decide +kernel
theorem dX11_blockingPairs_15 : decode cX11_blockingPairs 15 = .ok (.getfield 7, 3) := by decide +kernel
theorem dX11_blockingPairs_18 : decode cX11_blockingPairs 18 = .ok (.iconst 2, 1) := by decide +kernel
theorem dX11_blockingPairs_19 : decode cX11_blockingPairs 19 = .ok (.iaload, 1) := by decide +kernel
theorem dX11_blockingPairs_20 : decode cX11_blockingPairs 20 = .ok (.if_icmp .ge 83, 3) := by decide +kernel
theorem dX11_blockingPairs_23 : decode cX11_blockingPairs 23 = .ok (.iconst 0, 1) := by decide +kernel
theorem dX11_blockingPairs_24 : decode cX11_blockingPairs 24 = .ok (.istore_n 3, 1) := by decide +kernel
theorem dX11_blockingPairs_25 : decode cX11_blockingPairs 25 = .ok (.iload_n 3, 1) := by decide +kernel
theorem dX11_blockingPairs_26 : decode cX11_blockingPairs 26 = .ok (.aload_n 0, 1) := by decide +kernel
theorem dX11_blockingPairs_27 : decode cX11_blockingPairs 27 = .ok (.getfield 7, 3) := by decide +kernel
theorem dX11_blockingPairs_30 : decode cX11_blockingPairs 30 = .ok (.iconst 1, 1) := by decide +kernel
theorem dX11_blockingPairs_31 : decode cX11_blockingPairs 31 = .ok (.iaload, 1) := by decide +kernel
theorem dX11_blockingPairs_32 : decode cX11_blockingPairs 32 = .ok (.if_icmp .ge 65, 3) := by decide +kernel
theorem dX11_blockingPairs_35 : decode cX11_blockingPairs 35 = .ok (.aload_n 0, 1) := by decide +kernel
theorem dX11_blockingPairs_36 : decode cX11_blockingPairs 36 = .ok (.iload_n 3, 1) := by decide +kernel
theorem dX11_blockingPairs_37 : decode cX11_blockingPairs 37 = .ok (.iload_n 2, 1) := by decide +kernel
theorem dX11_blockingPairs_38 : decode cX11_blockingPairs 38 = .ok (.invokevirtual 215, 3) := by decide +kernel
theorem dX11_blockingPairs_41 : decode cX11_blockingPairs 41 = .ok (.ifCond .eq 34, 3) := by decide +kernel
theorem dX11_blockingPairs_44 : decode cX11_blockingPairs 44 = .ok (.aload_n 0, 1) := by decide +kernel
theorem dX11_blockingPairs_45 : decode cX11_blockingPairs 45 = .ok (.iload_n 2, 1) := by decide +kernel
theorem dX11_blockingPairs_46 : decode cX11_blockingPairs 46 = .ok (.iload_n 3, 1) := by decide +kernel
theorem dX11_blockingPairs_47 : decode cX11_blockingPairs 47 = .ok (.invokevirtual 115, 3) := by decide +kernel
theorem dX11_blockingPairs_50 : decode cX11_blockingPairs 50 = .ok (.ifCond .ne 25, 3) := by decide +kernel
theorem dX11_blockingPairs_53 : decode cX11_blockingPairs 53 = .ok (.aload_n 0, 1) := by decide +kernel
theorem dX11_blockingPairs_54 : decode cX11_blockingPairs 54 = .ok (.iload_n 2, 1) := by decide +kernel
theorem dX11_blockingPairs_55 : decode cX11_blockingPairs 55 = .ok (.iload_n 3, 1) := by decide +kernel
theorem dX11_blockingPairs_56 : decode cX11_blockingPairs 56 = .ok (.invokevirtual 224, 3) := by decide +kernel
theorem dX11_blockingPairs_59 : decode cX11_blockingPairs 59 = .ok (.ifCond .eq 16, 3) := by decide +kernel
theorem dX11_blockingPairs_62 : decode cX11_blockingPairs 62 = .ok (.aload_n 0, 1) := by decide +kernel
theorem dX11_blockingPairs_63 : decode cX11_blockingPairs 63 = .ok (.iload_n 3, 1) := by decide +kernel
theorem dX11_blockingPairs_64 : decode cX11_blockingPairs 64 = .ok (.iload_n 2, 1) := by decide +kernel
theorem dX11_blockingPairs_65 : decode cX11_blockingPairs 65 = .ok (.invokevirtual 227, 3) := by decide +kernel
theorem dX11_blockingPairs_68 : decode cX11_blockingPairs 68 = .ok (.ifCond .eq 7, 3) := by decide +kernel
theorem dX11_blockingPairs_71 : decode cX11_blockingPairs 71 = .ok (.iconst 1, 1) := by decide +kernel
theorem dX11_blockingPairs_72 : decode cX11_blockingPairs 72 = .ok (.goto 4, 3) := by decide +kernel
theorem dX11_blockingPairs_75 : decode cX11_blockingPairs 75 = .ok (.iconst 0, 1) := by decide +kernel
theorem dX11_blockingPairs_76 : decode cX11_blockingPairs 76 = .ok (.istore 4, 2) := by decide +kernel
theorem dX11_blockingPairs_78 : decode cX11_blockingPairs 78 = .ok (.iload_n 1, 1) := by decide +kernel
theorem dX11_blockingPairs_79 : decode cX11_blockingPairs 79 = .ok (.iload 4, 2) := by decide +kernel
theorem dX11_blockingPairs_81 : decode cX11_blockingPairs 81 = .ok (.ifCond .eq 7, 3) := by decide +kernel
theorem dX11_blockingPairs_84 : decode cX11_blockingPairs 84 = .ok (.iconst 1, 1) := by decide +kernel
theorem dX11_blockingPairs_85 : decode cX11_blockingPairs 85 = .ok (.goto 4, 3) := by decide +kernel
theorem dX11_blockingPairs_88 : decode cX11_blockingPairs 88 = .ok (.iconst 0, 1) := by decide +kernel
theorem dX11_blockingPairs_89 : decode cX11_blockingPairs 89 = .ok (.iadd, 1) := by decide +kernel
theorem dX11_blockingPairs_90 : decode cX11_blockingPairs 90 = .ok (.istore_n 1, 1) := by decide +kernel
theorem dX11_blockingPairs_91 : decode cX11_blockingPairs 91 = .ok (.iinc 3 1, 3) := by decide +kernel
theorem dX11_blockingPairs_94 : decode cX11_blockingPairs 94 = .ok (.goto (-69), 3) := by decide +kernel
theorem dX11_blockingPairs_97 : decode cX11_blockingPairs 97 = .ok (.iinc 2 1, 3) := by decide +kernel
theorem dX11_blockingPairs_100 : decode cX11_blockingPairs 100 = .ok (.goto (-87), 3) := by decide +kernel
theorem dX11_blockingPairs_103 : decode cX11_blockingPairs 103 = .ok (.iload_n 1, 1) := by decide +kernel
theorem dX11_blockingPairs_104 : decode cX11_blockingPairs 104 = .ok (.ireturn, 1) := by decide +kernel
theorem dX11_wouldGo_0 : decode cX11_wouldGo 0 = .ok (.aload_n 0, 1) := by decide +kernel
theorem dX11_wouldGo_1 : decode cX11_wouldGo 1 = .ok (.iload_n 1, 1) := by decide +kernel
theorem dX11_wouldGo_2 : decode cX11_wouldGo 2 = .ok (.bipush 7, 2) := by decide +kernel
theorem dX11_wouldGo_4 : decode cX11_wouldGo 4 = .ok (.invokevirtual 72, 3) := by decide +kernel
theorem dX11_wouldGo_7 : decode cX11_wouldGo 7 = .ok (.istore_n 3, 1) := by decide +kernel
theorem dX11_wouldGo_8 : decode cX11_wouldGo 8 = .ok (.iload_n 3, 1) := by decide +kernel
theorem dX11_wouldGo_9 : decode cX11_wouldGo 9 = .ok (.iconst (-1), 1) := by decide +kernel
theorem dX11_wouldGo_10 : decode cX11_wouldGo 10 = .ok (.if_icmp .eq 22, 3) := by decide +kernel
theorem dX11_wouldGo_13 : decode cX11_wouldGo 13 = .ok (.aload_n 0, 1) := by decide +kernel
theorem dX11_wouldGo_14 : decode cX11_wouldGo 14 = .ok (.iload_n 1, 1) := by decide +kernel
theorem dX11_wouldGo_15 : decode cX11_wouldGo 15 = .ok (.iload_n 3, 1) := by decide +kernel
theorem dX11_wouldGo_16 : decode cX11_wouldGo 16 = .ok (.invokevirtual 209, 3) := by decide +kernel
theorem dX11_wouldGo_19 : decode cX11_wouldGo 19 = .ok (.ifCond .eq 13, 3) := by decide +kernel
theorem dX11_wouldGo_22 : decode cX11_wouldGo 22 = .ok (.aload_n 0, 1) := by decide +kernel
theorem dX11_wouldGo_23 : decode cX11_wouldGo 23 = .ok (.iload_n 1, 1) := by decide +kernel
theorem dX11_wouldGo_24 : decode cX11_wouldGo 24 = .ok (.iload_n 2, 1) := by decide +kernel
theorem dX11_wouldGo_25 : decode cX11_wouldGo 25 = .ok (.iload_n 3, 1) := by decide +kernel
theorem dX11_wouldGo_26 : decode cX11_wouldGo 26 = .ok (.invokevirtual 212, 3) := by decide +kernel
theorem dX11_wouldGo_29 : decode cX11_wouldGo 29 = .ok (.ifCond .eq 7, 3) := by decide +kernel
theorem dX11_wouldGo_32 : decode cX11_wouldGo 32 = .ok (.iconst 1, 1) := by decide +kernel
theorem dX11_wouldGo_33 : decode cX11_wouldGo 33 = .ok (.goto 4, 3) := by decide +kernel
theorem dX11_wouldGo_36 : decode cX11_wouldGo 36 = .ok (.iconst 0, 1) := by decide +kernel
theorem dX11_wouldGo_37 : decode cX11_wouldGo 37 = .ok (.ireturn, 1) := by decide +kernel
theorem dX11_wouldTake_0 : decode cX11_wouldTake 0 = .ok (.aload_n 0, 1) := by decide +kernel
theorem dX11_wouldTake_1 : decode cX11_wouldTake 1 = .ok (.iload_n 1, 1) := by decide +kernel
theorem dX11_wouldTake_2 : decode cX11_wouldTake 2 = .ok (.invokevirtual 119, 3) := by decide +kernel
theorem dX11_wouldTake_5 : decode cX11_wouldTake 5 = .ok (.invokestatic 230, 3) := by decide +kernel
theorem dX11_wouldTake_8 : decode cX11_wouldTake 8 = .ok (.aload_n 0, 1) := by decide +kernel
theorem dX11_wouldTake_9 : decode cX11_wouldTake 9 = .ok (.iload_n 1, 1) := by decide +kernel
theorem dX11_wouldTake_10 : decode cX11_wouldTake 10 = .ok (.iconst 4, 1) := by decide +kernel
theorem dX11_wouldTake_11 : decode cX11_wouldTake 11 = .ok (.invokevirtual 68, 3) := by decide +kernel
theorem dX11_wouldTake_14 : decode cX11_wouldTake 14 = .ok (.if_icmp .ge 7, 3) := by decide +kernel
theorem dX11_wouldTake_17 : decode cX11_wouldTake 17 = .ok (.iconst 1, 1) := by decide +kernel
theorem dX11_wouldTake_18 : decode cX11_wouldTake 18 = .ok (.goto 4, 3) := by decide +kernel
theorem dX11_wouldTake_21 : decode cX11_wouldTake 21 = .ok (.iconst 0, 1) := by decide +kernel
theorem dX11_wouldTake_22 : decode cX11_wouldTake 22 = .ok (.istore_n 3, 1) := by decide +kernel
theorem dX11_wouldTake_23 : decode cX11_wouldTake 23 = .ok (.iconst 0, 1) := by decide +kernel
theorem dX11_wouldTake_24 : decode cX11_wouldTake 24 = .ok (.istore 4, 2) := by decide +kernel
theorem dX11_wouldTake_26 : decode cX11_wouldTake 26 = .ok (.iload 4, 2) := by decide +kernel
theorem dX11_wouldTake_28 : decode cX11_wouldTake 28 = .ok (.aload_n 0, 1) := by decide +kernel
theorem dX11_wouldTake_29 : decode cX11_wouldTake 29 = .ok (.getfield 7, 3) := by decide +kernel
theorem dX11_wouldTake_32 : decode cX11_wouldTake 32 = .ok (.iconst 2, 1) := by decide +kernel
theorem dX11_wouldTake_33 : decode cX11_wouldTake 33 = .ok (.iaload, 1) := by decide +kernel
theorem dX11_wouldTake_34 : decode cX11_wouldTake 34 = .ok (.if_icmp .ge 40, 3) := by decide +kernel
theorem dX11_wouldTake_37 : decode cX11_wouldTake 37 = .ok (.iload_n 3, 1) := by decide +kernel
theorem dX11_wouldTake_38 : decode cX11_wouldTake 38 = .ok (.ifCond .ne 24, 3) := by decide +kernel
theorem dX11_wouldTake_41 : decode cX11_wouldTake 41 = .ok (.aload_n 0, 1) := by decide +kernel
theorem dX11_wouldTake_42 : decode cX11_wouldTake 42 = .ok (.iload 4, 2) := by decide +kernel
theorem dX11_wouldTake_44 : decode cX11_wouldTake 44 = .ok (.iload_n 1, 1) := by decide +kernel
theorem dX11_wouldTake_45 : decode cX11_wouldTake 45 = .ok (.invokevirtual 115, 3) := by decide +kernel
theorem dX11_wouldTake_48 : decode cX11_wouldTake 48 = .ok (.ifCond .eq 18, 3) := by decide +kernel
theorem dX11_wouldTake_51 : decode cX11_wouldTake 51 = .ok (.aload_n 0, 1) := by decide +kernel
theorem dX11_wouldTake_52 : decode cX11_wouldTake 52 = .ok (.iload_n 1, 1) := by decide +kernel
theorem dX11_wouldTake_53 : decode cX11_wouldTake 53 = .ok (.iload_n 2, 1) := by decide +kernel
theorem dX11_wouldTake_54 : decode cX11_wouldTake 54 = .ok (.iload 4, 2) := by decide +kernel
theorem dX11_wouldTake_56 : decode cX11_wouldTake 56 = .ok (.invokevirtual 218, 3) := by decide +kernel
theorem dX11_wouldTake_59 : decode cX11_wouldTake 59 = .ok (.ifCond .eq 7, 3) := by decide +kernel
theorem dX11_wouldTake_62 : decode cX11_wouldTake 62 = .ok (.iconst 1, 1) := by decide +kernel
theorem dX11_wouldTake_63 : decode cX11_wouldTake 63 = .ok (.goto 4, 3) := by decide +kernel
theorem dX11_wouldTake_66 : decode cX11_wouldTake 66 = .ok (.iconst 0, 1) := by decide +kernel
theorem dX11_wouldTake_67 : decode cX11_wouldTake 67 = .ok (.istore_n 3, 1) := by decide +kernel
theorem dX11_wouldTake_68 : decode cX11_wouldTake 68 = .ok (.iinc 4 1, 3) := by decide +kernel
theorem dX11_wouldTake_71 : decode cX11_wouldTake 71 = .ok (.goto (-45), 3) := by decide +kernel
theorem dX11_wouldTake_74 : decode cX11_wouldTake 74 = .ok (.iload_n 3, 1) := by decide +kernel
theorem dX11_wouldTake_75 : decode cX11_wouldTake 75 = .ok (.ireturn, 1) := by decide +kernel
theorem dX11_bestUnasked_0 : decode cX11_bestUnasked 0 = .ok (.iconst (-1), 1) := by decide +kernel
theorem dX11_bestUnasked_1 : decode cX11_bestUnasked 1 = .ok (.istore_n 2, 1) := by decide +kernel
theorem dX11_bestUnasked_2 : decode cX11_bestUnasked 2 = .ok (.iconst 0, 1) := by decide +kernel
theorem dX11_bestUnasked_3 : decode cX11_bestUnasked 3 = .ok (.istore_n 3, 1) := by decide +kernel
theorem dX11_bestUnasked_4 : decode cX11_bestUnasked 4 = .ok (.iload_n 3, 1) := by decide +kernel
theorem dX11_bestUnasked_5 : decode cX11_bestUnasked 5 = .ok (.aload_n 0, 1) := by decide +kernel
theorem dX11_bestUnasked_6 : decode cX11_bestUnasked 6 = .ok (.getfield 7, 3) := by decide +kernel
theorem dX11_bestUnasked_9 : decode cX11_bestUnasked 9 = .ok (.iconst 1, 1) := by decide +kernel
theorem dX11_bestUnasked_10 : decode cX11_bestUnasked 10 = .ok (.iaload, 1) := by decide +kernel
theorem dX11_bestUnasked_11 : decode cX11_bestUnasked 11 = .ok (.if_icmp .ge 60, 3) := by decide +kernel
theorem dX11_bestUnasked_14 : decode cX11_bestUnasked 14 = .ok (.aload_n 0, 1) := by decide +kernel
theorem dX11_bestUnasked_15 : decode cX11_bestUnasked 15 = .ok (.getfield 45, 3) := by decide +kernel
theorem dX11_bestUnasked_18 : decode cX11_bestUnasked 18 = .ok (.iload_n 1, 1) := by decide +kernel
theorem dX11_bestUnasked_19 : decode cX11_bestUnasked 19 = .ok (.iaload, 1) := by decide +kernel
theorem dX11_bestUnasked_20 : decode cX11_bestUnasked 20 = .ok (.iload_n 3, 1) := by decide +kernel
theorem dX11_bestUnasked_21 : decode cX11_bestUnasked 21 = .ok (.ishr, 1) := by decide +kernel
theorem dX11_bestUnasked_22 : decode cX11_bestUnasked 22 = .ok (.iconst 1, 1) := by decide +kernel
theorem dX11_bestUnasked_23 : decode cX11_bestUnasked 23 = .ok (.iand, 1) := by decide +kernel
theorem dX11_bestUnasked_24 : decode cX11_bestUnasked 24 = .ok (.ifCond .ne 16, 3) := by decide +kernel
theorem dX11_bestUnasked_27 : decode cX11_bestUnasked 27 = .ok (.aload_n 0, 1) := by decide +kernel
theorem dX11_bestUnasked_28 : decode cX11_bestUnasked 28 = .ok (.iload_n 1, 1) := by decide +kernel
theorem dX11_bestUnasked_29 : decode cX11_bestUnasked 29 = .ok (.iload_n 3, 1) := by decide +kernel
theorem dX11_bestUnasked_30 : decode cX11_bestUnasked 30 = .ok (.invokevirtual 209, 3) := by decide +kernel
theorem dX11_bestUnasked_33 : decode cX11_bestUnasked 33 = .ok (.ifCond .eq 7, 3) := by decide +kernel
theorem dX11_bestUnasked_36 : decode cX11_bestUnasked 36 = .ok (.iconst 1, 1) := by decide +kernel
theorem dX11_bestUnasked_37 : decode cX11_bestUnasked 37 = .ok (.goto 4, 3) := by decide +kernel
theorem dX11_bestUnasked_40 : decode cX11_bestUnasked 40 = .ok (.iconst 0, 1) := by decide +kernel
theorem dX11_bestUnasked_41 : decode cX11_bestUnasked 41 = .ok (.istore 4, 2) := by decide +kernel
theorem dX11_bestUnasked_43 : decode cX11_bestUnasked 43 = .ok (.iload 4, 2) := by decide +kernel
theorem dX11_bestUnasked_45 : decode cX11_bestUnasked 45 = .ok (.ifCond .eq 20, 3) := by decide +kernel
theorem dX11_bestUnasked_48 : decode cX11_bestUnasked 48 = .ok (.iload_n 2, 1) := by decide +kernel
theorem dX11_bestUnasked_49 : decode cX11_bestUnasked 49 = .ok (.iconst (-1), 1) := by decide +kernel
theorem dX11_bestUnasked_50 : decode cX11_bestUnasked 50 = .ok (.if_icmp .eq 13, 3) := by decide +kernel
theorem dX11_bestUnasked_53 : decode cX11_bestUnasked 53 = .ok (.aload_n 0, 1) := by decide +kernel
theorem dX11_bestUnasked_54 : decode cX11_bestUnasked 54 = .ok (.iload_n 1, 1) := by decide +kernel
theorem dX11_bestUnasked_55 : decode cX11_bestUnasked 55 = .ok (.iload_n 3, 1) := by decide +kernel
theorem dX11_bestUnasked_56 : decode cX11_bestUnasked 56 = .ok (.iload_n 2, 1) := by decide +kernel
theorem dX11_bestUnasked_57 : decode cX11_bestUnasked 57 = .ok (.invokevirtual 212, 3) := by decide +kernel
theorem dX11_bestUnasked_60 : decode cX11_bestUnasked 60 = .ok (.ifCond .eq 5, 3) := by decide +kernel
theorem dX11_bestUnasked_63 : decode cX11_bestUnasked 63 = .ok (.iload_n 3, 1) := by decide +kernel
theorem dX11_bestUnasked_64 : decode cX11_bestUnasked 64 = .ok (.istore_n 2, 1) := by decide +kernel
theorem dX11_bestUnasked_65 : decode cX11_bestUnasked 65 = .ok (.iinc 3 1, 3) := by decide +kernel
theorem dX11_bestUnasked_68 : decode cX11_bestUnasked 68 = .ok (.goto (-64), 3) := by decide +kernel
theorem dX11_bestUnasked_71 : decode cX11_bestUnasked 71 = .ok (.iload_n 2, 1) := by decide +kernel
theorem dX11_bestUnasked_72 : decode cX11_bestUnasked 72 = .ok (.ireturn, 1) := by decide +kernel
theorem dX11_hold_0 : decode cX11_hold 0 = .ok (.aload_n 0, 1) := by decide +kernel
theorem dX11_hold_1 : decode cX11_hold 1 = .ok (.getfield 42, 3) := by decide +kernel
theorem dX11_hold_4 : decode cX11_hold 4 = .ok (.iload_n 2, 1) := by decide +kernel
theorem dX11_hold_5 : decode cX11_hold 5 = .ok (.iload_n 1, 1) := by decide +kernel
theorem dX11_hold_6 : decode cX11_hold 6 = .ok (.iastore, 1) := by decide +kernel
theorem dX11_hold_7 : decode cX11_hold 7 = .ok (.iconst 0, 1) := by decide +kernel
theorem dX11_hold_8 : decode cX11_hold 8 = .ok (.istore_n 3, 1) := by decide +kernel
theorem dX11_hold_9 : decode cX11_hold 9 = .ok (.iload_n 2, 1) := by decide +kernel
theorem dX11_hold_10 : decode cX11_hold 10 = .ok (.istore 4, 2) := by decide +kernel
theorem dX11_hold_12 : decode cX11_hold 12 = .ok (.iconst 0, 1) := by decide +kernel
theorem dX11_hold_13 : decode cX11_hold 13 = .ok (.istore 5, 2) := by decide +kernel
theorem dX11_hold_15 : decode cX11_hold 15 = .ok (.iload 5, 2) := by decide +kernel
theorem dX11_hold_17 : decode cX11_hold 17 = .ok (.aload_n 0, 1) := by decide +kernel
theorem dX11_hold_18 : decode cX11_hold 18 = .ok (.getfield 7, 3) := by decide +kernel
theorem dX11_hold_21 : decode cX11_hold 21 = .ok (.iconst 2, 1) := by decide +kernel
theorem dX11_hold_22 : decode cX11_hold 22 = .ok (.iaload, 1) := by decide +kernel
theorem dX11_hold_23 : decode cX11_hold 23 = .ok (.if_icmp .ge 44, 3) := by decide +kernel
theorem dX11_hold_26 : decode cX11_hold 26 = .ok (.aload_n 0, 1) := by decide +kernel
theorem dX11_hold_27 : decode cX11_hold 27 = .ok (.getfield 42, 3) := by decide +kernel
theorem dX11_hold_30 : decode cX11_hold 30 = .ok (.iload 5, 2) := by decide +kernel
theorem dX11_hold_32 : decode cX11_hold 32 = .ok (.iaload, 1) := by decide +kernel
theorem dX11_hold_33 : decode cX11_hold 33 = .ok (.iload_n 1, 1) := by decide +kernel
theorem dX11_hold_34 : decode cX11_hold 34 = .ok (.if_icmp .ne 27, 3) := by decide +kernel
theorem dX11_hold_37 : decode cX11_hold 37 = .ok (.iinc 3 1, 3) := by decide +kernel
theorem dX11_hold_40 : decode cX11_hold 40 = .ok (.aload_n 0, 1) := by decide +kernel
theorem dX11_hold_41 : decode cX11_hold 41 = .ok (.iload_n 1, 1) := by decide +kernel
theorem dX11_hold_42 : decode cX11_hold 42 = .ok (.iload 4, 2) := by decide +kernel
theorem dX11_hold_44 : decode cX11_hold 44 = .ok (.iload 5, 2) := by decide +kernel
theorem dX11_hold_46 : decode cX11_hold 46 = .ok (.invokevirtual 218, 3) := by decide +kernel
theorem dX11_hold_49 : decode cX11_hold 49 = .ok (.ifCond .eq 8, 3) := by decide +kernel
theorem dX11_hold_52 : decode cX11_hold 52 = .ok (.iload 5, 2) := by decide +kernel
theorem dX11_hold_54 : decode cX11_hold 54 = .ok (.goto 5, 3) := by decide +kernel
theorem dX11_hold_57 : decode cX11_hold 57 = .ok (.iload 4, 2) := by decide +kernel
theorem dX11_hold_59 : decode cX11_hold 59 = .ok (.istore 4, 2) := by decide +kernel
theorem dX11_hold_61 : decode cX11_hold 61 = .ok (.iinc 5 1, 3) := by decide +kernel
theorem dX11_hold_64 : decode cX11_hold 64 = .ok (.goto (-49), 3) := by decide +kernel
theorem dX11_hold_67 : decode cX11_hold 67 = .ok (.iload_n 3, 1) := by decide +kernel
theorem dX11_hold_68 : decode cX11_hold 68 = .ok (.aload_n 0, 1) := by decide +kernel
theorem dX11_hold_69 : decode cX11_hold 69 = .ok (.iload_n 1, 1) := by decide +kernel
theorem dX11_hold_70 : decode cX11_hold 70 = .ok (.iconst 4, 1) := by decide +kernel
theorem dX11_hold_71 : decode cX11_hold 71 = .ok (.invokevirtual 68, 3) := by decide +kernel
theorem dX11_hold_74 : decode cX11_hold 74 = .ok (.if_icmp .le 11, 3) := by decide +kernel
theorem dX11_hold_77 : decode cX11_hold 77 = .ok (.aload_n 0, 1) := by decide +kernel
theorem dX11_hold_78 : decode cX11_hold 78 = .ok (.getfield 42, 3) := by decide +kernel
theorem dX11_hold_81 : decode cX11_hold 81 = .ok (.iload 4, 2) := by decide +kernel
theorem dX11_hold_83 : decode cX11_hold 83 = .ok (.iconst (-1), 1) := by decide +kernel
theorem dX11_hold_84 : decode cX11_hold 84 = .ok (.iastore, 1) := by decide +kernel
theorem dX11_hold_85 : decode cX11_hold 85 = .ok (.return_, 1) := by decide +kernel
theorem dX11_ask_0 : decode cX11_ask 0 = .ok (.iconst 1, 1) := by decide +kernel
theorem dX11_ask_1 : decode cX11_ask 1 = .ok (.istore_n 1, 1) := by decide +kernel
theorem dX11_ask_2 : decode cX11_ask 2 = .ok (.iload_n 1, 1) := by decide +kernel
theorem dX11_ask_3 : decode cX11_ask 3 = .ok (.ifCond .eq 79, 3) := by decide +kernel
theorem dX11_ask_6 : decode cX11_ask 6 = .ok (.iconst 0, 1) := by decide +kernel
theorem dX11_ask_7 : decode cX11_ask 7 = .ok (.istore_n 1, 1) := by decide +kernel
theorem dX11_ask_8 : decode cX11_ask 8 = .ok (.iconst 0, 1) := by decide +kernel
theorem dX11_ask_9 : decode cX11_ask 9 = .ok (.istore_n 2, 1) := by decide +kernel
theorem dX11_ask_10 : decode cX11_ask 10 = .ok (.iload_n 2, 1) := by decide +kernel
theorem dX11_ask_11 : decode cX11_ask 11 = .ok (.aload_n 0, 1) := by decide +kernel
theorem dX11_ask_12 : decode cX11_ask 12 = .ok (.getfield 7, 3) := by decide +kernel
theorem dX11_ask_15 : decode cX11_ask 15 = .ok (.iconst 2, 1) := by decide +kernel
theorem dX11_ask_16 : decode cX11_ask 16 = .ok (.iaload, 1) := by decide +kernel
theorem dX11_ask_17 : decode cX11_ask 17 = .ok (.if_icmp .ge 62, 3) := by decide +kernel
theorem dX11_ask_20 : decode cX11_ask 20 = .ok (.aload_n 0, 1) := by decide +kernel
theorem dX11_ask_21 : decode cX11_ask 21 = .ok (.iload_n 2, 1) := by decide +kernel
theorem dX11_ask_22 : decode cX11_ask 22 = .ok (.invokevirtual 221, 3) := by decide +kernel
theorem dX11_ask_25 : decode cX11_ask 25 = .ok (.ifCond .eq 21, 3) := by decide +kernel
theorem dX11_ask_28 : decode cX11_ask 28 = .ok (.aload_n 0, 1) := by decide +kernel
theorem dX11_ask_29 : decode cX11_ask 29 = .ok (.getfield 42, 3) := by decide +kernel
theorem dX11_ask_32 : decode cX11_ask 32 = .ok (.iload_n 2, 1) := by decide +kernel
theorem dX11_ask_33 : decode cX11_ask 33 = .ok (.iaload, 1) := by decide +kernel
theorem dX11_ask_34 : decode cX11_ask 34 = .ok (.iconst (-1), 1) := by decide +kernel
theorem dX11_ask_35 : decode cX11_ask 35 = .ok (.if_icmp .ne 11, 3) := by decide +kernel
theorem dX11_ask_38 : decode cX11_ask 38 = .ok (.aload_n 0, 1) := by decide +kernel
theorem dX11_ask_39 : decode cX11_ask 39 = .ok (.iload_n 2, 1) := by decide +kernel
theorem dX11_ask_40 : decode cX11_ask 40 = .ok (.invokevirtual 233, 3) := by decide +kernel
theorem dX11_ask_43 : decode cX11_ask 43 = .ok (.goto 4, 3) := by decide +kernel
theorem dX11_ask_46 : decode cX11_ask 46 = .ok (.iconst (-1), 1) := by decide +kernel
theorem dX11_ask_47 : decode cX11_ask 47 = .ok (.istore_n 3, 1) := by decide +kernel
theorem dX11_ask_48 : decode cX11_ask 48 = .ok (.iload_n 3, 1) := by decide +kernel
theorem dX11_ask_49 : decode cX11_ask 49 = .ok (.iconst (-1), 1) := by decide +kernel
theorem dX11_ask_50 : decode cX11_ask 50 = .ok (.if_icmp .eq 23, 3) := by decide +kernel
theorem dX11_ask_53 : decode cX11_ask 53 = .ok (.aload_n 0, 1) := by decide +kernel
theorem dX11_ask_54 : decode cX11_ask 54 = .ok (.getfield 45, 3) := by decide +kernel
theorem dX11_ask_57 : decode cX11_ask 57 = .ok (.iload_n 2, 1) := by decide +kernel
theorem dX11_ask_58 : decode cX11_ask 58 = .ok (.dup2, 1) := by decide +kernel
theorem dX11_ask_59 : decode cX11_ask 59 = .ok (.iaload, 1) := by decide +kernel
theorem dX11_ask_60 : decode cX11_ask 60 = .ok (.iconst 1, 1) := by decide +kernel
theorem dX11_ask_61 : decode cX11_ask 61 = .ok (.iload_n 3, 1) := by decide +kernel
theorem dX11_ask_62 : decode cX11_ask 62 = .ok (.ishl, 1) := by decide +kernel
theorem dX11_ask_63 : decode cX11_ask 63 = .ok (.ior, 1) := by decide +kernel
theorem dX11_ask_64 : decode cX11_ask 64 = .ok (.iastore, 1) := by decide +kernel
theorem dX11_ask_65 : decode cX11_ask 65 = .ok (.aload_n 0, 1) := by decide +kernel
theorem dX11_ask_66 : decode cX11_ask 66 = .ok (.iload_n 3, 1) := by decide +kernel
theorem dX11_ask_67 : decode cX11_ask 67 = .ok (.iload_n 2, 1) := by decide +kernel
theorem dX11_ask_68 : decode cX11_ask 68 = .ok (.invokevirtual 236, 3) := by decide +kernel
theorem dX11_ask_71 : decode cX11_ask 71 = .ok (.iconst 1, 1) := by decide +kernel
theorem dX11_ask_72 : decode cX11_ask 72 = .ok (.istore_n 1, 1) := by decide +kernel
theorem dX11_ask_73 : decode cX11_ask 73 = .ok (.iinc 2 1, 3) := by decide +kernel
theorem dX11_ask_76 : decode cX11_ask 76 = .ok (.goto (-66), 3) := by decide +kernel
theorem dX11_ask_79 : decode cX11_ask 79 = .ok (.goto (-77), 3) := by decide +kernel
theorem dX11_ask_82 : decode cX11_ask 82 = .ok (.return_, 1) := by decide +kernel
theorem dX11_assignHeld_0 : decode cX11_assignHeld 0 = .ok (.aload_n 0, 1) := by decide +kernel
theorem dX11_assignHeld_1 : decode cX11_assignHeld 1 = .ok (.iload_n 1, 1) := by decide +kernel
theorem dX11_assignHeld_2 : decode cX11_assignHeld 2 = .ok (.invokevirtual 239, 3) := by decide +kernel
theorem dX11_assignHeld_5 : decode cX11_assignHeld 5 = .ok (.istore_n 2, 1) := by decide +kernel
theorem dX11_assignHeld_6 : decode cX11_assignHeld 6 = .ok (.iload_n 2, 1) := by decide +kernel
theorem dX11_assignHeld_7 : decode cX11_assignHeld 7 = .ok (.iconst (-1), 1) := by decide +kernel
theorem dX11_assignHeld_8 : decode cX11_assignHeld 8 = .ok (.if_icmp .eq 26, 3) := by decide +kernel
theorem dX11_assignHeld_11 : decode cX11_assignHeld 11 = .ok (.aload_n 0, 1) := by decide +kernel
theorem dX11_assignHeld_12 : decode cX11_assignHeld 12 = .ok (.getfield 42, 3) := by decide +kernel
theorem dX11_assignHeld_15 : decode cX11_assignHeld 15 = .ok (.iload_n 2, 1) := by decide +kernel
theorem dX11_assignHeld_16 : decode cX11_assignHeld 16 = .ok (.iconst (-1), 1) := by decide +kernel
theorem dX11_assignHeld_17 : decode cX11_assignHeld 17 = .ok (.iastore, 1) := by decide +kernel
theorem dX11_assignHeld_18 : decode cX11_assignHeld 18 = .ok (.aload_n 0, 1) := by decide +kernel
theorem dX11_assignHeld_19 : decode cX11_assignHeld 19 = .ok (.iload_n 2, 1) := by decide +kernel
theorem dX11_assignHeld_20 : decode cX11_assignHeld 20 = .ok (.iload_n 1, 1) := by decide +kernel
theorem dX11_assignHeld_21 : decode cX11_assignHeld 21 = .ok (.invokevirtual 194, 3) := by decide +kernel
theorem dX11_assignHeld_24 : decode cX11_assignHeld 24 = .ok (.istore_n 3, 1) := by decide +kernel
theorem dX11_assignHeld_25 : decode cX11_assignHeld 25 = .ok (.aload_n 0, 1) := by decide +kernel
theorem dX11_assignHeld_26 : decode cX11_assignHeld 26 = .ok (.iload_n 1, 1) := by decide +kernel
theorem dX11_assignHeld_27 : decode cX11_assignHeld 27 = .ok (.invokevirtual 239, 3) := by decide +kernel
theorem dX11_assignHeld_30 : decode cX11_assignHeld 30 = .ok (.istore_n 2, 1) := by decide +kernel
theorem dX11_assignHeld_31 : decode cX11_assignHeld 31 = .ok (.goto (-25), 3) := by decide +kernel
theorem dX11_assignHeld_34 : decode cX11_assignHeld 34 = .ok (.return_, 1) := by decide +kernel
theorem dX11_bestHeld_0 : decode cX11_bestHeld 0 = .ok (.iconst (-1), 1) := by decide +kernel
theorem dX11_bestHeld_1 : decode cX11_bestHeld 1 = .ok (.istore_n 2, 1) := by decide +kernel
theorem dX11_bestHeld_2 : decode cX11_bestHeld 2 = .ok (.iconst 0, 1) := by decide +kernel
theorem dX11_bestHeld_3 : decode cX11_bestHeld 3 = .ok (.istore_n 3, 1) := by decide +kernel
theorem dX11_bestHeld_4 : decode cX11_bestHeld 4 = .ok (.iload_n 3, 1) := by decide +kernel
theorem dX11_bestHeld_5 : decode cX11_bestHeld 5 = .ok (.aload_n 0, 1) := by decide +kernel
theorem dX11_bestHeld_6 : decode cX11_bestHeld 6 = .ok (.getfield 7, 3) := by decide +kernel
theorem dX11_bestHeld_9 : decode cX11_bestHeld 9 = .ok (.iconst 2, 1) := by decide +kernel
theorem dX11_bestHeld_10 : decode cX11_bestHeld 10 = .ok (.iaload, 1) := by decide +kernel
theorem dX11_bestHeld_11 : decode cX11_bestHeld 11 = .ok (.if_icmp .ge 36, 3) := by decide +kernel
theorem dX11_bestHeld_14 : decode cX11_bestHeld 14 = .ok (.aload_n 0, 1) := by decide +kernel
theorem dX11_bestHeld_15 : decode cX11_bestHeld 15 = .ok (.getfield 42, 3) := by decide +kernel
theorem dX11_bestHeld_18 : decode cX11_bestHeld 18 = .ok (.iload_n 3, 1) := by decide +kernel
theorem dX11_bestHeld_19 : decode cX11_bestHeld 19 = .ok (.iaload, 1) := by decide +kernel
theorem dX11_bestHeld_20 : decode cX11_bestHeld 20 = .ok (.iload_n 1, 1) := by decide +kernel
theorem dX11_bestHeld_21 : decode cX11_bestHeld 21 = .ok (.if_icmp .ne 20, 3) := by decide +kernel
theorem dX11_bestHeld_24 : decode cX11_bestHeld 24 = .ok (.iload_n 2, 1) := by decide +kernel
theorem dX11_bestHeld_25 : decode cX11_bestHeld 25 = .ok (.iconst (-1), 1) := by decide +kernel
theorem dX11_bestHeld_26 : decode cX11_bestHeld 26 = .ok (.if_icmp .eq 13, 3) := by decide +kernel
theorem dX11_bestHeld_29 : decode cX11_bestHeld 29 = .ok (.aload_n 0, 1) := by decide +kernel
theorem dX11_bestHeld_30 : decode cX11_bestHeld 30 = .ok (.iload_n 1, 1) := by decide +kernel
theorem dX11_bestHeld_31 : decode cX11_bestHeld 31 = .ok (.iload_n 3, 1) := by decide +kernel
theorem dX11_bestHeld_32 : decode cX11_bestHeld 32 = .ok (.iload_n 2, 1) := by decide +kernel
theorem dX11_bestHeld_33 : decode cX11_bestHeld 33 = .ok (.invokevirtual 218, 3) := by decide +kernel
theorem dX11_bestHeld_36 : decode cX11_bestHeld 36 = .ok (.ifCond .eq 5, 3) := by decide +kernel
theorem dX11_bestHeld_39 : decode cX11_bestHeld 39 = .ok (.iload_n 3, 1) := by decide +kernel
theorem dX11_bestHeld_40 : decode cX11_bestHeld 40 = .ok (.istore_n 2, 1) := by decide +kernel
theorem dX11_bestHeld_41 : decode cX11_bestHeld 41 = .ok (.iinc 3 1, 3) := by decide +kernel
theorem dX11_bestHeld_44 : decode cX11_bestHeld 44 = .ok (.goto (-40), 3) := by decide +kernel
theorem dX11_bestHeld_47 : decode cX11_bestHeld 47 = .ok (.iload_n 2, 1) := by decide +kernel
theorem dX11_bestHeld_48 : decode cX11_bestHeld 48 = .ok (.ireturn, 1) := by decide +kernel
theorem dX11_match_0 : decode cX11_match 0 = .ok (.aload_n 0, 1) := by decide +kernel
theorem dX11_match_1 : decode cX11_match 1 = .ok (.iconst 0, 1) := by decide +kernel
theorem dX11_match_2 : decode cX11_match 2 = .ok (.putfield 61, 3) := by decide +kernel
theorem dX11_match_5 : decode cX11_match 5 = .ok (.iconst 0, 1) := by decide +kernel
theorem dX11_match_6 : decode cX11_match 6 = .ok (.istore_n 1, 1) := by decide +kernel
theorem dX11_match_7 : decode cX11_match 7 = .ok (.iload_n 1, 1) := by decide +kernel
theorem dX11_match_8 : decode cX11_match 8 = .ok (.aload_n 0, 1) := by decide +kernel
theorem dX11_match_9 : decode cX11_match 9 = .ok (.getfield 7, 3) := by decide +kernel
theorem dX11_match_12 : decode cX11_match 12 = .ok (.iconst 2, 1) := by decide +kernel
theorem dX11_match_13 : decode cX11_match 13 = .ok (.iaload, 1) := by decide +kernel
theorem dX11_match_14 : decode cX11_match 14 = .ok (.if_icmp .ge 50, 3) := by decide +kernel
theorem dX11_match_17 : decode cX11_match 17 = .ok (.aload_n 0, 1) := by decide +kernel
theorem dX11_match_18 : decode cX11_match 18 = .ok (.getfield 42, 3) := by decide +kernel
theorem dX11_match_21 : decode cX11_match 21 = .ok (.iload_n 1, 1) := by decide +kernel
theorem dX11_match_22 : decode cX11_match 22 = .ok (.iconst (-1), 1) := by decide +kernel
theorem dX11_match_23 : decode cX11_match 23 = .ok (.iastore, 1) := by decide +kernel
theorem dX11_match_24 : decode cX11_match 24 = .ok (.aload_n 0, 1) := by decide +kernel
theorem dX11_match_25 : decode cX11_match 25 = .ok (.getfield 45, 3) := by decide +kernel
theorem dX11_match_28 : decode cX11_match 28 = .ok (.iload_n 1, 1) := by decide +kernel
theorem dX11_match_29 : decode cX11_match 29 = .ok (.iconst 0, 1) := by decide +kernel
theorem dX11_match_30 : decode cX11_match 30 = .ok (.iastore, 1) := by decide +kernel
theorem dX11_match_31 : decode cX11_match 31 = .ok (.aload_n 0, 1) := by decide +kernel
theorem dX11_match_32 : decode cX11_match 32 = .ok (.iload_n 1, 1) := by decide +kernel
theorem dX11_match_33 : decode cX11_match 33 = .ok (.bipush 6, 2) := by decide +kernel
theorem dX11_match_35 : decode cX11_match 35 = .ok (.invokevirtual 72, 3) := by decide +kernel
theorem dX11_match_38 : decode cX11_match 38 = .ok (.iconst 1, 1) := by decide +kernel
theorem dX11_match_39 : decode cX11_match 39 = .ok (.if_icmp .ne 19, 3) := by decide +kernel
theorem dX11_match_42 : decode cX11_match 42 = .ok (.aload_n 0, 1) := by decide +kernel
theorem dX11_match_43 : decode cX11_match 43 = .ok (.iload_n 1, 1) := by decide +kernel
theorem dX11_match_44 : decode cX11_match 44 = .ok (.bipush 6, 2) := by decide +kernel
theorem dX11_match_46 : decode cX11_match 46 = .ok (.iconst 0, 1) := by decide +kernel
theorem dX11_match_47 : decode cX11_match 47 = .ok (.invokevirtual 105, 3) := by decide +kernel
theorem dX11_match_50 : decode cX11_match 50 = .ok (.aload_n 0, 1) := by decide +kernel
theorem dX11_match_51 : decode cX11_match 51 = .ok (.iload_n 1, 1) := by decide +kernel
theorem dX11_match_52 : decode cX11_match 52 = .ok (.bipush 7, 2) := by decide +kernel
theorem dX11_match_54 : decode cX11_match 54 = .ok (.iconst (-1), 1) := by decide +kernel
theorem dX11_match_55 : decode cX11_match 55 = .ok (.invokevirtual 105, 3) := by decide +kernel
theorem dX11_match_58 : decode cX11_match 58 = .ok (.iinc 1 1, 3) := by decide +kernel
theorem dX11_match_61 : decode cX11_match 61 = .ok (.goto (-54), 3) := by decide +kernel
theorem dX11_match_64 : decode cX11_match 64 = .ok (.iconst 0, 1) := by decide +kernel
theorem dX11_match_65 : decode cX11_match 65 = .ok (.istore_n 1, 1) := by decide +kernel
theorem dX11_match_66 : decode cX11_match 66 = .ok (.iload_n 1, 1) := by decide +kernel
theorem dX11_match_67 : decode cX11_match 67 = .ok (.aload_n 0, 1) := by decide +kernel
theorem dX11_match_68 : decode cX11_match 68 = .ok (.getfield 7, 3) := by decide +kernel
theorem dX11_match_71 : decode cX11_match 71 = .ok (.iconst 1, 1) := by decide +kernel
theorem dX11_match_72 : decode cX11_match 72 = .ok (.iaload, 1) := by decide +kernel
theorem dX11_match_73 : decode cX11_match 73 = .ok (.if_icmp .ge 35, 3) := by decide +kernel
theorem dX11_match_76 : decode cX11_match 76 = .ok (.aload_n 0, 1) := by decide +kernel
theorem dX11_match_77 : decode cX11_match 77 = .ok (.iload_n 1, 1) := by decide +kernel
theorem dX11_match_78 : decode cX11_match 78 = .ok (.bipush 9, 2) := by decide +kernel
theorem dX11_match_80 : decode cX11_match 80 = .ok (.aload_n 0, 1) := by decide +kernel
theorem dX11_match_81 : decode cX11_match 81 = .ok (.iload_n 1, 1) := by decide +kernel
theorem dX11_match_82 : decode cX11_match 82 = .ok (.invokevirtual 95, 3) := by decide +kernel
theorem dX11_match_85 : decode cX11_match 85 = .ok (.ifCond .eq 7, 3) := by decide +kernel
theorem dX11_match_88 : decode cX11_match 88 = .ok (.iconst 0, 1) := by decide +kernel
theorem dX11_match_89 : decode cX11_match 89 = .ok (.goto 10, 3) := by decide +kernel
theorem dX11_match_92 : decode cX11_match 92 = .ok (.aload_n 0, 1) := by decide +kernel
theorem dX11_match_93 : decode cX11_match 93 = .ok (.iload_n 1, 1) := by decide +kernel
theorem dX11_match_94 : decode cX11_match 94 = .ok (.bipush 9, 2) := by decide +kernel
theorem dX11_match_96 : decode cX11_match 96 = .ok (.invokevirtual 68, 3) := by decide +kernel
theorem dX11_match_99 : decode cX11_match 99 = .ok (.invokevirtual 75, 3) := by decide +kernel
theorem dX11_match_102 : decode cX11_match 102 = .ok (.iinc 1 1, 3) := by decide +kernel
theorem dX11_match_105 : decode cX11_match 105 = .ok (.goto (-39), 3) := by decide +kernel
theorem dX11_match_108 : decode cX11_match 108 = .ok (.aload_n 0, 1) := by decide +kernel
theorem dX11_match_109 : decode cX11_match 109 = .ok (.invokevirtual 206, 3) := by decide +kernel
theorem dX11_match_112 : decode cX11_match 112 = .ok (.aload_n 0, 1) := by decide +kernel
theorem dX11_match_113 : decode cX11_match 113 = .ok (.invokevirtual 242, 3) := by decide +kernel
theorem dX11_match_116 : decode cX11_match 116 = .ok (.iconst 0, 1) := by decide +kernel
theorem dX11_match_117 : decode cX11_match 117 = .ok (.istore_n 1, 1) := by decide +kernel
theorem dX11_match_118 : decode cX11_match 118 = .ok (.iload_n 1, 1) := by decide +kernel
theorem dX11_match_119 : decode cX11_match 119 = .ok (.aload_n 0, 1) := by decide +kernel
theorem dX11_match_120 : decode cX11_match 120 = .ok (.getfield 7, 3) := by decide +kernel
theorem dX11_match_123 : decode cX11_match 123 = .ok (.iconst 1, 1) := by decide +kernel
theorem dX11_match_124 : decode cX11_match 124 = .ok (.iaload, 1) := by decide +kernel
theorem dX11_match_125 : decode cX11_match 125 = .ok (.if_icmp .ge 14, 3) := by decide +kernel
theorem dX11_match_128 : decode cX11_match 128 = .ok (.aload_n 0, 1) := by decide +kernel
theorem dX11_match_129 : decode cX11_match 129 = .ok (.iload_n 1, 1) := by decide +kernel
theorem dX11_match_130 : decode cX11_match 130 = .ok (.invokevirtual 245, 3) := by decide +kernel
theorem dX11_match_133 : decode cX11_match 133 = .ok (.iinc 1 1, 3) := by decide +kernel
theorem dX11_match_136 : decode cX11_match 136 = .ok (.goto (-18), 3) := by decide +kernel
theorem dX11_match_139 : decode cX11_match 139 = .ok (.iconst 0, 1) := by decide +kernel
theorem dX11_match_140 : decode cX11_match 140 = .ok (.istore_n 1, 1) := by decide +kernel
theorem dX11_match_141 : decode cX11_match 141 = .ok (.iconst 0, 1) := by decide +kernel
theorem dX11_match_142 : decode cX11_match 142 = .ok (.istore_n 2, 1) := by decide +kernel
theorem dX11_match_143 : decode cX11_match 143 = .ok (.iload_n 2, 1) := by decide +kernel
theorem dX11_match_144 : decode cX11_match 144 = .ok (.aload_n 0, 1) := by decide +kernel
theorem dX11_match_145 : decode cX11_match 145 = .ok (.getfield 7, 3) := by decide +kernel
theorem dX11_match_148 : decode cX11_match 148 = .ok (.iconst 2, 1) := by decide +kernel
theorem dX11_match_149 : decode cX11_match 149 = .ok (.iaload, 1) := by decide +kernel
theorem dX11_match_150 : decode cX11_match 150 = .ok (.if_icmp .ge 28, 3) := by decide +kernel
theorem dX11_match_153 : decode cX11_match 153 = .ok (.iload_n 1, 1) := by decide +kernel
theorem dX11_match_154 : decode cX11_match 154 = .ok (.aload_n 0, 1) := by decide +kernel
theorem dX11_match_155 : decode cX11_match 155 = .ok (.iload_n 2, 1) := by decide +kernel
theorem dX11_match_156 : decode cX11_match 156 = .ok (.bipush 6, 2) := by decide +kernel
theorem dX11_match_158 : decode cX11_match 158 = .ok (.invokevirtual 72, 3) := by decide +kernel
theorem dX11_match_161 : decode cX11_match 161 = .ok (.iconst 1, 1) := by decide +kernel
theorem dX11_match_162 : decode cX11_match 162 = .ok (.if_icmp .ne 7, 3) := by decide +kernel
theorem dX11_match_165 : decode cX11_match 165 = .ok (.iconst 1, 1) := by decide +kernel
theorem dX11_match_166 : decode cX11_match 166 = .ok (.goto 4, 3) := by decide +kernel
theorem dX11_match_169 : decode cX11_match 169 = .ok (.iconst 0, 1) := by decide +kernel
theorem dX11_match_170 : decode cX11_match 170 = .ok (.iadd, 1) := by decide +kernel
theorem dX11_match_171 : decode cX11_match 171 = .ok (.istore_n 1, 1) := by decide +kernel
theorem dX11_match_172 : decode cX11_match 172 = .ok (.iinc 2 1, 3) := by decide +kernel
theorem dX11_match_175 : decode cX11_match 175 = .ok (.goto (-32), 3) := by decide +kernel
theorem dX11_match_178 : decode cX11_match 178 = .ok (.iload_n 1, 1) := by decide +kernel
theorem dX11_match_179 : decode cX11_match 179 = .ok (.ireturn, 1) := by decide +kernel
theorem dX11_noShow_0 : decode cX11_noShow 0 = .ok (.aload_n 0, 1) := by decide +kernel
theorem dX11_noShow_1 : decode cX11_noShow 1 = .ok (.iconst 0, 1) := by decide +kernel
theorem dX11_noShow_2 : decode cX11_noShow 2 = .ok (.putfield 61, 3) := by decide +kernel
theorem dX11_noShow_5 : decode cX11_noShow 5 = .ok (.aload_n 0, 1) := by decide +kernel
theorem dX11_noShow_6 : decode cX11_noShow 6 = .ok (.iload_n 1, 1) := by decide +kernel
theorem dX11_noShow_7 : decode cX11_noShow 7 = .ok (.invokevirtual 112, 3) := by decide +kernel
theorem dX11_noShow_10 : decode cX11_noShow 10 = .ok (.ifCond .ne 9, 3) := by decide +kernel
theorem dX11_noShow_13 : decode cX11_noShow 13 = .ok (.aload_n 0, 1) := by decide +kernel
theorem dX11_noShow_14 : decode cX11_noShow 14 = .ok (.iconst 1, 1) := by decide +kernel
theorem dX11_noShow_15 : decode cX11_noShow 15 = .ok (.invokevirtual 79, 3) := by decide +kernel
theorem dX11_noShow_18 : decode cX11_noShow 18 = .ok (.ireturn, 1) := by decide +kernel
theorem dX11_noShow_19 : decode cX11_noShow 19 = .ok (.aload_n 0, 1) := by decide +kernel
theorem dX11_noShow_20 : decode cX11_noShow 20 = .ok (.iload_n 1, 1) := by decide +kernel
theorem dX11_noShow_21 : decode cX11_noShow 21 = .ok (.bipush 6, 2) := by decide +kernel
theorem dX11_noShow_23 : decode cX11_noShow 23 = .ok (.invokevirtual 72, 3) := by decide +kernel
theorem dX11_noShow_26 : decode cX11_noShow 26 = .ok (.iconst 1, 1) := by decide +kernel
theorem dX11_noShow_27 : decode cX11_noShow 27 = .ok (.if_icmp .eq 9, 3) := by decide +kernel
theorem dX11_noShow_30 : decode cX11_noShow 30 = .ok (.aload_n 0, 1) := by decide +kernel
theorem dX11_noShow_31 : decode cX11_noShow 31 = .ok (.iconst 2, 1) := by decide +kernel
theorem dX11_noShow_32 : decode cX11_noShow 32 = .ok (.invokevirtual 79, 3) := by decide +kernel
theorem dX11_noShow_35 : decode cX11_noShow 35 = .ok (.ireturn, 1) := by decide +kernel
theorem dX11_noShow_36 : decode cX11_noShow 36 = .ok (.aload_n 0, 1) := by decide +kernel
theorem dX11_noShow_37 : decode cX11_noShow 37 = .ok (.iload_n 1, 1) := by decide +kernel
theorem dX11_noShow_38 : decode cX11_noShow 38 = .ok (.bipush 7, 2) := by decide +kernel
theorem dX11_noShow_40 : decode cX11_noShow 40 = .ok (.invokevirtual 72, 3) := by decide +kernel
theorem dX11_noShow_43 : decode cX11_noShow 43 = .ok (.istore_n 2, 1) := by decide +kernel
theorem dX11_noShow_44 : decode cX11_noShow 44 = .ok (.aload_n 0, 1) := by decide +kernel
theorem dX11_noShow_45 : decode cX11_noShow 45 = .ok (.iload_n 1, 1) := by decide +kernel
theorem dX11_noShow_46 : decode cX11_noShow 46 = .ok (.iconst 2, 1) := by decide +kernel
theorem dX11_noShow_47 : decode cX11_noShow 47 = .ok (.invokevirtual 197, 3) := by decide +kernel
theorem dX11_noShow_50 : decode cX11_noShow 50 = .ok (.istore_n 3, 1) := by decide +kernel
theorem dX11_noShow_51 : decode cX11_noShow 51 = .ok (.aload_n 0, 1) := by decide +kernel
theorem dX11_noShow_52 : decode cX11_noShow 52 = .ok (.getfield 19, 3) := by decide +kernel
theorem dX11_noShow_55 : decode cX11_noShow 55 = .ok (.bipush 8, 2) := by decide +kernel
theorem dX11_noShow_57 : decode cX11_noShow 57 = .ok (.iload_n 1, 1) := by decide +kernel
theorem dX11_noShow_58 : decode cX11_noShow 58 = .ok (.iadd, 1) := by decide +kernel
theorem dX11_noShow_59 : decode cX11_noShow 59 = .ok (.dup2, 1) := by decide +kernel
theorem dX11_noShow_60 : decode cX11_noShow 60 = .ok (.laload, 1) := by decide +kernel
theorem dX11_noShow_61 : decode cX11_noShow 61 = .ok (.aload_n 0, 1) := by decide +kernel
theorem dX11_noShow_62 : decode cX11_noShow 62 = .ok (.getfield 7, 3) := by decide +kernel
theorem dX11_noShow_65 : decode cX11_noShow 65 = .ok (.iconst 0, 1) := by decide +kernel
theorem dX11_noShow_66 : decode cX11_noShow 66 = .ok (.iaload, 1) := by decide +kernel
theorem dX11_noShow_67 : decode cX11_noShow 67 = .ok (.i2l, 1) := by decide +kernel
theorem dX11_noShow_68 : decode cX11_noShow 68 = .ok (.lsub, 1) := by decide +kernel
theorem dX11_noShow_69 : decode cX11_noShow 69 = .ok (.lastore, 1) := by decide +kernel
theorem dX11_noShow_70 : decode cX11_noShow 70 = .ok (.aload_n 0, 1) := by decide +kernel
theorem dX11_noShow_71 : decode cX11_noShow 71 = .ok (.getfield 19, 3) := by decide +kernel
theorem dX11_noShow_74 : decode cX11_noShow 74 = .ok (.iload_n 2, 1) := by decide +kernel
theorem dX11_noShow_75 : decode cX11_noShow 75 = .ok (.dup2, 1) := by decide +kernel
theorem dX11_noShow_76 : decode cX11_noShow 76 = .ok (.laload, 1) := by decide +kernel
theorem dX11_noShow_77 : decode cX11_noShow 77 = .ok (.aload_n 0, 1) := by decide +kernel
theorem dX11_noShow_78 : decode cX11_noShow 78 = .ok (.getfield 7, 3) := by decide +kernel
theorem dX11_noShow_81 : decode cX11_noShow 81 = .ok (.iconst 0, 1) := by decide +kernel
theorem dX11_noShow_82 : decode cX11_noShow 82 = .ok (.iaload, 1) := by decide +kernel
theorem dX11_noShow_83 : decode cX11_noShow 83 = .ok (.i2l, 1) := by decide +kernel
theorem dX11_noShow_84 : decode cX11_noShow 84 = .ok (.ladd, 1) := by decide +kernel
theorem dX11_noShow_85 : decode cX11_noShow 85 = .ok (.lastore, 1) := by decide +kernel
theorem dX11_noShow_86 : decode cX11_noShow 86 = .ok (.iload_n 2, 1) := by decide +kernel
theorem dX11_noShow_87 : decode cX11_noShow 87 = .ok (.ireturn, 1) := by decide +kernel
theorem dX11_comeBack_0 : decode cX11_comeBack 0 = .ok (.aload_n 0, 1) := by decide +kernel
theorem dX11_comeBack_1 : decode cX11_comeBack 1 = .ok (.iconst 0, 1) := by decide +kernel
theorem dX11_comeBack_2 : decode cX11_comeBack 2 = .ok (.putfield 61, 3) := by decide +kernel
theorem dX11_comeBack_5 : decode cX11_comeBack 5 = .ok (.aload_n 0, 1) := by decide +kernel
theorem dX11_comeBack_6 : decode cX11_comeBack 6 = .ok (.iload_n 1, 1) := by decide +kernel
theorem dX11_comeBack_7 : decode cX11_comeBack 7 = .ok (.invokevirtual 112, 3) := by decide +kernel
theorem dX11_comeBack_10 : decode cX11_comeBack 10 = .ok (.ifCond .ne 10, 3) := by decide +kernel
theorem dX11_comeBack_13 : decode cX11_comeBack 13 = .ok (.aload_n 0, 1) := by decide +kernel
theorem dX11_comeBack_14 : decode cX11_comeBack 14 = .ok (.iconst 1, 1) := by decide +kernel
theorem dX11_comeBack_15 : decode cX11_comeBack 15 = .ok (.invokevirtual 79, 3) := by decide +kernel
theorem dX11_comeBack_18 : decode cX11_comeBack 18 = .ok (.i2l, 1) := by decide +kernel
theorem dX11_comeBack_19 : decode cX11_comeBack 19 = .ok (.lreturn, 1) := by decide +kernel
theorem dX11_comeBack_20 : decode cX11_comeBack 20 = .ok (.aload_n 0, 1) := by decide +kernel
theorem dX11_comeBack_21 : decode cX11_comeBack 21 = .ok (.iload_n 1, 1) := by decide +kernel
theorem dX11_comeBack_22 : decode cX11_comeBack 22 = .ok (.bipush 6, 2) := by decide +kernel
theorem dX11_comeBack_24 : decode cX11_comeBack 24 = .ok (.invokevirtual 72, 3) := by decide +kernel
theorem dX11_comeBack_27 : decode cX11_comeBack 27 = .ok (.iconst 2, 1) := by decide +kernel
theorem dX11_comeBack_28 : decode cX11_comeBack 28 = .ok (.if_icmp .eq 10, 3) := by decide +kernel
theorem dX11_comeBack_31 : decode cX11_comeBack 31 = .ok (.aload_n 0, 1) := by decide +kernel
theorem dX11_comeBack_32 : decode cX11_comeBack 32 = .ok (.iconst 2, 1) := by decide +kernel
theorem dX11_comeBack_33 : decode cX11_comeBack 33 = .ok (.invokevirtual 79, 3) := by decide +kernel
theorem dX11_comeBack_36 : decode cX11_comeBack 36 = .ok (.i2l, 1) := by decide +kernel
theorem dX11_comeBack_37 : decode cX11_comeBack 37 = .ok (.lreturn, 1) := by decide +kernel
theorem dX11_comeBack_38 : decode cX11_comeBack 38 = .ok (.aload_n 0, 1) := by decide +kernel
theorem dX11_comeBack_39 : decode cX11_comeBack 39 = .ok (.iload_n 1, 1) := by decide +kernel
theorem dX11_comeBack_40 : decode cX11_comeBack 40 = .ok (.bipush 6, 2) := by decide +kernel
theorem dX11_comeBack_42 : decode cX11_comeBack 42 = .ok (.iconst 0, 1) := by decide +kernel
theorem dX11_comeBack_43 : decode cX11_comeBack 43 = .ok (.invokevirtual 105, 3) := by decide +kernel
theorem dX11_comeBack_46 : decode cX11_comeBack 46 = .ok (.aload_n 0, 1) := by decide +kernel
theorem dX11_comeBack_47 : decode cX11_comeBack 47 = .ok (.getfield 19, 3) := by decide +kernel
theorem dX11_comeBack_50 : decode cX11_comeBack 50 = .ok (.bipush 8, 2) := by decide +kernel
theorem dX11_comeBack_52 : decode cX11_comeBack 52 = .ok (.iload_n 1, 1) := by decide +kernel
theorem dX11_comeBack_53 : decode cX11_comeBack 53 = .ok (.iadd, 1) := by decide +kernel
theorem dX11_comeBack_54 : decode cX11_comeBack 54 = .ok (.laload, 1) := by decide +kernel
theorem dX11_comeBack_55 : decode cX11_comeBack 55 = .ok (.lreturn, 1) := by decide +kernel
theorem dX11_replacementOf_0 : decode cX11_replacementOf 0 = .ok (.iconst (-1), 1) := by decide +kernel
theorem dX11_replacementOf_1 : decode cX11_replacementOf 1 = .ok (.istore_n 2, 1) := by decide +kernel
theorem dX11_replacementOf_2 : decode cX11_replacementOf 2 = .ok (.ldc 166, 2) := by decide +kernel
theorem dX11_replacementOf_4 : decode cX11_replacementOf 4 = .ok (.istore_n 3, 1) := by decide +kernel
theorem dX11_replacementOf_5 : decode cX11_replacementOf 5 = .ok (.iconst 0, 1) := by decide +kernel
theorem dX11_replacementOf_6 : decode cX11_replacementOf 6 = .ok (.istore 4, 2) := by decide +kernel
theorem dX11_replacementOf_8 : decode cX11_replacementOf 8 = .ok (.iload 4, 2) := by decide +kernel
theorem dX11_replacementOf_10 : decode cX11_replacementOf 10 = .ok (.aload_n 0, 1) := by decide +kernel
theorem dX11_replacementOf_11 : decode cX11_replacementOf 11 = .ok (.getfield 7, 3) := by decide +kernel
theorem dX11_replacementOf_14 : decode cX11_replacementOf 14 = .ok (.iconst 2, 1) := by decide +kernel
theorem dX11_replacementOf_15 : decode cX11_replacementOf 15 = .ok (.iaload, 1) := by decide +kernel
theorem dX11_replacementOf_16 : decode cX11_replacementOf 16 = .ok (.if_icmp .ge 77, 3) := by decide +kernel
theorem dX11_replacementOf_19 : decode cX11_replacementOf 19 = .ok (.aload_n 0, 1) := by decide +kernel
theorem dX11_replacementOf_20 : decode cX11_replacementOf 20 = .ok (.iload_n 1, 1) := by decide +kernel
theorem dX11_replacementOf_21 : decode cX11_replacementOf 21 = .ok (.invokevirtual 95, 3) := by decide +kernel
theorem dX11_replacementOf_24 : decode cX11_replacementOf 24 = .ok (.ifCond .eq 24, 3) := by decide +kernel
theorem dX11_replacementOf_27 : decode cX11_replacementOf 27 = .ok (.aload_n 0, 1) := by decide +kernel
theorem dX11_replacementOf_28 : decode cX11_replacementOf 28 = .ok (.iload 4, 2) := by decide +kernel
theorem dX11_replacementOf_30 : decode cX11_replacementOf 30 = .ok (.bipush 6, 2) := by decide +kernel
theorem dX11_replacementOf_32 : decode cX11_replacementOf 32 = .ok (.invokevirtual 72, 3) := by decide +kernel
theorem dX11_replacementOf_35 : decode cX11_replacementOf 35 = .ok (.ifCond .ne 13, 3) := by decide +kernel
theorem dX11_replacementOf_38 : decode cX11_replacementOf 38 = .ok (.aload_n 0, 1) := by decide +kernel
theorem dX11_replacementOf_39 : decode cX11_replacementOf 39 = .ok (.iload 4, 2) := by decide +kernel
theorem dX11_replacementOf_41 : decode cX11_replacementOf 41 = .ok (.iload_n 1, 1) := by decide +kernel
theorem dX11_replacementOf_42 : decode cX11_replacementOf 42 = .ok (.invokevirtual 182, 3) := by decide +kernel
theorem dX11_replacementOf_45 : decode cX11_replacementOf 45 = .ok (.goto 5, 3) := by decide +kernel
theorem dX11_replacementOf_48 : decode cX11_replacementOf 48 = .ok (.ldc 166, 2) := by decide +kernel
theorem dX11_replacementOf_50 : decode cX11_replacementOf 50 = .ok (.istore 5, 2) := by decide +kernel
theorem dX11_replacementOf_52 : decode cX11_replacementOf 52 = .ok (.iload 5, 2) := by decide +kernel
theorem dX11_replacementOf_54 : decode cX11_replacementOf 54 = .ok (.iload_n 3, 1) := by decide +kernel
theorem dX11_replacementOf_55 : decode cX11_replacementOf 55 = .ok (.if_icmp .lt 26, 3) := by decide +kernel
theorem dX11_replacementOf_58 : decode cX11_replacementOf 58 = .ok (.iload 5, 2) := by decide +kernel
theorem dX11_replacementOf_60 : decode cX11_replacementOf 60 = .ok (.iload_n 3, 1) := by decide +kernel
theorem dX11_replacementOf_61 : decode cX11_replacementOf 61 = .ok (.if_icmp .ne 26, 3) := by decide +kernel
theorem dX11_replacementOf_64 : decode cX11_replacementOf 64 = .ok (.iload 5, 2) := by decide +kernel
theorem dX11_replacementOf_66 : decode cX11_replacementOf 66 = .ok (.ldc 166, 2) := by decide +kernel
theorem dX11_replacementOf_68 : decode cX11_replacementOf 68 = .ok (.if_icmp .ge 19, 3) := by decide +kernel
theorem dX11_replacementOf_71 : decode cX11_replacementOf 71 = .ok (.aload_n 0, 1) := by decide +kernel
theorem dX11_replacementOf_72 : decode cX11_replacementOf 72 = .ok (.iload 4, 2) := by decide +kernel
theorem dX11_replacementOf_74 : decode cX11_replacementOf 74 = .ok (.iload_n 2, 1) := by decide +kernel
theorem dX11_replacementOf_75 : decode cX11_replacementOf 75 = .ok (.invokevirtual 203, 3) := by decide +kernel
theorem dX11_replacementOf_78 : decode cX11_replacementOf 78 = .ok (.ifCond .eq 9, 3) := by decide +kernel
theorem dX11_replacementOf_81 : decode cX11_replacementOf 81 = .ok (.iload 5, 2) := by decide +kernel
theorem dX11_replacementOf_83 : decode cX11_replacementOf 83 = .ok (.istore_n 3, 1) := by decide +kernel
theorem dX11_replacementOf_84 : decode cX11_replacementOf 84 = .ok (.iload 4, 2) := by decide +kernel
theorem dX11_replacementOf_86 : decode cX11_replacementOf 86 = .ok (.istore_n 2, 1) := by decide +kernel
theorem dX11_replacementOf_87 : decode cX11_replacementOf 87 = .ok (.iinc 4 1, 3) := by decide +kernel
theorem dX11_replacementOf_90 : decode cX11_replacementOf 90 = .ok (.goto (-82), 3) := by decide +kernel
theorem dX11_replacementOf_93 : decode cX11_replacementOf 93 = .ok (.iload_n 2, 1) := by decide +kernel
theorem dX11_replacementOf_94 : decode cX11_replacementOf 94 = .ok (.ireturn, 1) := by decide +kernel
theorem dX11_replacement_0 : decode cX11_replacement 0 = .ok (.aload_n 0, 1) := by decide +kernel
theorem dX11_replacement_1 : decode cX11_replacement 1 = .ok (.iconst 0, 1) := by decide +kernel
theorem dX11_replacement_2 : decode cX11_replacement 2 = .ok (.putfield 61, 3) := by decide +kernel
theorem dX11_replacement_5 : decode cX11_replacement 5 = .ok (.aload_n 0, 1) := by decide +kernel
theorem dX11_replacement_6 : decode cX11_replacement 6 = .ok (.iload_n 1, 1) := by decide +kernel
theorem dX11_replacement_7 : decode cX11_replacement 7 = .ok (.invokevirtual 87, 3) := by decide +kernel
theorem dX11_replacement_10 : decode cX11_replacement 10 = .ok (.ifCond .eq 11, 3) := by decide +kernel
theorem dX11_replacement_13 : decode cX11_replacement 13 = .ok (.aload_n 0, 1) := by decide +kernel
theorem dX11_replacement_14 : decode cX11_replacement 14 = .ok (.iload_n 1, 1) := by decide +kernel
theorem dX11_replacement_15 : decode cX11_replacement 15 = .ok (.invokevirtual 248, 3) := by decide +kernel
theorem dX11_replacement_18 : decode cX11_replacement 18 = .ok (.goto 8, 3) := by decide +kernel
theorem dX11_replacement_21 : decode cX11_replacement 21 = .ok (.aload_n 0, 1) := by decide +kernel
theorem dX11_replacement_22 : decode cX11_replacement 22 = .ok (.iconst 1, 1) := by decide +kernel
theorem dX11_replacement_23 : decode cX11_replacement 23 = .ok (.invokevirtual 79, 3) := by decide +kernel
theorem dX11_replacement_26 : decode cX11_replacement 26 = .ok (.ireturn, 1) := by decide +kernel
theorem dX11_fill_0 : decode cX11_fill 0 = .ok (.aload_n 0, 1) := by decide +kernel
theorem dX11_fill_1 : decode cX11_fill 1 = .ok (.iconst 0, 1) := by decide +kernel
theorem dX11_fill_2 : decode cX11_fill 2 = .ok (.putfield 61, 3) := by decide +kernel
theorem dX11_fill_5 : decode cX11_fill 5 = .ok (.aload_n 0, 1) := by decide +kernel
theorem dX11_fill_6 : decode cX11_fill 6 = .ok (.iload_n 1, 1) := by decide +kernel
theorem dX11_fill_7 : decode cX11_fill 7 = .ok (.invokevirtual 87, 3) := by decide +kernel
theorem dX11_fill_10 : decode cX11_fill 10 = .ok (.ifCond .ne 9, 3) := by decide +kernel
theorem dX11_fill_13 : decode cX11_fill 13 = .ok (.aload_n 0, 1) := by decide +kernel
theorem dX11_fill_14 : decode cX11_fill 14 = .ok (.iconst 1, 1) := by decide +kernel
theorem dX11_fill_15 : decode cX11_fill 15 = .ok (.invokevirtual 79, 3) := by decide +kernel
theorem dX11_fill_18 : decode cX11_fill 18 = .ok (.ireturn, 1) := by decide +kernel
theorem dX11_fill_19 : decode cX11_fill 19 = .ok (.iconst 0, 1) := by decide +kernel
theorem dX11_fill_20 : decode cX11_fill 20 = .ok (.istore_n 2, 1) := by decide +kernel
theorem dX11_fill_21 : decode cX11_fill 21 = .ok (.aload_n 0, 1) := by decide +kernel
theorem dX11_fill_22 : decode cX11_fill 22 = .ok (.iload_n 1, 1) := by decide +kernel
theorem dX11_fill_23 : decode cX11_fill 23 = .ok (.invokevirtual 248, 3) := by decide +kernel
theorem dX11_fill_26 : decode cX11_fill 26 = .ok (.istore_n 3, 1) := by decide +kernel
theorem dX11_fill_27 : decode cX11_fill 27 = .ok (.iload_n 3, 1) := by decide +kernel
theorem dX11_fill_28 : decode cX11_fill 28 = .ok (.iconst (-1), 1) := by decide +kernel
theorem dX11_fill_29 : decode cX11_fill 29 = .ok (.if_icmp .eq 23, 3) := by decide +kernel
theorem dX11_fill_32 : decode cX11_fill 32 = .ok (.aload_n 0, 1) := by decide +kernel
theorem dX11_fill_33 : decode cX11_fill 33 = .ok (.iload_n 3, 1) := by decide +kernel
theorem dX11_fill_34 : decode cX11_fill 34 = .ok (.iload_n 1, 1) := by decide +kernel
theorem dX11_fill_35 : decode cX11_fill 35 = .ok (.invokevirtual 194, 3) := by decide +kernel
theorem dX11_fill_38 : decode cX11_fill 38 = .ok (.istore 4, 2) := by decide +kernel
theorem dX11_fill_40 : decode cX11_fill 40 = .ok (.iinc 2 1, 3) := by decide +kernel
theorem dX11_fill_43 : decode cX11_fill 43 = .ok (.aload_n 0, 1) := by decide +kernel
theorem dX11_fill_44 : decode cX11_fill 44 = .ok (.iload_n 1, 1) := by decide +kernel
theorem dX11_fill_45 : decode cX11_fill 45 = .ok (.invokevirtual 248, 3) := by decide +kernel
theorem dX11_fill_48 : decode cX11_fill 48 = .ok (.istore_n 3, 1) := by decide +kernel
theorem dX11_fill_49 : decode cX11_fill 49 = .ok (.goto (-22), 3) := by decide +kernel
theorem dX11_fill_52 : decode cX11_fill 52 = .ok (.iload_n 2, 1) := by decide +kernel
theorem dX11_fill_53 : decode cX11_fill 53 = .ok (.ireturn, 1) := by decide +kernel
theorem dX11_tripCost_0 : decode cX11_tripCost 0 = .ok (.aload_n 0, 1) := by decide +kernel
theorem dX11_tripCost_1 : decode cX11_tripCost 1 = .ok (.iconst 0, 1) := by decide +kernel
theorem dX11_tripCost_2 : decode cX11_tripCost 2 = .ok (.putfield 61, 3) := by decide +kernel
theorem dX11_tripCost_5 : decode cX11_tripCost 5 = .ok (.aload_n 0, 1) := by decide +kernel
theorem dX11_tripCost_6 : decode cX11_tripCost 6 = .ok (.iload_n 1, 1) := by decide +kernel
theorem dX11_tripCost_7 : decode cX11_tripCost 7 = .ok (.invokevirtual 87, 3) := by decide +kernel
theorem dX11_tripCost_10 : decode cX11_tripCost 10 = .ok (.ifCond .eq 19, 3) := by decide +kernel
theorem dX11_tripCost_13 : decode cX11_tripCost 13 = .ok (.aload_n 0, 1) := by decide +kernel
theorem dX11_tripCost_14 : decode cX11_tripCost 14 = .ok (.iload_n 1, 1) := by decide +kernel
theorem dX11_tripCost_15 : decode cX11_tripCost 15 = .ok (.invokevirtual 163, 3) := by decide +kernel
theorem dX11_tripCost_18 : decode cX11_tripCost 18 = .ok (.aload_n 0, 1) := by decide +kernel
theorem dX11_tripCost_19 : decode cX11_tripCost 19 = .ok (.iload_n 1, 1) := by decide +kernel
theorem dX11_tripCost_20 : decode cX11_tripCost 20 = .ok (.bipush 7, 2) := by decide +kernel
theorem dX11_tripCost_22 : decode cX11_tripCost 22 = .ok (.invokevirtual 68, 3) := by decide +kernel
theorem dX11_tripCost_25 : decode cX11_tripCost 25 = .ok (.imul, 1) := by decide +kernel
theorem dX11_tripCost_26 : decode cX11_tripCost 26 = .ok (.goto 8, 3) := by decide +kernel
theorem dX11_tripCost_29 : decode cX11_tripCost 29 = .ok (.aload_n 0, 1) := by decide +kernel
theorem dX11_tripCost_30 : decode cX11_tripCost 30 = .ok (.iconst 1, 1) := by decide +kernel
theorem dX11_tripCost_31 : decode cX11_tripCost 31 = .ok (.invokevirtual 79, 3) := by decide +kernel
theorem dX11_tripCost_34 : decode cX11_tripCost 34 = .ok (.ireturn, 1) := by decide +kernel
theorem dX11_marginalOf_0 : decode cX11_marginalOf 0 = .ok (.aload_n 0, 1) := by decide +kernel
theorem dX11_marginalOf_1 : decode cX11_marginalOf 1 = .ok (.iload_n 1, 1) := by decide +kernel
theorem dX11_marginalOf_2 : decode cX11_marginalOf 2 = .ok (.bipush 7, 2) := by decide +kernel
theorem dX11_marginalOf_4 : decode cX11_marginalOf 4 = .ok (.invokevirtual 72, 3) := by decide +kernel
theorem dX11_marginalOf_7 : decode cX11_marginalOf 7 = .ok (.istore_n 2, 1) := by decide +kernel
theorem dX11_marginalOf_8 : decode cX11_marginalOf 8 = .ok (.aload_n 0, 1) := by decide +kernel
theorem dX11_marginalOf_9 : decode cX11_marginalOf 9 = .ok (.iload_n 2, 1) := by decide +kernel
theorem dX11_marginalOf_10 : decode cX11_marginalOf 10 = .ok (.invokevirtual 163, 3) := by decide +kernel
theorem dX11_marginalOf_13 : decode cX11_marginalOf 13 = .ok (.istore_n 3, 1) := by decide +kernel
theorem dX11_marginalOf_14 : decode cX11_marginalOf 14 = .ok (.aload_n 0, 1) := by decide +kernel
theorem dX11_marginalOf_15 : decode cX11_marginalOf 15 = .ok (.iload_n 2, 1) := by decide +kernel
theorem dX11_marginalOf_16 : decode cX11_marginalOf 16 = .ok (.iload_n 1, 1) := by decide +kernel
theorem dX11_marginalOf_17 : decode cX11_marginalOf 17 = .ok (.invokevirtual 156, 3) := by decide +kernel
theorem dX11_marginalOf_20 : decode cX11_marginalOf 20 = .ok (.iload_n 3, 1) := by decide +kernel
theorem dX11_marginalOf_21 : decode cX11_marginalOf 21 = .ok (.aload_n 0, 1) := by decide +kernel
theorem dX11_marginalOf_22 : decode cX11_marginalOf 22 = .ok (.getfield 130, 3) := by decide +kernel
theorem dX11_marginalOf_25 : decode cX11_marginalOf 25 = .ok (.isub, 1) := by decide +kernel
theorem dX11_marginalOf_26 : decode cX11_marginalOf 26 = .ok (.ireturn, 1) := by decide +kernel
theorem dX11_marginal_0 : decode cX11_marginal 0 = .ok (.aload_n 0, 1) := by decide +kernel
theorem dX11_marginal_1 : decode cX11_marginal 1 = .ok (.iconst 0, 1) := by decide +kernel
theorem dX11_marginal_2 : decode cX11_marginal 2 = .ok (.putfield 61, 3) := by decide +kernel
theorem dX11_marginal_5 : decode cX11_marginal 5 = .ok (.aload_n 0, 1) := by decide +kernel
theorem dX11_marginal_6 : decode cX11_marginal 6 = .ok (.iload_n 1, 1) := by decide +kernel
theorem dX11_marginal_7 : decode cX11_marginal 7 = .ok (.invokevirtual 112, 3) := by decide +kernel
theorem dX11_marginal_10 : decode cX11_marginal 10 = .ok (.ifCond .ne 9, 3) := by decide +kernel
theorem dX11_marginal_13 : decode cX11_marginal 13 = .ok (.aload_n 0, 1) := by decide +kernel
theorem dX11_marginal_14 : decode cX11_marginal 14 = .ok (.iconst 1, 1) := by decide +kernel
theorem dX11_marginal_15 : decode cX11_marginal 15 = .ok (.invokevirtual 79, 3) := by decide +kernel
theorem dX11_marginal_18 : decode cX11_marginal 18 = .ok (.ireturn, 1) := by decide +kernel
theorem dX11_marginal_19 : decode cX11_marginal 19 = .ok (.aload_n 0, 1) := by decide +kernel
theorem dX11_marginal_20 : decode cX11_marginal 20 = .ok (.iload_n 1, 1) := by decide +kernel
theorem dX11_marginal_21 : decode cX11_marginal 21 = .ok (.bipush 7, 2) := by decide +kernel
theorem dX11_marginal_23 : decode cX11_marginal 23 = .ok (.invokevirtual 72, 3) := by decide +kernel
theorem dX11_marginal_26 : decode cX11_marginal 26 = .ok (.iconst (-1), 1) := by decide +kernel
theorem dX11_marginal_27 : decode cX11_marginal 27 = .ok (.if_icmp .ne 7, 3) := by decide +kernel
theorem dX11_marginal_30 : decode cX11_marginal 30 = .ok (.iconst (-1), 1) := by decide +kernel
theorem dX11_marginal_31 : decode cX11_marginal 31 = .ok (.goto 8, 3) := by decide +kernel
theorem dX11_marginal_34 : decode cX11_marginal 34 = .ok (.aload_n 0, 1) := by decide +kernel
theorem dX11_marginal_35 : decode cX11_marginal 35 = .ok (.iload_n 1, 1) := by decide +kernel
theorem dX11_marginal_36 : decode cX11_marginal 36 = .ok (.invokevirtual 251, 3) := by decide +kernel
theorem dX11_marginal_39 : decode cX11_marginal 39 = .ok (.ireturn, 1) := by decide +kernel
theorem dX11_basePart_0 : decode cX11_basePart 0 = .ok (.aload_n 0, 1) := by decide +kernel
theorem dX11_basePart_1 : decode cX11_basePart 1 = .ok (.iload_n 1, 1) := by decide +kernel
theorem dX11_basePart_2 : decode cX11_basePart 2 = .ok (.invokevirtual 102, 3) := by decide +kernel
theorem dX11_basePart_5 : decode cX11_basePart 5 = .ok (.aload_n 0, 1) := by decide +kernel
theorem dX11_basePart_6 : decode cX11_basePart 6 = .ok (.iload_n 1, 1) := by decide +kernel
theorem dX11_basePart_7 : decode cX11_basePart 7 = .ok (.bipush 7, 2) := by decide +kernel
theorem dX11_basePart_9 : decode cX11_basePart 9 = .ok (.invokevirtual 68, 3) := by decide +kernel
theorem dX11_basePart_12 : decode cX11_basePart 12 = .ok (.imul, 1) := by decide +kernel
theorem dX11_basePart_13 : decode cX11_basePart 13 = .ok (.istore 4, 2) := by decide +kernel
theorem dX11_basePart_15 : decode cX11_basePart 15 = .ok (.iload 4, 2) := by decide +kernel
theorem dX11_basePart_17 : decode cX11_basePart 17 = .ok (.iload_n 2, 1) := by decide +kernel
theorem dX11_basePart_18 : decode cX11_basePart 18 = .ok (.iconst 1, 1) := by decide +kernel
theorem dX11_basePart_19 : decode cX11_basePart 19 = .ok (.iadd, 1) := by decide +kernel
theorem dX11_basePart_20 : decode cX11_basePart 20 = .ok (.idiv, 1) := by decide +kernel
theorem dX11_basePart_21 : decode cX11_basePart 21 = .ok (.iload_n 3, 1) := by decide +kernel
theorem dX11_basePart_22 : decode cX11_basePart 22 = .ok (.iload 4, 2) := by decide +kernel
theorem dX11_basePart_24 : decode cX11_basePart 24 = .ok (.iload_n 2, 1) := by decide +kernel
theorem dX11_basePart_25 : decode cX11_basePart 25 = .ok (.iconst 1, 1) := by decide +kernel
theorem dX11_basePart_26 : decode cX11_basePart 26 = .ok (.iadd, 1) := by decide +kernel
theorem dX11_basePart_27 : decode cX11_basePart 27 = .ok (.irem, 1) := by decide +kernel
theorem dX11_basePart_28 : decode cX11_basePart 28 = .ok (.if_icmp .ge 7, 3) := by decide +kernel
theorem dX11_basePart_31 : decode cX11_basePart 31 = .ok (.iconst 1, 1) := by decide +kernel
theorem dX11_basePart_32 : decode cX11_basePart 32 = .ok (.goto 4, 3) := by decide +kernel
theorem dX11_basePart_35 : decode cX11_basePart 35 = .ok (.iconst 0, 1) := by decide +kernel
theorem dX11_basePart_36 : decode cX11_basePart 36 = .ok (.iadd, 1) := by decide +kernel
theorem dX11_basePart_37 : decode cX11_basePart 37 = .ok (.ireturn, 1) := by decide +kernel
theorem dX11_findWeights_0 : decode cX11_findWeights 0 = .ok (.iconst 0, 1) := by decide +kernel
theorem dX11_findWeights_1 : decode cX11_findWeights 1 = .ok (.istore_n 3, 1) := by decide +kernel
theorem dX11_findWeights_2 : decode cX11_findWeights 2 = .ok (.iconst 0, 1) := by decide +kernel
theorem dX11_findWeights_3 : decode cX11_findWeights 3 = .ok (.istore 4, 2) := by decide +kernel
theorem dX11_findWeights_5 : decode cX11_findWeights 5 = .ok (.aload_n 0, 1) := by decide +kernel
theorem dX11_findWeights_6 : decode cX11_findWeights 6 = .ok (.iconst 0, 1) := by decide +kernel
theorem dX11_findWeights_7 : decode cX11_findWeights 7 = .ok (.putfield 254, 3) := by decide +kernel
theorem dX11_findWeights_10 : decode cX11_findWeights 10 = .ok (.iconst 0, 1) := by decide +kernel
theorem dX11_findWeights_11 : decode cX11_findWeights 11 = .ok (.istore 5, 2) := by decide +kernel
theorem dX11_findWeights_13 : decode cX11_findWeights 13 = .ok (.iload 5, 2) := by decide +kernel
theorem dX11_findWeights_15 : decode cX11_findWeights 15 = .ok (.aload_n 0, 1) := by decide +kernel
theorem dX11_findWeights_16 : decode cX11_findWeights 16 = .ok (.getfield 7, 3) := by decide +kernel
theorem dX11_findWeights_19 : decode cX11_findWeights 19 = .ok (.iconst 2, 1) := by decide +kernel
theorem dX11_findWeights_20 : decode cX11_findWeights 20 = .ok (.iaload, 1) := by decide +kernel
theorem dX11_findWeights_21 : decode cX11_findWeights 21 = .ok (.if_icmp .ge 63, 3) := by decide +kernel
theorem dX11_findWeights_24 : decode cX11_findWeights 24 = .ok (.aload_n 0, 1) := by decide +kernel
theorem dX11_findWeights_25 : decode cX11_findWeights 25 = .ok (.iload 5, 2) := by decide +kernel
theorem dX11_findWeights_27 : decode cX11_findWeights 27 = .ok (.iload_n 1, 1) := by decide +kernel
theorem dX11_findWeights_28 : decode cX11_findWeights 28 = .ok (.invokevirtual 115, 3) := by decide +kernel
theorem dX11_findWeights_31 : decode cX11_findWeights 31 = .ok (.ifCond .eq 47, 3) := by decide +kernel
theorem dX11_findWeights_34 : decode cX11_findWeights 34 = .ok (.iload 5, 2) := by decide +kernel
theorem dX11_findWeights_36 : decode cX11_findWeights 36 = .ok (.iload_n 2, 1) := by decide +kernel
theorem dX11_findWeights_37 : decode cX11_findWeights 37 = .ok (.if_icmp .ne 7, 3) := by decide +kernel
theorem dX11_findWeights_40 : decode cX11_findWeights 40 = .ok (.iload_n 3, 1) := by decide +kernel
theorem dX11_findWeights_41 : decode cX11_findWeights 41 = .ok (.goto 5, 3) := by decide +kernel
theorem dX11_findWeights_44 : decode cX11_findWeights 44 = .ok (.iload 4, 2) := by decide +kernel
theorem dX11_findWeights_46 : decode cX11_findWeights 46 = .ok (.istore 4, 2) := by decide +kernel
theorem dX11_findWeights_48 : decode cX11_findWeights 48 = .ok (.aload_n 0, 1) := by decide +kernel
theorem dX11_findWeights_49 : decode cX11_findWeights 49 = .ok (.getfield 48, 3) := by decide +kernel
theorem dX11_findWeights_52 : decode cX11_findWeights 52 = .ok (.iload_n 3, 1) := by decide +kernel
theorem dX11_findWeights_53 : decode cX11_findWeights 53 = .ok (.aload_n 0, 1) := by decide +kernel
theorem dX11_findWeights_54 : decode cX11_findWeights 54 = .ok (.iload 5, 2) := by decide +kernel
theorem dX11_findWeights_56 : decode cX11_findWeights 56 = .ok (.invokevirtual 251, 3) := by decide +kernel
theorem dX11_findWeights_59 : decode cX11_findWeights 59 = .ok (.iastore, 1) := by decide +kernel
theorem dX11_findWeights_60 : decode cX11_findWeights 60 = .ok (.aload_n 0, 1) := by decide +kernel
theorem dX11_findWeights_61 : decode cX11_findWeights 61 = .ok (.dup, 1) := by decide +kernel
theorem dX11_findWeights_62 : decode cX11_findWeights 62 = .ok (.getfield 254, 3) := by decide +kernel
theorem dX11_findWeights_65 : decode cX11_findWeights 65 = .ok (.aload_n 0, 1) := by decide +kernel
theorem dX11_findWeights_66 : decode cX11_findWeights 66 = .ok (.getfield 48, 3) := by decide +kernel
theorem dX11_findWeights_69 : decode cX11_findWeights 69 = .ok (.iload_n 3, 1) := by decide +kernel
theorem dX11_findWeights_70 : decode cX11_findWeights 70 = .ok (.iaload, 1) := by decide +kernel
theorem dX11_findWeights_71 : decode cX11_findWeights 71 = .ok (.iadd, 1) := by decide +kernel
theorem dX11_findWeights_72 : decode cX11_findWeights 72 = .ok (.putfield 254, 3) := by decide +kernel
theorem dX11_findWeights_75 : decode cX11_findWeights 75 = .ok (.iinc 3 1, 3) := by decide +kernel
theorem dX11_findWeights_78 : decode cX11_findWeights 78 = .ok (.iinc 5 1, 3) := by decide +kernel
theorem dX11_findWeights_81 : decode cX11_findWeights 81 = .ok (.goto (-68), 3) := by decide +kernel
theorem dX11_findWeights_84 : decode cX11_findWeights 84 = .ok (.iconst 0, 1) := by decide +kernel
theorem dX11_findWeights_85 : decode cX11_findWeights 85 = .ok (.istore 5, 2) := by decide +kernel
theorem dX11_findWeights_87 : decode cX11_findWeights 87 = .ok (.iload 5, 2) := by decide +kernel
theorem dX11_findWeights_89 : decode cX11_findWeights 89 = .ok (.iload_n 3, 1) := by decide +kernel
theorem dX11_findWeights_90 : decode cX11_findWeights 90 = .ok (.if_icmp .ge 24, 3) := by decide +kernel
theorem dX11_findWeights_93 : decode cX11_findWeights 93 = .ok (.aload_n 0, 1) := by decide +kernel
theorem dX11_findWeights_94 : decode cX11_findWeights 94 = .ok (.getfield 254, 3) := by decide +kernel
theorem dX11_findWeights_97 : decode cX11_findWeights 97 = .ok (.ifCond .ne 17, 3) := by decide +kernel
theorem dX11_findWeights_100 : decode cX11_findWeights 100 = .ok (.aload_n 0, 1) := by decide +kernel
theorem dX11_findWeights_101 : decode cX11_findWeights 101 = .ok (.getfield 48, 3) := by decide +kernel
theorem dX11_findWeights_104 : decode cX11_findWeights 104 = .ok (.iload 5, 2) := by decide +kernel
theorem dX11_findWeights_106 : decode cX11_findWeights 106 = .ok (.iconst 1, 1) := by decide +kernel
theorem dX11_findWeights_107 : decode cX11_findWeights 107 = .ok (.iastore, 1) := by decide +kernel
theorem dX11_findWeights_108 : decode cX11_findWeights 108 = .ok (.iinc 5 1, 3) := by decide +kernel
theorem dX11_findWeights_111 : decode cX11_findWeights 111 = .ok (.goto (-24), 3) := by decide +kernel
theorem dX11_findWeights_114 : decode cX11_findWeights 114 = .ok (.aload_n 0, 1) := by decide +kernel
theorem dX11_findWeights_115 : decode cX11_findWeights 115 = .ok (.aload_n 0, 1) := by decide +kernel
theorem dX11_findWeights_116 : decode cX11_findWeights 116 = .ok (.getfield 254, 3) := by decide +kernel
theorem dX11_findWeights_119 : decode cX11_findWeights 119 = .ok (.ifCond .ne 7, 3) := by decide +kernel
theorem dX11_findWeights_122 : decode cX11_findWeights 122 = .ok (.iload_n 3, 1) := by decide +kernel
theorem dX11_findWeights_123 : decode cX11_findWeights 123 = .ok (.goto 7, 3) := by decide +kernel
theorem dX11_findWeights_126 : decode cX11_findWeights 126 = .ok (.aload_n 0, 1) := by decide +kernel
theorem dX11_findWeights_127 : decode cX11_findWeights 127 = .ok (.getfield 254, 3) := by decide +kernel
theorem dX11_findWeights_130 : decode cX11_findWeights 130 = .ok (.putfield 254, 3) := by decide +kernel
theorem dX11_findWeights_133 : decode cX11_findWeights 133 = .ok (.iload 4, 2) := by decide +kernel
theorem dX11_findWeights_135 : decode cX11_findWeights 135 = .ok (.ireturn, 1) := by decide +kernel
theorem dX11_detourPart_0 : decode cX11_detourPart 0 = .ok (.aload_n 0, 1) := by decide +kernel
theorem dX11_detourPart_1 : decode cX11_detourPart 1 = .ok (.iload_n 1, 1) := by decide +kernel
theorem dX11_detourPart_2 : decode cX11_detourPart 2 = .ok (.invokevirtual 163, 3) := by decide +kernel
theorem dX11_detourPart_5 : decode cX11_detourPart 5 = .ok (.aload_n 0, 1) := by decide +kernel
theorem dX11_detourPart_6 : decode cX11_detourPart 6 = .ok (.iload_n 1, 1) := by decide +kernel
theorem dX11_detourPart_7 : decode cX11_detourPart 7 = .ok (.invokevirtual 102, 3) := by decide +kernel
theorem dX11_detourPart_10 : decode cX11_detourPart 10 = .ok (.isub, 1) := by decide +kernel
theorem dX11_detourPart_11 : decode cX11_detourPart 11 = .ok (.aload_n 0, 1) := by decide +kernel
theorem dX11_detourPart_12 : decode cX11_detourPart 12 = .ok (.iload_n 1, 1) := by decide +kernel
theorem dX11_detourPart_13 : decode cX11_detourPart 13 = .ok (.bipush 7, 2) := by decide +kernel
theorem dX11_detourPart_15 : decode cX11_detourPart 15 = .ok (.invokevirtual 68, 3) := by decide +kernel
theorem dX11_detourPart_18 : decode cX11_detourPart 18 = .ok (.imul, 1) := by decide +kernel
theorem dX11_detourPart_19 : decode cX11_detourPart 19 = .ok (.istore 4, 2) := by decide +kernel
theorem dX11_detourPart_21 : decode cX11_detourPart 21 = .ok (.iload 4, 2) := by decide +kernel
theorem dX11_detourPart_23 : decode cX11_detourPart 23 = .ok (.istore 5, 2) := by decide +kernel
theorem dX11_detourPart_25 : decode cX11_detourPart 25 = .ok (.iconst 0, 1) := by decide +kernel
theorem dX11_detourPart_26 : decode cX11_detourPart 26 = .ok (.istore 6, 2) := by decide +kernel
theorem dX11_detourPart_28 : decode cX11_detourPart 28 = .ok (.iload 4, 2) := by decide +kernel
theorem dX11_detourPart_30 : decode cX11_detourPart 30 = .ok (.aload_n 0, 1) := by decide +kernel
theorem dX11_detourPart_31 : decode cX11_detourPart 31 = .ok (.getfield 48, 3) := by decide +kernel
theorem dX11_detourPart_34 : decode cX11_detourPart 34 = .ok (.iload_n 3, 1) := by decide +kernel
theorem dX11_detourPart_35 : decode cX11_detourPart 35 = .ok (.iaload, 1) := by decide +kernel
theorem dX11_detourPart_36 : decode cX11_detourPart 36 = .ok (.imul, 1) := by decide +kernel
theorem dX11_detourPart_37 : decode cX11_detourPart 37 = .ok (.aload_n 0, 1) := by decide +kernel
theorem dX11_detourPart_38 : decode cX11_detourPart 38 = .ok (.getfield 254, 3) := by decide +kernel
theorem dX11_detourPart_41 : decode cX11_detourPart 41 = .ok (.irem, 1) := by decide +kernel
theorem dX11_detourPart_42 : decode cX11_detourPart 42 = .ok (.istore 7, 2) := by decide +kernel
theorem dX11_detourPart_44 : decode cX11_detourPart 44 = .ok (.iconst 0, 1) := by decide +kernel
theorem dX11_detourPart_45 : decode cX11_detourPart 45 = .ok (.istore 8, 2) := by decide +kernel
theorem dX11_detourPart_47 : decode cX11_detourPart 47 = .ok (.iload 8, 2) := by decide +kernel
theorem dX11_detourPart_49 : decode cX11_detourPart 49 = .ok (.iload_n 2, 1) := by decide +kernel
theorem dX11_detourPart_50 : decode cX11_detourPart 50 = .ok (.if_icmp .ge 76, 3) := by decide +kernel
theorem dX11_detourPart_53 : decode cX11_detourPart 53 = .ok (.iload 4, 2) := by decide +kernel
theorem dX11_detourPart_55 : decode cX11_detourPart 55 = .ok (.aload_n 0, 1) := by decide +kernel
theorem dX11_detourPart_56 : decode cX11_detourPart 56 = .ok (.getfield 48, 3) := by decide +kernel
theorem dX11_detourPart_59 : decode cX11_detourPart 59 = .ok (.iload 8, 2) := by decide +kernel
theorem dX11_detourPart_61 : decode cX11_detourPart 61 = .ok (.iaload, 1) := by decide +kernel
theorem dX11_detourPart_62 : decode cX11_detourPart 62 = .ok (.imul, 1) := by decide +kernel
theorem dX11_detourPart_63 : decode cX11_detourPart 63 = .ok (.aload_n 0, 1) := by decide +kernel
theorem dX11_detourPart_64 : decode cX11_detourPart 64 = .ok (.getfield 254, 3) := by decide +kernel
theorem dX11_detourPart_67 : decode cX11_detourPart 67 = .ok (.irem, 1) := by decide +kernel
theorem dX11_detourPart_68 : decode cX11_detourPart 68 = .ok (.istore 9, 2) := by decide +kernel
theorem dX11_detourPart_70 : decode cX11_detourPart 70 = .ok (.iload 5, 2) := by decide +kernel
theorem dX11_detourPart_72 : decode cX11_detourPart 72 = .ok (.iload 4, 2) := by decide +kernel
theorem dX11_detourPart_74 : decode cX11_detourPart 74 = .ok (.aload_n 0, 1) := by decide +kernel
theorem dX11_detourPart_75 : decode cX11_detourPart 75 = .ok (.getfield 48, 3) := by decide +kernel
theorem dX11_detourPart_78 : decode cX11_detourPart 78 = .ok (.iload 8, 2) := by decide +kernel
theorem dX11_detourPart_80 : decode cX11_detourPart 80 = .ok (.iaload, 1) := by decide +kernel
theorem dX11_detourPart_81 : decode cX11_detourPart 81 = .ok (.imul, 1) := by decide +kernel
theorem dX11_detourPart_82 : decode cX11_detourPart 82 = .ok (.aload_n 0, 1) := by decide +kernel
theorem dX11_detourPart_83 : decode cX11_detourPart 83 = .ok (.getfield 254, 3) := by decide +kernel
theorem dX11_detourPart_86 : decode cX11_detourPart 86 = .ok (.idiv, 1) := by decide +kernel
theorem dX11_detourPart_87 : decode cX11_detourPart 87 = .ok (.isub, 1) := by decide +kernel
theorem dX11_detourPart_88 : decode cX11_detourPart 88 = .ok (.istore 5, 2) := by decide +kernel
theorem dX11_detourPart_90 : decode cX11_detourPart 90 = .ok (.iload 6, 2) := by decide +kernel
theorem dX11_detourPart_92 : decode cX11_detourPart 92 = .ok (.iload 9, 2) := by decide +kernel
theorem dX11_detourPart_94 : decode cX11_detourPart 94 = .ok (.iload 7, 2) := by decide +kernel
theorem dX11_detourPart_96 : decode cX11_detourPart 96 = .ok (.if_icmp .gt 16, 3) := by decide +kernel
theorem dX11_detourPart_99 : decode cX11_detourPart 99 = .ok (.iload 9, 2) := by decide +kernel
theorem dX11_detourPart_101 : decode cX11_detourPart 101 = .ok (.iload 7, 2) := by decide +kernel
theorem dX11_detourPart_103 : decode cX11_detourPart 103 = .ok (.if_icmp .ne 13, 3) := by decide +kernel
theorem dX11_detourPart_106 : decode cX11_detourPart 106 = .ok (.iload 8, 2) := by decide +kernel
theorem dX11_detourPart_108 : decode cX11_detourPart 108 = .ok (.iload_n 3, 1) := by decide +kernel
theorem dX11_detourPart_109 : decode cX11_detourPart 109 = .ok (.if_icmp .ge 7, 3) := by decide +kernel
theorem dX11_detourPart_112 : decode cX11_detourPart 112 = .ok (.iconst 1, 1) := by decide +kernel
theorem dX11_detourPart_113 : decode cX11_detourPart 113 = .ok (.goto 4, 3) := by decide +kernel
theorem dX11_detourPart_116 : decode cX11_detourPart 116 = .ok (.iconst 0, 1) := by decide +kernel
theorem dX11_detourPart_117 : decode cX11_detourPart 117 = .ok (.iadd, 1) := by decide +kernel
theorem dX11_detourPart_118 : decode cX11_detourPart 118 = .ok (.istore 6, 2) := by decide +kernel
theorem dX11_detourPart_120 : decode cX11_detourPart 120 = .ok (.iinc 8 1, 3) := by decide +kernel
theorem dX11_detourPart_123 : decode cX11_detourPart 123 = .ok (.goto (-76), 3) := by decide +kernel
theorem dX11_detourPart_126 : decode cX11_detourPart 126 = .ok (.iload 4, 2) := by decide +kernel
theorem dX11_detourPart_128 : decode cX11_detourPart 128 = .ok (.aload_n 0, 1) := by decide +kernel
theorem dX11_detourPart_129 : decode cX11_detourPart 129 = .ok (.getfield 48, 3) := by decide +kernel
theorem dX11_detourPart_132 : decode cX11_detourPart 132 = .ok (.iload_n 3, 1) := by decide +kernel
theorem dX11_detourPart_133 : decode cX11_detourPart 133 = .ok (.iaload, 1) := by decide +kernel
theorem dX11_detourPart_134 : decode cX11_detourPart 134 = .ok (.imul, 1) := by decide +kernel
theorem dX11_detourPart_135 : decode cX11_detourPart 135 = .ok (.aload_n 0, 1) := by decide +kernel
theorem dX11_detourPart_136 : decode cX11_detourPart 136 = .ok (.getfield 254, 3) := by decide +kernel
theorem dX11_detourPart_139 : decode cX11_detourPart 139 = .ok (.idiv, 1) := by decide +kernel
theorem dX11_detourPart_140 : decode cX11_detourPart 140 = .ok (.iload 6, 2) := by decide +kernel
theorem dX11_detourPart_142 : decode cX11_detourPart 142 = .ok (.iload 5, 2) := by decide +kernel
theorem dX11_detourPart_144 : decode cX11_detourPart 144 = .ok (.if_icmp .ge 7, 3) := by decide +kernel
theorem dX11_detourPart_147 : decode cX11_detourPart 147 = .ok (.iconst 1, 1) := by decide +kernel
theorem dX11_detourPart_148 : decode cX11_detourPart 148 = .ok (.goto 4, 3) := by decide +kernel
theorem dX11_detourPart_151 : decode cX11_detourPart 151 = .ok (.iconst 0, 1) := by decide +kernel
theorem dX11_detourPart_152 : decode cX11_detourPart 152 = .ok (.iadd, 1) := by decide +kernel
theorem dX11_detourPart_153 : decode cX11_detourPart 153 = .ok (.ireturn, 1) := by decide +kernel
theorem dX11_shareOf_0 : decode cX11_shareOf 0 = .ok (.aload_n 0, 1) := by decide +kernel
theorem dX11_shareOf_1 : decode cX11_shareOf 1 = .ok (.iload_n 1, 1) := by decide +kernel
theorem dX11_shareOf_2 : decode cX11_shareOf 2 = .ok (.bipush 7, 2) := by decide +kernel
theorem dX11_shareOf_4 : decode cX11_shareOf 4 = .ok (.invokevirtual 72, 3) := by decide +kernel
theorem dX11_shareOf_7 : decode cX11_shareOf 7 = .ok (.istore_n 2, 1) := by decide +kernel
theorem dX11_shareOf_8 : decode cX11_shareOf 8 = .ok (.aload_n 0, 1) := by decide +kernel
theorem dX11_shareOf_9 : decode cX11_shareOf 9 = .ok (.iload_n 2, 1) := by decide +kernel
theorem dX11_shareOf_10 : decode cX11_shareOf 10 = .ok (.invokevirtual 119, 3) := by decide +kernel
theorem dX11_shareOf_13 : decode cX11_shareOf 13 = .ok (.invokestatic 230, 3) := by decide +kernel
theorem dX11_shareOf_16 : decode cX11_shareOf 16 = .ok (.istore_n 3, 1) := by decide +kernel
theorem dX11_shareOf_17 : decode cX11_shareOf 17 = .ok (.aload_n 0, 1) := by decide +kernel
theorem dX11_shareOf_18 : decode cX11_shareOf 18 = .ok (.iload_n 2, 1) := by decide +kernel
theorem dX11_shareOf_19 : decode cX11_shareOf 19 = .ok (.iload_n 1, 1) := by decide +kernel
theorem dX11_shareOf_20 : decode cX11_shareOf 20 = .ok (.invokevirtual 257, 3) := by decide +kernel
theorem dX11_shareOf_23 : decode cX11_shareOf 23 = .ok (.istore 4, 2) := by decide +kernel
theorem dX11_shareOf_25 : decode cX11_shareOf 25 = .ok (.aload_n 0, 1) := by decide +kernel
theorem dX11_shareOf_26 : decode cX11_shareOf 26 = .ok (.iload_n 2, 1) := by decide +kernel
theorem dX11_shareOf_27 : decode cX11_shareOf 27 = .ok (.iload_n 3, 1) := by decide +kernel
theorem dX11_shareOf_28 : decode cX11_shareOf 28 = .ok (.iload 4, 2) := by decide +kernel
theorem dX11_shareOf_30 : decode cX11_shareOf 30 = .ok (.iconst 1, 1) := by decide +kernel
theorem dX11_shareOf_31 : decode cX11_shareOf 31 = .ok (.iadd, 1) := by decide +kernel
theorem dX11_shareOf_32 : decode cX11_shareOf 32 = .ok (.invokevirtual 260, 3) := by decide +kernel
theorem dX11_shareOf_35 : decode cX11_shareOf 35 = .ok (.aload_n 0, 1) := by decide +kernel
theorem dX11_shareOf_36 : decode cX11_shareOf 36 = .ok (.iload_n 2, 1) := by decide +kernel
theorem dX11_shareOf_37 : decode cX11_shareOf 37 = .ok (.iload_n 3, 1) := by decide +kernel
theorem dX11_shareOf_38 : decode cX11_shareOf 38 = .ok (.iload 4, 2) := by decide +kernel
theorem dX11_shareOf_40 : decode cX11_shareOf 40 = .ok (.invokevirtual 264, 3) := by decide +kernel
theorem dX11_shareOf_43 : decode cX11_shareOf 43 = .ok (.iadd, 1) := by decide +kernel
theorem dX11_shareOf_44 : decode cX11_shareOf 44 = .ok (.ireturn, 1) := by decide +kernel
theorem dX11_share_0 : decode cX11_share 0 = .ok (.aload_n 0, 1) := by decide +kernel
theorem dX11_share_1 : decode cX11_share 1 = .ok (.iconst 0, 1) := by decide +kernel
theorem dX11_share_2 : decode cX11_share 2 = .ok (.putfield 61, 3) := by decide +kernel
theorem dX11_share_5 : decode cX11_share 5 = .ok (.aload_n 0, 1) := by decide +kernel
theorem dX11_share_6 : decode cX11_share 6 = .ok (.iload_n 1, 1) := by decide +kernel
theorem dX11_share_7 : decode cX11_share 7 = .ok (.invokevirtual 112, 3) := by decide +kernel
theorem dX11_share_10 : decode cX11_share 10 = .ok (.ifCond .ne 9, 3) := by decide +kernel
theorem dX11_share_13 : decode cX11_share 13 = .ok (.aload_n 0, 1) := by decide +kernel
theorem dX11_share_14 : decode cX11_share 14 = .ok (.iconst 1, 1) := by decide +kernel
theorem dX11_share_15 : decode cX11_share 15 = .ok (.invokevirtual 79, 3) := by decide +kernel
theorem dX11_share_18 : decode cX11_share 18 = .ok (.ireturn, 1) := by decide +kernel
theorem dX11_share_19 : decode cX11_share 19 = .ok (.aload_n 0, 1) := by decide +kernel
theorem dX11_share_20 : decode cX11_share 20 = .ok (.iload_n 1, 1) := by decide +kernel
theorem dX11_share_21 : decode cX11_share 21 = .ok (.bipush 7, 2) := by decide +kernel
theorem dX11_share_23 : decode cX11_share 23 = .ok (.invokevirtual 72, 3) := by decide +kernel
theorem dX11_share_26 : decode cX11_share 26 = .ok (.iconst (-1), 1) := by decide +kernel
theorem dX11_share_27 : decode cX11_share 27 = .ok (.if_icmp .ne 7, 3) := by decide +kernel
theorem dX11_share_30 : decode cX11_share 30 = .ok (.iconst (-1), 1) := by decide +kernel
theorem dX11_share_31 : decode cX11_share 31 = .ok (.goto 8, 3) := by decide +kernel
theorem dX11_share_34 : decode cX11_share 34 = .ok (.aload_n 0, 1) := by decide +kernel
theorem dX11_share_35 : decode cX11_share 35 = .ok (.iload_n 1, 1) := by decide +kernel
theorem dX11_share_36 : decode cX11_share 36 = .ok (.invokevirtual 267, 3) := by decide +kernel
theorem dX11_share_39 : decode cX11_share 39 = .ok (.ireturn, 1) := by decide +kernel
theorem dX11_driverShare_0 : decode cX11_driverShare 0 = .ok (.aload_n 0, 1) := by decide +kernel
theorem dX11_driverShare_1 : decode cX11_driverShare 1 = .ok (.iconst 0, 1) := by decide +kernel
theorem dX11_driverShare_2 : decode cX11_driverShare 2 = .ok (.putfield 61, 3) := by decide +kernel
theorem dX11_driverShare_5 : decode cX11_driverShare 5 = .ok (.aload_n 0, 1) := by decide +kernel
theorem dX11_driverShare_6 : decode cX11_driverShare 6 = .ok (.iload_n 1, 1) := by decide +kernel
theorem dX11_driverShare_7 : decode cX11_driverShare 7 = .ok (.invokevirtual 87, 3) := by decide +kernel
theorem dX11_driverShare_10 : decode cX11_driverShare 10 = .ok (.ifCond .eq 20, 3) := by decide +kernel
theorem dX11_driverShare_13 : decode cX11_driverShare 13 = .ok (.aload_n 0, 1) := by decide +kernel
theorem dX11_driverShare_14 : decode cX11_driverShare 14 = .ok (.iload_n 1, 1) := by decide +kernel
theorem dX11_driverShare_15 : decode cX11_driverShare 15 = .ok (.aload_n 0, 1) := by decide +kernel
theorem dX11_driverShare_16 : decode cX11_driverShare 16 = .ok (.iload_n 1, 1) := by decide +kernel
theorem dX11_driverShare_17 : decode cX11_driverShare 17 = .ok (.invokevirtual 119, 3) := by decide +kernel
theorem dX11_driverShare_20 : decode cX11_driverShare 20 = .ok (.invokestatic 230, 3) := by decide +kernel
theorem dX11_driverShare_23 : decode cX11_driverShare 23 = .ok (.iconst 0, 1) := by decide +kernel
theorem dX11_driverShare_24 : decode cX11_driverShare 24 = .ok (.invokevirtual 260, 3) := by decide +kernel
theorem dX11_driverShare_27 : decode cX11_driverShare 27 = .ok (.goto 8, 3) := by decide +kernel
theorem dX11_driverShare_30 : decode cX11_driverShare 30 = .ok (.aload_n 0, 1) := by decide +kernel
theorem dX11_driverShare_31 : decode cX11_driverShare 31 = .ok (.iconst 1, 1) := by decide +kernel
theorem dX11_driverShare_32 : decode cX11_driverShare 32 = .ok (.invokevirtual 79, 3) := by decide +kernel
theorem dX11_driverShare_35 : decode cX11_driverShare 35 = .ok (.ireturn, 1) := by decide +kernel
theorem dX11_complete_0 : decode cX11_complete 0 = .ok (.aload_n 0, 1) := by decide +kernel
theorem dX11_complete_1 : decode cX11_complete 1 = .ok (.iconst 0, 1) := by decide +kernel
theorem dX11_complete_2 : decode cX11_complete 2 = .ok (.putfield 61, 3) := by decide +kernel
theorem dX11_complete_5 : decode cX11_complete 5 = .ok (.aload_n 0, 1) := by decide +kernel
theorem dX11_complete_6 : decode cX11_complete 6 = .ok (.iload_n 1, 1) := by decide +kernel
theorem dX11_complete_7 : decode cX11_complete 7 = .ok (.invokevirtual 87, 3) := by decide +kernel
theorem dX11_complete_10 : decode cX11_complete 10 = .ok (.ifCond .ne 9, 3) := by decide +kernel
theorem dX11_complete_13 : decode cX11_complete 13 = .ok (.aload_n 0, 1) := by decide +kernel
theorem dX11_complete_14 : decode cX11_complete 14 = .ok (.iconst 1, 1) := by decide +kernel
theorem dX11_complete_15 : decode cX11_complete 15 = .ok (.invokevirtual 79, 3) := by decide +kernel
theorem dX11_complete_18 : decode cX11_complete 18 = .ok (.ireturn, 1) := by decide +kernel
theorem dX11_complete_19 : decode cX11_complete 19 = .ok (.aload_n 0, 1) := by decide +kernel
theorem dX11_complete_20 : decode cX11_complete 20 = .ok (.iload_n 1, 1) := by decide +kernel
theorem dX11_complete_21 : decode cX11_complete 21 = .ok (.invokevirtual 95, 3) := by decide +kernel
theorem dX11_complete_24 : decode cX11_complete 24 = .ok (.ifCond .ne 9, 3) := by decide +kernel
theorem dX11_complete_27 : decode cX11_complete 27 = .ok (.aload_n 0, 1) := by decide +kernel
theorem dX11_complete_28 : decode cX11_complete 28 = .ok (.iconst 2, 1) := by decide +kernel
theorem dX11_complete_29 : decode cX11_complete 29 = .ok (.invokevirtual 79, 3) := by decide +kernel
theorem dX11_complete_32 : decode cX11_complete 32 = .ok (.ireturn, 1) := by decide +kernel
theorem dX11_complete_33 : decode cX11_complete 33 = .ok (.iconst 0, 1) := by decide +kernel
theorem dX11_complete_34 : decode cX11_complete 34 = .ok (.istore_n 2, 1) := by decide +kernel
theorem dX11_complete_35 : decode cX11_complete 35 = .ok (.iconst 0, 1) := by decide +kernel
theorem dX11_complete_36 : decode cX11_complete 36 = .ok (.istore_n 3, 1) := by decide +kernel
theorem dX11_complete_37 : decode cX11_complete 37 = .ok (.iload_n 3, 1) := by decide +kernel
theorem dX11_complete_38 : decode cX11_complete 38 = .ok (.aload_n 0, 1) := by decide +kernel
theorem dX11_complete_39 : decode cX11_complete 39 = .ok (.getfield 7, 3) := by decide +kernel
theorem dX11_complete_42 : decode cX11_complete 42 = .ok (.iconst 2, 1) := by decide +kernel
theorem dX11_complete_43 : decode cX11_complete 43 = .ok (.iaload, 1) := by decide +kernel
theorem dX11_complete_44 : decode cX11_complete 44 = .ok (.if_icmp .ge 53, 3) := by decide +kernel
theorem dX11_complete_47 : decode cX11_complete 47 = .ok (.aload_n 0, 1) := by decide +kernel
theorem dX11_complete_48 : decode cX11_complete 48 = .ok (.iload_n 3, 1) := by decide +kernel
theorem dX11_complete_49 : decode cX11_complete 49 = .ok (.iload_n 1, 1) := by decide +kernel
theorem dX11_complete_50 : decode cX11_complete 50 = .ok (.invokevirtual 115, 3) := by decide +kernel
theorem dX11_complete_53 : decode cX11_complete 53 = .ok (.ifCond .eq 38, 3) := by decide +kernel
theorem dX11_complete_56 : decode cX11_complete 56 = .ok (.aload_n 0, 1) := by decide +kernel
theorem dX11_complete_57 : decode cX11_complete 57 = .ok (.iload_n 3, 1) := by decide +kernel
theorem dX11_complete_58 : decode cX11_complete 58 = .ok (.invokevirtual 267, 3) := by decide +kernel
theorem dX11_complete_61 : decode cX11_complete 61 = .ok (.istore 4, 2) := by decide +kernel
theorem dX11_complete_63 : decode cX11_complete 63 = .ok (.aload_n 0, 1) := by decide +kernel
theorem dX11_complete_64 : decode cX11_complete 64 = .ok (.getfield 19, 3) := by decide +kernel
theorem dX11_complete_67 : decode cX11_complete 67 = .ok (.bipush 8, 2) := by decide +kernel
theorem dX11_complete_69 : decode cX11_complete 69 = .ok (.iload_n 3, 1) := by decide +kernel
theorem dX11_complete_70 : decode cX11_complete 70 = .ok (.iadd, 1) := by decide +kernel
theorem dX11_complete_71 : decode cX11_complete 71 = .ok (.dup2, 1) := by decide +kernel
theorem dX11_complete_72 : decode cX11_complete 72 = .ok (.laload, 1) := by decide +kernel
theorem dX11_complete_73 : decode cX11_complete 73 = .ok (.iload 4, 2) := by decide +kernel
theorem dX11_complete_75 : decode cX11_complete 75 = .ok (.i2l, 1) := by decide +kernel
theorem dX11_complete_76 : decode cX11_complete 76 = .ok (.lsub, 1) := by decide +kernel
theorem dX11_complete_77 : decode cX11_complete 77 = .ok (.lastore, 1) := by decide +kernel
theorem dX11_complete_78 : decode cX11_complete 78 = .ok (.iload_n 2, 1) := by decide +kernel
theorem dX11_complete_79 : decode cX11_complete 79 = .ok (.iload 4, 2) := by decide +kernel
theorem dX11_complete_81 : decode cX11_complete 81 = .ok (.iadd, 1) := by decide +kernel
theorem dX11_complete_82 : decode cX11_complete 82 = .ok (.istore_n 2, 1) := by decide +kernel
theorem dX11_complete_83 : decode cX11_complete 83 = .ok (.aload_n 0, 1) := by decide +kernel
theorem dX11_complete_84 : decode cX11_complete 84 = .ok (.iload_n 3, 1) := by decide +kernel
theorem dX11_complete_85 : decode cX11_complete 85 = .ok (.bipush 6, 2) := by decide +kernel
theorem dX11_complete_87 : decode cX11_complete 87 = .ok (.iconst 3, 1) := by decide +kernel
theorem dX11_complete_88 : decode cX11_complete 88 = .ok (.invokevirtual 105, 3) := by decide +kernel
theorem dX11_complete_91 : decode cX11_complete 91 = .ok (.iinc 3 1, 3) := by decide +kernel
theorem dX11_complete_94 : decode cX11_complete 94 = .ok (.goto (-57), 3) := by decide +kernel
theorem dX11_complete_97 : decode cX11_complete 97 = .ok (.aload_n 0, 1) := by decide +kernel
theorem dX11_complete_98 : decode cX11_complete 98 = .ok (.getfield 19, 3) := by decide +kernel
theorem dX11_complete_101 : decode cX11_complete 101 = .ok (.iload_n 1, 1) := by decide +kernel
theorem dX11_complete_102 : decode cX11_complete 102 = .ok (.dup2, 1) := by decide +kernel
theorem dX11_complete_103 : decode cX11_complete 103 = .ok (.laload, 1) := by decide +kernel
theorem dX11_complete_104 : decode cX11_complete 104 = .ok (.iload_n 2, 1) := by decide +kernel
theorem dX11_complete_105 : decode cX11_complete 105 = .ok (.i2l, 1) := by decide +kernel
theorem dX11_complete_106 : decode cX11_complete 106 = .ok (.ladd, 1) := by decide +kernel
theorem dX11_complete_107 : decode cX11_complete 107 = .ok (.lastore, 1) := by decide +kernel
theorem dX11_complete_108 : decode cX11_complete 108 = .ok (.aload_n 0, 1) := by decide +kernel
theorem dX11_complete_109 : decode cX11_complete 109 = .ok (.iload_n 1, 1) := by decide +kernel
theorem dX11_complete_110 : decode cX11_complete 110 = .ok (.bipush 8, 2) := by decide +kernel
theorem dX11_complete_112 : decode cX11_complete 112 = .ok (.iconst 1, 1) := by decide +kernel
theorem dX11_complete_113 : decode cX11_complete 113 = .ok (.invokevirtual 75, 3) := by decide +kernel
theorem dX11_complete_116 : decode cX11_complete 116 = .ok (.iload_n 2, 1) := by decide +kernel
theorem dX11_complete_117 : decode cX11_complete 117 = .ok (.ireturn, 1) := by decide +kernel
theorem dX11_riderCredit_0 : decode cX11_riderCredit 0 = .ok (.aload_n 0, 1) := by decide +kernel
theorem dX11_riderCredit_1 : decode cX11_riderCredit 1 = .ok (.iconst 0, 1) := by decide +kernel
theorem dX11_riderCredit_2 : decode cX11_riderCredit 2 = .ok (.putfield 61, 3) := by decide +kernel
theorem dX11_riderCredit_5 : decode cX11_riderCredit 5 = .ok (.aload_n 0, 1) := by decide +kernel
theorem dX11_riderCredit_6 : decode cX11_riderCredit 6 = .ok (.iload_n 1, 1) := by decide +kernel
theorem dX11_riderCredit_7 : decode cX11_riderCredit 7 = .ok (.invokevirtual 112, 3) := by decide +kernel
theorem dX11_riderCredit_10 : decode cX11_riderCredit 10 = .ok (.ifCond .eq 15, 3) := by decide +kernel
theorem dX11_riderCredit_13 : decode cX11_riderCredit 13 = .ok (.aload_n 0, 1) := by decide +kernel
theorem dX11_riderCredit_14 : decode cX11_riderCredit 14 = .ok (.getfield 19, 3) := by decide +kernel
theorem dX11_riderCredit_17 : decode cX11_riderCredit 17 = .ok (.bipush 8, 2) := by decide +kernel
theorem dX11_riderCredit_19 : decode cX11_riderCredit 19 = .ok (.iload_n 1, 1) := by decide +kernel
theorem dX11_riderCredit_20 : decode cX11_riderCredit 20 = .ok (.iadd, 1) := by decide +kernel
theorem dX11_riderCredit_21 : decode cX11_riderCredit 21 = .ok (.laload, 1) := by decide +kernel
theorem dX11_riderCredit_22 : decode cX11_riderCredit 22 = .ok (.goto 9, 3) := by decide +kernel
theorem dX11_riderCredit_25 : decode cX11_riderCredit 25 = .ok (.aload_n 0, 1) := by decide +kernel
theorem dX11_riderCredit_26 : decode cX11_riderCredit 26 = .ok (.iconst 1, 1) := by decide +kernel
theorem dX11_riderCredit_27 : decode cX11_riderCredit 27 = .ok (.invokevirtual 79, 3) := by decide +kernel
theorem dX11_riderCredit_30 : decode cX11_riderCredit 30 = .ok (.i2l, 1) := by decide +kernel
theorem dX11_riderCredit_31 : decode cX11_riderCredit 31 = .ok (.lreturn, 1) := by decide +kernel
theorem dX11_driverCredit_0 : decode cX11_driverCredit 0 = .ok (.aload_n 0, 1) := by decide +kernel
theorem dX11_driverCredit_1 : decode cX11_driverCredit 1 = .ok (.iconst 0, 1) := by decide +kernel
theorem dX11_driverCredit_2 : decode cX11_driverCredit 2 = .ok (.putfield 61, 3) := by decide +kernel
theorem dX11_driverCredit_5 : decode cX11_driverCredit 5 = .ok (.aload_n 0, 1) := by decide +kernel
theorem dX11_driverCredit_6 : decode cX11_driverCredit 6 = .ok (.iload_n 1, 1) := by decide +kernel
theorem dX11_driverCredit_7 : decode cX11_driverCredit 7 = .ok (.invokevirtual 87, 3) := by decide +kernel
theorem dX11_driverCredit_10 : decode cX11_driverCredit 10 = .ok (.ifCond .eq 12, 3) := by decide +kernel
theorem dX11_driverCredit_13 : decode cX11_driverCredit 13 = .ok (.aload_n 0, 1) := by decide +kernel
theorem dX11_driverCredit_14 : decode cX11_driverCredit 14 = .ok (.getfield 19, 3) := by decide +kernel
theorem dX11_driverCredit_17 : decode cX11_driverCredit 17 = .ok (.iload_n 1, 1) := by decide +kernel
theorem dX11_driverCredit_18 : decode cX11_driverCredit 18 = .ok (.laload, 1) := by decide +kernel
theorem dX11_driverCredit_19 : decode cX11_driverCredit 19 = .ok (.goto 9, 3) := by decide +kernel
theorem dX11_driverCredit_22 : decode cX11_driverCredit 22 = .ok (.aload_n 0, 1) := by decide +kernel
theorem dX11_driverCredit_23 : decode cX11_driverCredit 23 = .ok (.iconst 1, 1) := by decide +kernel
theorem dX11_driverCredit_24 : decode cX11_driverCredit 24 = .ok (.invokevirtual 79, 3) := by decide +kernel
theorem dX11_driverCredit_27 : decode cX11_driverCredit 27 = .ok (.i2l, 1) := by decide +kernel
theorem dX11_driverCredit_28 : decode cX11_driverCredit 28 = .ok (.lreturn, 1) := by decide +kernel
theorem dX11_pay_0 : decode cX11_pay 0 = .ok (.aload_n 0, 1) := by decide +kernel
theorem dX11_pay_1 : decode cX11_pay 1 = .ok (.iconst 0, 1) := by decide +kernel
theorem dX11_pay_2 : decode cX11_pay 2 = .ok (.putfield 61, 3) := by decide +kernel
theorem dX11_pay_5 : decode cX11_pay 5 = .ok (.aload_n 0, 1) := by decide +kernel
theorem dX11_pay_6 : decode cX11_pay 6 = .ok (.iload_n 1, 1) := by decide +kernel
theorem dX11_pay_7 : decode cX11_pay 7 = .ok (.invokevirtual 112, 3) := by decide +kernel
theorem dX11_pay_10 : decode cX11_pay 10 = .ok (.ifCond .ne 10, 3) := by decide +kernel
theorem dX11_pay_13 : decode cX11_pay 13 = .ok (.aload_n 0, 1) := by decide +kernel
theorem dX11_pay_14 : decode cX11_pay 14 = .ok (.iconst 1, 1) := by decide +kernel
theorem dX11_pay_15 : decode cX11_pay 15 = .ok (.invokevirtual 79, 3) := by decide +kernel
theorem dX11_pay_18 : decode cX11_pay 18 = .ok (.i2l, 1) := by decide +kernel
theorem dX11_pay_19 : decode cX11_pay 19 = .ok (.lreturn, 1) := by decide +kernel
theorem dX11_pay_20 : decode cX11_pay 20 = .ok (.iload_n 2, 1) := by decide +kernel
theorem dX11_pay_21 : decode cX11_pay 21 = .ok (.sipush (-9999), 3) := by decide +kernel
theorem dX11_pay_24 : decode cX11_pay 24 = .ok (.sipush 9999, 3) := by decide +kernel
theorem dX11_pay_27 : decode cX11_pay 27 = .ok (.invokestatic 64, 3) := by decide +kernel
theorem dX11_pay_30 : decode cX11_pay 30 = .ok (.ifCond .ne 10, 3) := by decide +kernel
theorem dX11_pay_33 : decode cX11_pay 33 = .ok (.aload_n 0, 1) := by decide +kernel
theorem dX11_pay_34 : decode cX11_pay 34 = .ok (.iconst 2, 1) := by decide +kernel
theorem dX11_pay_35 : decode cX11_pay 35 = .ok (.invokevirtual 79, 3) := by decide +kernel
theorem dX11_pay_38 : decode cX11_pay 38 = .ok (.i2l, 1) := by decide +kernel
theorem dX11_pay_39 : decode cX11_pay 39 = .ok (.lreturn, 1) := by decide +kernel
theorem dX11_pay_40 : decode cX11_pay 40 = .ok (.aload_n 0, 1) := by decide +kernel
theorem dX11_pay_41 : decode cX11_pay 41 = .ok (.getfield 19, 3) := by decide +kernel
theorem dX11_pay_44 : decode cX11_pay 44 = .ok (.bipush 8, 2) := by decide +kernel
theorem dX11_pay_46 : decode cX11_pay 46 = .ok (.iload_n 1, 1) := by decide +kernel
theorem dX11_pay_47 : decode cX11_pay 47 = .ok (.iadd, 1) := by decide +kernel
theorem dX11_pay_48 : decode cX11_pay 48 = .ok (.dup2, 1) := by decide +kernel
theorem dX11_pay_49 : decode cX11_pay 49 = .ok (.laload, 1) := by decide +kernel
theorem dX11_pay_50 : decode cX11_pay 50 = .ok (.iload_n 2, 1) := by decide +kernel
theorem dX11_pay_51 : decode cX11_pay 51 = .ok (.i2l, 1) := by decide +kernel
theorem dX11_pay_52 : decode cX11_pay 52 = .ok (.ladd, 1) := by decide +kernel
theorem dX11_pay_53 : decode cX11_pay 53 = .ok (.lastore, 1) := by decide +kernel
theorem dX11_pay_54 : decode cX11_pay 54 = .ok (.aload_n 0, 1) := by decide +kernel
theorem dX11_pay_55 : decode cX11_pay 55 = .ok (.getfield 19, 3) := by decide +kernel
theorem dX11_pay_58 : decode cX11_pay 58 = .ok (.bipush 8, 2) := by decide +kernel
theorem dX11_pay_60 : decode cX11_pay 60 = .ok (.iload_n 1, 1) := by decide +kernel
theorem dX11_pay_61 : decode cX11_pay 61 = .ok (.iadd, 1) := by decide +kernel
theorem dX11_pay_62 : decode cX11_pay 62 = .ok (.laload, 1) := by decide +kernel
theorem dX11_pay_63 : decode cX11_pay 63 = .ok (.lreturn, 1) := by decide +kernel
