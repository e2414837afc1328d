theorem dX5_value_12 : decode cX5_value 12 = .ok (.invokevirtual 192, 3) := by decide +kernel
theorem dX5_value_15 : decode cX5_value 15 = .ok (.aload_n 0, 1) := by decide +kernel
theorem dX5_value_16 : decode cX5_value 16 = .ok (.iload_n 1, 1) := by decide +kernel
theorem dX5_value_17 : decode cX5_value 17 = .ok (.iload_n 2, 1) := by decide +kernel
theorem dX5_value_18 : decode cX5_value 18 = .ok (.invokevirtual 158, 3) := by decide +kernel
theorem dX5_value_21 : decode cX5_value 21 = .ok (.getfield 168, 3) := by decide +kernel
theorem dX5_value_24 : decode cX5_value 24 = .ok (.iload_n 3, 1) := by decide +kernel
theorem dX5_value_25 : decode cX5_value 25 = .ok (.laload, 1) := by decide +kernel
theorem dX5_value_26 : decode cX5_value 26 = .ok (.lreturn, 1) := by decide +kernel
theorem dX5_share_0 : decode cX5_share 0 = .ok (.iload_n 1, 1) := by decide +kernel
theorem dX5_share_1 : decode cX5_share 1 = .ok (.iload_n 2, 1) := by decide +kernel
theorem dX5_share_2 : decode cX5_share 2 = .ok (.invokestatic 151, 3) := by decide +kernel
theorem dX5_share_5 : decode cX5_share 5 = .ok (.iload_n 3, 1) := by decide +kernel
theorem dX5_share_6 : decode cX5_share 6 = .ok (.invokestatic 81, 3) := by decide +kernel
theorem dX5_share_9 : decode cX5_share 9 = .ok (.aload_n 0, 1) := by decide +kernel
theorem dX5_share_10 : decode cX5_share 10 = .ok (.iload_n 1, 1) := by decide +kernel
theorem dX5_share_11 : decode cX5_share 11 = .ok (.iload_n 2, 1) := by decide +kernel
theorem dX5_share_12 : decode cX5_share 12 = .ok (.invokevirtual 192, 3) := by decide +kernel
theorem dX5_share_15 : decode cX5_share 15 = .ok (.aload_n 0, 1) := by decide +kernel
theorem dX5_share_16 : decode cX5_share 16 = .ok (.iload_n 1, 1) := by decide +kernel
theorem dX5_share_17 : decode cX5_share 17 = .ok (.iload_n 2, 1) := by decide +kernel
theorem dX5_share_18 : decode cX5_share 18 = .ok (.invokevirtual 158, 3) := by decide +kernel
theorem dX5_share_21 : decode cX5_share 21 = .ok (.astore 4, 2) := by decide +kernel
theorem dX5_share_23 : decode cX5_share 23 = .ok (.aload 4, 2) := by decide +kernel
theorem dX5_share_25 : decode cX5_share 25 = .ok (.getfield 180, 3) := by decide +kernel
theorem dX5_share_28 : decode cX5_share 28 = .ok (.lconst 0, 1) := by decide +kernel
theorem dX5_share_29 : decode cX5_share 29 = .ok (.lcmp, 1) := by decide +kernel
theorem dX5_share_30 : decode cX5_share 30 = .ok (.ifCond .ne 5, 3) := by decide +kernel
theorem dX5_share_33 : decode cX5_share 33 = .ok (.dconst 0, 1) := by decide +kernel
theorem dX5_share_34 : decode cX5_share 34 = .ok (.dreturn, 1) := by decide +kernel
theorem dX5_share_35 : decode cX5_share 35 = .ok (.aload 4, 2) := by decide +kernel
theorem dX5_share_37 : decode cX5_share 37 = .ok (.getfield 168, 3) := by decide +kernel
theorem dX5_share_40 : decode cX5_share 40 = .ok (.iload_n 3, 1) := by decide +kernel
theorem dX5_share_41 : decode cX5_share 41 = .ok (.laload, 1) := by decide +kernel
theorem dX5_share_42 : decode cX5_share 42 = .ok (.l2d, 1) := by decide +kernel
theorem dX5_share_43 : decode cX5_share 43 = .ok (.aload 4, 2) := by decide +kernel
theorem dX5_share_45 : decode cX5_share 45 = .ok (.getfield 180, 3) := by decide +kernel
theorem dX5_share_48 : decode cX5_share 48 = .ok (.l2d, 1) := by decide +kernel
theorem dX5_share_49 : decode cX5_share 49 = .ok (.ddiv, 1) := by decide +kernel
theorem dX5_share_50 : decode cX5_share 50 = .ok (.dreturn, 1) := by decide +kernel
theorem dX5_pay_0 : decode cX5_pay 0 = .ok (.iload_n 1, 1) := by decide +kernel
theorem dX5_pay_1 : decode cX5_pay 1 = .ok (.invokestatic 195, 3) := by decide +kernel
theorem dX5_pay_4 : decode cX5_pay 4 = .ok (.iload_n 2, 1) := by decide +kernel
theorem dX5_pay_5 : decode cX5_pay 5 = .ok (.iconst 1, 1) := by decide +kernel
theorem dX5_pay_6 : decode cX5_pay 6 = .ok (.if_icmp .lt 9, 3) := by decide +kernel
theorem dX5_pay_9 : decode cX5_pay 9 = .ok (.iload_n 2, 1) := by decide +kernel
theorem dX5_pay_10 : decode cX5_pay 10 = .ok (.ldc 155, 2) := by decide +kernel
theorem dX5_pay_12 : decode cX5_pay 12 = .ok (.if_icmp .le 13, 3) := by decide +kernel
theorem dX5_pay_15 : decode cX5_pay 15 = .ok (.new 89, 3) := by decide +kernel
theorem dX5_pay_18 : decode cX5_pay 18 = .ok (.dup, 1) := by decide +kernel
theorem dX5_pay_19 : decode cX5_pay 19 = .ok (.ldc 198, 2) := by decide +kernel
theorem dX5_pay_21 : decode cX5_pay 21 = .ok (.invokespecial 93, 3) := by decide +kernel
theorem dX5_pay_24 : decode cX5_pay 24 = .ok (.athrow, 1) := by decide +kernel
theorem dX5_pay_25 : decode cX5_pay 25 = .ok (.aload_n 0, 1) := by decide +kernel
theorem dX5_pay_26 : decode cX5_pay 26 = .ok (.getfield 32, 3) := by decide +kernel
theorem dX5_pay_29 : decode cX5_pay 29 = .ok (.iload_n 1, 1) := by decide +kernel
theorem dX5_pay_30 : decode cX5_pay 30 = .ok (.aaload, 1) := by decide +kernel
theorem dX5_pay_31 : decode cX5_pay 31 = .ok (.astore_n 3, 1) := by decide +kernel
theorem dX5_pay_32 : decode cX5_pay 32 = .ok (.aload_n 3, 1) := by decide +kernel
theorem dX5_pay_33 : decode cX5_pay 33 = .ok (.invokevirtual 165, 3) := by decide +kernel
theorem dX5_pay_36 : decode cX5_pay 36 = .ok (.ifCond .eq 13, 3) := by decide +kernel
theorem dX5_pay_39 : decode cX5_pay 39 = .ok (.new 127, 3) := by decide +kernel
theorem dX5_pay_42 : decode cX5_pay 42 = .ok (.dup, 1) := by decide +kernel
theorem dX5_pay_43 : decode cX5_pay 43 = .ok (.ldc 200, 2) := by decide +kernel
theorem dX5_pay_45 : decode cX5_pay 45 = .ok (.invokespecial 131, 3) := by decide +kernel
theorem dX5_pay_48 : decode cX5_pay 48 = .ok (.athrow, 1) := by decide +kernel
theorem dX5_pay_49 : decode cX5_pay 49 = .ok (.aload_n 3, 1) := by decide +kernel
theorem dX5_pay_50 : decode cX5_pay 50 = .ok (.iconst 1, 1) := by decide +kernel
theorem dX5_pay_51 : decode cX5_pay 51 = .ok (.iconst (-1), 1) := by decide +kernel
theorem dX5_pay_52 : decode cX5_pay 52 = .ok (.iload_n 2, 1) := by decide +kernel
theorem dX5_pay_53 : decode cX5_pay 53 = .ok (.ineg, 1) := by decide +kernel
theorem dX5_pay_54 : decode cX5_pay 54 = .ok (.i2l, 1) := by decide +kernel
theorem dX5_pay_55 : decode cX5_pay 55 = .ok (.invokevirtual 184, 3) := by decide +kernel
theorem dX5_pay_58 : decode cX5_pay 58 = .ok (.aload_n 3, 1) := by decide +kernel
theorem dX5_pay_59 : decode cX5_pay 59 = .ok (.getfield 202, 3) := by decide +kernel
theorem dX5_pay_62 : decode cX5_pay 62 = .ok (.lreturn, 1) := by decide +kernel
theorem dX5_interest_0 : decode cX5_interest 0 = .ok (.iload_n 1, 1) := by decide +kernel
theorem dX5_interest_1 : decode cX5_interest 1 = .ok (.ifCond .lt 9, 3) := by decide +kernel
theorem dX5_interest_4 : decode cX5_interest 4 = .ok (.iload_n 1, 1) := by decide +kernel
theorem dX5_interest_5 : decode cX5_interest 5 = .ok (.bipush 30, 2) := by decide +kernel
theorem dX5_interest_7 : decode cX5_interest 7 = .ok (.if_icmp .le 13, 3) := by decide +kernel
theorem dX5_interest_10 : decode cX5_interest 10 = .ok (.new 89, 3) := by decide +kernel
theorem dX5_interest_13 : decode cX5_interest 13 = .ok (.dup, 1) := by decide +kernel
theorem dX5_interest_14 : decode cX5_interest 14 = .ok (.ldc 205, 2) := by decide +kernel
theorem dX5_interest_16 : decode cX5_interest 16 = .ok (.invokespecial 93, 3) := by decide +kernel
theorem dX5_interest_19 : decode cX5_interest 19 = .ok (.athrow, 1) := by decide +kernel
theorem dX5_interest_20 : decode cX5_interest 20 = .ok (.aload_n 0, 1) := by decide +kernel
theorem dX5_interest_21 : decode cX5_interest 21 = .ok (.getfield 57, 3) := by decide +kernel
theorem dX5_interest_24 : decode cX5_interest 24 = .ok (.istore_n 2, 1) := by decide +kernel
theorem dX5_interest_25 : decode cX5_interest 25 = .ok (.aload_n 0, 1) := by decide +kernel
theorem dX5_interest_26 : decode cX5_interest 26 = .ok (.iload_n 1, 1) := by decide +kernel
theorem dX5_interest_27 : decode cX5_interest 27 = .ok (.putfield 57, 3) := by decide +kernel
theorem dX5_interest_30 : decode cX5_interest 30 = .ok (.iload_n 2, 1) := by decide +kernel
theorem dX5_interest_31 : decode cX5_interest 31 = .ok (.ireturn, 1) := by decide +kernel
theorem dX5_pass_0 : decode cX5_pass 0 = .ok (.iload_n 1, 1) := by decide +kernel
theorem dX5_pass_1 : decode cX5_pass 1 = .ok (.iconst 1, 1) := by decide +kernel
theorem dX5_pass_2 : decode cX5_pass 2 = .ok (.if_icmp .lt 10, 3) := by decide +kernel
theorem dX5_pass_5 : decode cX5_pass 5 = .ok (.iload_n 1, 1) := by decide +kernel
theorem dX5_pass_6 : decode cX5_pass 6 = .ok (.sipush 1000, 3) := by decide +kernel
theorem dX5_pass_9 : decode cX5_pass 9 = .ok (.if_icmp .le 13, 3) := by decide +kernel
theorem dX5_pass_12 : decode cX5_pass 12 = .ok (.new 89, 3) := by decide +kernel
theorem dX5_pass_15 : decode cX5_pass 15 = .ok (.dup, 1) := by decide +kernel
theorem dX5_pass_16 : decode cX5_pass 16 = .ok (.ldc 207, 2) := by decide +kernel
theorem dX5_pass_18 : decode cX5_pass 18 = .ok (.invokespecial 93, 3) := by decide +kernel
theorem dX5_pass_21 : decode cX5_pass 21 = .ok (.athrow, 1) := by decide +kernel
theorem dX5_pass_22 : decode cX5_pass 22 = .ok (.aload_n 0, 1) := by decide +kernel
theorem dX5_pass_23 : decode cX5_pass 23 = .ok (.getfield 57, 3) := by decide +kernel
theorem dX5_pass_26 : decode cX5_pass 26 = .ok (.iload_n 1, 1) := by decide +kernel
theorem dX5_pass_27 : decode cX5_pass 27 = .ok (.imul, 1) := by decide +kernel
theorem dX5_pass_28 : decode cX5_pass 28 = .ok (.istore_n 2, 1) := by decide +kernel
theorem dX5_pass_29 : decode cX5_pass 29 = .ok (.aload_n 0, 1) := by decide +kernel
theorem dX5_pass_30 : decode cX5_pass 30 = .ok (.getfield 32, 3) := by decide +kernel
theorem dX5_pass_33 : decode cX5_pass 33 = .ok (.astore_n 3, 1) := by decide +kernel
theorem dX5_pass_34 : decode cX5_pass 34 = .ok (.aload_n 3, 1) := by decide +kernel
theorem dX5_pass_35 : decode cX5_pass 35 = .ok (.arraylength, 1) := by decide +kernel
theorem dX5_pass_36 : decode cX5_pass 36 = .ok (.istore 4, 2) := by decide +kernel
theorem dX5_pass_38 : decode cX5_pass 38 = .ok (.iconst 0, 1) := by decide +kernel
theorem dX5_pass_39 : decode cX5_pass 39 = .ok (.istore 5, 2) := by decide +kernel
theorem dX5_pass_41 : decode cX5_pass 41 = .ok (.iload 5, 2) := by decide +kernel
theorem dX5_pass_43 : decode cX5_pass 43 = .ok (.iload 4, 2) := by decide +kernel
theorem dX5_pass_45 : decode cX5_pass 45 = .ok (.if_icmp .ge 44, 3) := by decide +kernel
theorem dX5_pass_48 : decode cX5_pass 48 = .ok (.aload_n 3, 1) := by decide +kernel
theorem dX5_pass_49 : decode cX5_pass 49 = .ok (.iload 5, 2) := by decide +kernel
theorem dX5_pass_51 : decode cX5_pass 51 = .ok (.aaload, 1) := by decide +kernel
theorem dX5_pass_52 : decode cX5_pass 52 = .ok (.astore 6, 2) := by decide +kernel
theorem dX5_pass_54 : decode cX5_pass 54 = .ok (.aload 6, 2) := by decide +kernel
theorem dX5_pass_56 : decode cX5_pass 56 = .ok (.invokevirtual 165, 3) := by decide +kernel
theorem dX5_pass_59 : decode cX5_pass 59 = .ok (.ifCond .eq 24, 3) := by decide +kernel
theorem dX5_pass_62 : decode cX5_pass 62 = .ok (.aload 6, 2) := by decide +kernel
theorem dX5_pass_64 : decode cX5_pass 64 = .ok (.iload_n 2, 1) := by decide +kernel
theorem dX5_pass_65 : decode cX5_pass 65 = .ok (.invokevirtual 209, 3) := by decide +kernel
theorem dX5_pass_68 : decode cX5_pass 68 = .ok (.lconst 0, 1) := by decide +kernel
theorem dX5_pass_69 : decode cX5_pass 69 = .ok (.lcmp, 1) := by decide +kernel
theorem dX5_pass_70 : decode cX5_pass 70 = .ok (.ifCond .eq 13, 3) := by decide +kernel
theorem dX5_pass_73 : decode cX5_pass 73 = .ok (.new 127, 3) := by decide +kernel
theorem dX5_pass_76 : decode cX5_pass 76 = .ok (.dup, 1) := by decide +kernel
theorem dX5_pass_77 : decode cX5_pass 77 = .ok (.ldc 213, 2) := by decide +kernel
theorem dX5_pass_79 : decode cX5_pass 79 = .ok (.invokespecial 131, 3) := by decide +kernel
theorem dX5_pass_82 : decode cX5_pass 82 = .ok (.athrow, 1) := by decide +kernel
theorem dX5_pass_83 : decode cX5_pass 83 = .ok (.iinc 5 1, 3) := by decide +kernel
theorem dX5_pass_86 : decode cX5_pass 86 = .ok (.goto (-45), 3) := by decide +kernel
theorem dX5_pass_89 : decode cX5_pass 89 = .ok (.iconst 0, 1) := by decide +kernel
theorem dX5_pass_90 : decode cX5_pass 90 = .ok (.istore_n 3, 1) := by decide +kernel
theorem dX5_pass_91 : decode cX5_pass 91 = .ok (.aload_n 0, 1) := by decide +kernel
theorem dX5_pass_92 : decode cX5_pass 92 = .ok (.getfield 32, 3) := by decide +kernel
theorem dX5_pass_95 : decode cX5_pass 95 = .ok (.astore 4, 2) := by decide +kernel
theorem dX5_pass_97 : decode cX5_pass 97 = .ok (.aload 4, 2) := by decide +kernel
theorem dX5_pass_99 : decode cX5_pass 99 = .ok (.arraylength, 1) := by decide +kernel
theorem dX5_pass_100 : decode cX5_pass 100 = .ok (.istore 5, 2) := by decide +kernel
theorem dX5_pass_102 : decode cX5_pass 102 = .ok (.iconst 0, 1) := by decide +kernel
theorem dX5_pass_103 : decode cX5_pass 103 = .ok (.istore 6, 2) := by decide +kernel
theorem dX5_pass_105 : decode cX5_pass 105 = .ok (.iload 6, 2) := by decide +kernel
theorem dX5_pass_107 : decode cX5_pass 107 = .ok (.iload 5, 2) := by decide +kernel
theorem dX5_pass_109 : decode cX5_pass 109 = .ok (.if_icmp .ge 43, 3) := by decide +kernel
theorem dX5_pass_112 : decode cX5_pass 112 = .ok (.aload 4, 2) := by decide +kernel
theorem dX5_pass_114 : decode cX5_pass 114 = .ok (.iload 6, 2) := by decide +kernel
theorem dX5_pass_116 : decode cX5_pass 116 = .ok (.aaload, 1) := by decide +kernel
theorem dX5_pass_117 : decode cX5_pass 117 = .ok (.astore 7, 2) := by decide +kernel
theorem dX5_pass_119 : decode cX5_pass 119 = .ok (.aload 7, 2) := by decide +kernel
theorem dX5_pass_121 : decode cX5_pass 121 = .ok (.iload_n 2, 1) := by decide +kernel
theorem dX5_pass_122 : decode cX5_pass 122 = .ok (.invokevirtual 209, 3) := by decide +kernel
theorem dX5_pass_125 : decode cX5_pass 125 = .ok (.lstore 8, 2) := by decide +kernel
theorem dX5_pass_127 : decode cX5_pass 127 = .ok (.lload 8, 2) := by decide +kernel
theorem dX5_pass_129 : decode cX5_pass 129 = .ok (.lconst 0, 1) := by decide +kernel
theorem dX5_pass_130 : decode cX5_pass 130 = .ok (.lcmp, 1) := by decide +kernel
theorem dX5_pass_131 : decode cX5_pass 131 = .ok (.ifCond .eq 15, 3) := by decide +kernel
theorem dX5_pass_134 : decode cX5_pass 134 = .ok (.aload 7, 2) := by decide +kernel
theorem dX5_pass_136 : decode cX5_pass 136 = .ok (.iconst 2, 1) := by decide +kernel
theorem dX5_pass_137 : decode cX5_pass 137 = .ok (.iconst (-1), 1) := by decide +kernel
theorem dX5_pass_138 : decode cX5_pass 138 = .ok (.lload 8, 2) := by decide +kernel
theorem dX5_pass_140 : decode cX5_pass 140 = .ok (.invokevirtual 184, 3) := by decide +kernel
theorem dX5_pass_143 : decode cX5_pass 143 = .ok (.iinc 3 1, 3) := by decide +kernel
theorem dX5_pass_146 : decode cX5_pass 146 = .ok (.iinc 6 1, 3) := by decide +kernel
theorem dX5_pass_149 : decode cX5_pass 149 = .ok (.goto (-44), 3) := by decide +kernel
theorem dX5_pass_152 : decode cX5_pass 152 = .ok (.iload_n 3, 1) := by decide +kernel
theorem dX5_pass_153 : decode cX5_pass 153 = .ok (.ireturn, 1) := by decide +kernel
theorem dX5_balance_0 : decode cX5_balance 0 = .ok (.iload_n 1, 1) := by decide +kernel
theorem dX5_balance_1 : decode cX5_balance 1 = .ok (.invokestatic 195, 3) := by decide +kernel
theorem dX5_balance_4 : decode cX5_balance 4 = .ok (.aload_n 0, 1) := by decide +kernel
theorem dX5_balance_5 : decode cX5_balance 5 = .ok (.getfield 32, 3) := by decide +kernel
theorem dX5_balance_8 : decode cX5_balance 8 = .ok (.iload_n 1, 1) := by decide +kernel
theorem dX5_balance_9 : decode cX5_balance 9 = .ok (.aaload, 1) := by decide +kernel
theorem dX5_balance_10 : decode cX5_balance 10 = .ok (.getfield 202, 3) := by decide +kernel
theorem dX5_balance_13 : decode cX5_balance 13 = .ok (.lreturn, 1) := by decide +kernel
theorem dX5_posting_0 : decode cX5_posting 0 = .ok (.iload_n 1, 1) := by decide +kernel
theorem dX5_posting_1 : decode cX5_posting 1 = .ok (.invokestatic 195, 3) := by decide +kernel
theorem dX5_posting_4 : decode cX5_posting 4 = .ok (.aload_n 0, 1) := by decide +kernel
theorem dX5_posting_5 : decode cX5_posting 5 = .ok (.getfield 32, 3) := by decide +kernel
theorem dX5_posting_8 : decode cX5_posting 8 = .ok (.iload_n 1, 1) := by decide +kernel
theorem dX5_posting_9 : decode cX5_posting 9 = .ok (.aaload, 1) := by decide +kernel
theorem dX5_posting_10 : decode cX5_posting 10 = .ok (.astore 4, 2) := by decide +kernel
theorem dX5_posting_12 : decode cX5_posting 12 = .ok (.iload_n 2, 1) := by decide +kernel
theorem dX5_posting_13 : decode cX5_posting 13 = .ok (.ifCond .lt 21, 3) := by decide +kernel
theorem dX5_posting_16 : decode cX5_posting 16 = .ok (.iload_n 2, 1) := by decide +kernel
theorem dX5_posting_17 : decode cX5_posting 17 = .ok (.aload 4, 2) := by decide +kernel
theorem dX5_posting_19 : decode cX5_posting 19 = .ok (.getfield 215, 3) := by decide +kernel
theorem dX5_posting_22 : decode cX5_posting 22 = .ok (.if_icmp .ge 12, 3) := by decide +kernel
theorem dX5_posting_25 : decode cX5_posting 25 = .ok (.iload_n 3, 1) := by decide +kernel
theorem dX5_posting_26 : decode cX5_posting 26 = .ok (.ifCond .lt 8, 3) := by decide +kernel
theorem dX5_posting_29 : decode cX5_posting 29 = .ok (.iload_n 3, 1) := by decide +kernel
theorem dX5_posting_30 : decode cX5_posting 30 = .ok (.iconst 2, 1) := by decide +kernel
theorem dX5_posting_31 : decode cX5_posting 31 = .ok (.if_icmp .le 13, 3) := by decide +kernel
theorem dX5_posting_34 : decode cX5_posting 34 = .ok (.new 89, 3) := by decide +kernel
theorem dX5_posting_37 : decode cX5_posting 37 = .ok (.dup, 1) := by decide +kernel
theorem dX5_posting_38 : decode cX5_posting 38 = .ok (.ldc 216, 2) := by decide +kernel
theorem dX5_posting_40 : decode cX5_posting 40 = .ok (.invokespecial 93, 3) := by decide +kernel
theorem dX5_posting_43 : decode cX5_posting 43 = .ok (.athrow, 1) := by decide +kernel
theorem dX5_posting_44 : decode cX5_posting 44 = .ok (.iload_n 3, 1) := by decide +kernel
theorem dX5_posting_45 : decode cX5_posting 45 = .ok (.ifCond .ne 12, 3) := by decide +kernel
theorem dX5_posting_48 : decode cX5_posting 48 = .ok (.aload 4, 2) := by decide +kernel
theorem dX5_posting_50 : decode cX5_posting 50 = .ok (.getfield 218, 3) := by decide +kernel
theorem dX5_posting_53 : decode cX5_posting 53 = .ok (.iload_n 2, 1) := by decide +kernel
theorem dX5_posting_54 : decode cX5_posting 54 = .ok (.iaload, 1) := by decide +kernel
theorem dX5_posting_55 : decode cX5_posting 55 = .ok (.i2l, 1) := by decide +kernel
theorem dX5_posting_56 : decode cX5_posting 56 = .ok (.lreturn, 1) := by decide +kernel
theorem dX5_posting_57 : decode cX5_posting 57 = .ok (.iload_n 3, 1) := by decide +kernel
theorem dX5_posting_58 : decode cX5_posting 58 = .ok (.iconst 1, 1) := by decide +kernel
theorem dX5_posting_59 : decode cX5_posting 59 = .ok (.if_icmp .ne 14, 3) := by decide +kernel
theorem dX5_posting_62 : decode cX5_posting 62 = .ok (.aload 4, 2) := by decide +kernel
theorem dX5_posting_64 : decode cX5_posting 64 = .ok (.getfield 221, 3) := by decide +kernel
theorem dX5_posting_67 : decode cX5_posting 67 = .ok (.iload_n 2, 1) := by decide +kernel
theorem dX5_posting_68 : decode cX5_posting 68 = .ok (.iaload, 1) := by decide +kernel
theorem dX5_posting_69 : decode cX5_posting 69 = .ok (.i2l, 1) := by decide +kernel
theorem dX5_posting_70 : decode cX5_posting 70 = .ok (.goto 10, 3) := by decide +kernel
theorem dX5_posting_73 : decode cX5_posting 73 = .ok (.aload 4, 2) := by decide +kernel
theorem dX5_posting_75 : decode cX5_posting 75 = .ok (.getfield 224, 3) := by decide +kernel
theorem dX5_posting_78 : decode cX5_posting 78 = .ok (.iload_n 2, 1) := by decide +kernel
theorem dX5_posting_79 : decode cX5_posting 79 = .ok (.laload, 1) := by decide +kernel
theorem dX5_posting_80 : decode cX5_posting 80 = .ok (.lreturn, 1) := by decide +kernel
theorem dX5_requireLine_0 : decode cX5_requireLine 0 = .ok (.iload_n 0, 1) := by decide +kernel
theorem dX5_requireLine_1 : decode cX5_requireLine 1 = .ok (.ifCond .lt 9, 3) := by decide +kernel
theorem dX5_requireLine_4 : decode cX5_requireLine 4 = .ok (.iload_n 0, 1) := by decide +kernel
theorem dX5_requireLine_5 : decode cX5_requireLine 5 = .ok (.bipush 12, 2) := by decide +kernel
theorem dX5_requireLine_7 : decode cX5_requireLine 7 = .ok (.if_icmp .lt 13, 3) := by decide +kernel
theorem dX5_requireLine_10 : decode cX5_requireLine 10 = .ok (.new 227, 3) := by decide +kernel
theorem dX5_requireLine_13 : decode cX5_requireLine 13 = .ok (.dup, 1) := by decide +kernel
theorem dX5_requireLine_14 : decode cX5_requireLine 14 = .ok (.ldc 229, 2) := by decide +kernel
theorem dX5_requireLine_16 : decode cX5_requireLine 16 = .ok (.invokespecial 231, 3) := by decide +kernel
theorem dX5_requireLine_19 : decode cX5_requireLine 19 = .ok (.athrow, 1) := by decide +kernel
theorem dX5_requireLine_20 : decode cX5_requireLine 20 = .ok (.return_, 1) := by decide +kernel
theorem dX5_requireTable_0 : decode cX5_requireTable 0 = .ok (.iload_n 0, 1) := by decide +kernel
theorem dX5_requireTable_1 : decode cX5_requireTable 1 = .ok (.ifCond .lt 8, 3) := by decide +kernel
theorem dX5_requireTable_4 : decode cX5_requireTable 4 = .ok (.iload_n 0, 1) := by decide +kernel
theorem dX5_requireTable_5 : decode cX5_requireTable 5 = .ok (.iconst 3, 1) := by decide +kernel
theorem dX5_requireTable_6 : decode cX5_requireTable 6 = .ok (.if_icmp .lt 13, 3) := by decide +kernel
theorem dX5_requireTable_9 : decode cX5_requireTable 9 = .ok (.new 227, 3) := by decide +kernel
theorem dX5_requireTable_12 : decode cX5_requireTable 12 = .ok (.dup, 1) := by decide +kernel
theorem dX5_requireTable_13 : decode cX5_requireTable 13 = .ok (.ldc 232, 2) := by decide +kernel
theorem dX5_requireTable_15 : decode cX5_requireTable 15 = .ok (.invokespecial 231, 3) := by decide +kernel
theorem dX5_requireTable_18 : decode cX5_requireTable 18 = .ok (.athrow, 1) := by decide +kernel
theorem dX5_requireTable_19 : decode cX5_requireTable 19 = .ok (.return_, 1) := by decide +kernel
theorem dX5_requireTaxpayer_0 : decode cX5_requireTaxpayer 0 = .ok (.iload_n 0, 1) := by decide +kernel
theorem dX5_requireTaxpayer_1 : decode cX5_requireTaxpayer 1 = .ok (.ifCond .lt 8, 3) := by decide +kernel
theorem dX5_requireTaxpayer_4 : decode cX5_requireTaxpayer 4 = .ok (.iload_n 0, 1) := by decide +kernel
theorem dX5_requireTaxpayer_5 : decode cX5_requireTaxpayer 5 = .ok (.iconst 3, 1) := by decide +kernel
theorem dX5_requireTaxpayer_6 : decode cX5_requireTaxpayer 6 = .ok (.if_icmp .lt 13, 3) := by decide +kernel
theorem dX5_requireTaxpayer_9 : decode cX5_requireTaxpayer 9 = .ok (.new 227, 3) := by decide +kernel
theorem dX5_requireTaxpayer_12 : decode cX5_requireTaxpayer 12 = .ok (.dup, 1) := by decide +kernel
theorem dX5_requireTaxpayer_13 : decode cX5_requireTaxpayer 13 = .ok (.ldc 234, 2) := by decide +kernel
theorem dX5_requireTaxpayer_15 : decode cX5_requireTaxpayer 15 = .ok (.invokespecial 231, 3) := by decide +kernel
theorem dX5_requireTaxpayer_18 : decode cX5_requireTaxpayer 18 = .ok (.athrow, 1) := by decide +kernel
theorem dX5_requireTaxpayer_19 : decode cX5_requireTaxpayer 19 = .ok (.return_, 1) := by decide +kernel
theorem dX5_requireReturn_0 : decode cX5_requireReturn 0 = .ok (.iload_n 0, 1) := by decide +kernel
theorem dX5_requireReturn_1 : decode cX5_requireReturn 1 = .ok (.invokestatic 195, 3) := by decide +kernel
theorem dX5_requireReturn_4 : decode cX5_requireReturn 4 = .ok (.iload_n 1, 1) := by decide +kernel
theorem dX5_requireReturn_5 : decode cX5_requireReturn 5 = .ok (.ifCond .lt 8, 3) := by decide +kernel
theorem dX5_requireReturn_8 : decode cX5_requireReturn 8 = .ok (.iload_n 1, 1) := by decide +kernel
theorem dX5_requireReturn_9 : decode cX5_requireReturn 9 = .ok (.iconst 4, 1) := by decide +kernel
theorem dX5_requireReturn_10 : decode cX5_requireReturn 10 = .ok (.if_icmp .lt 13, 3) := by decide +kernel
theorem dX5_requireReturn_13 : decode cX5_requireReturn 13 = .ok (.new 227, 3) := by decide +kernel
theorem dX5_requireReturn_16 : decode cX5_requireReturn 16 = .ok (.dup, 1) := by decide +kernel
theorem dX5_requireReturn_17 : decode cX5_requireReturn 17 = .ok (.ldc 236, 2) := by decide +kernel
theorem dX5_requireReturn_19 : decode cX5_requireReturn 19 = .ok (.invokespecial 231, 3) := by decide +kernel
theorem dX5_requireReturn_22 : decode cX5_requireReturn 22 = .ok (.athrow, 1) := by decide +kernel
theorem dX5_requireReturn_23 : decode cX5_requireReturn 23 = .ok (.return_, 1) := by decide +kernel
theorem dX5_requireAssessed_0 : decode cX5_requireAssessed 0 = .ok (.aload_n 0, 1) := by decide +kernel
theorem dX5_requireAssessed_1 : decode cX5_requireAssessed 1 = .ok (.iload_n 1, 1) := by decide +kernel
theorem dX5_requireAssessed_2 : decode cX5_requireAssessed 2 = .ok (.iload_n 2, 1) := by decide +kernel
theorem dX5_requireAssessed_3 : decode cX5_requireAssessed 3 = .ok (.invokevirtual 158, 3) := by decide +kernel
theorem dX5_requireAssessed_6 : decode cX5_requireAssessed 6 = .ok (.getfield 238, 3) := by decide +kernel
theorem dX5_requireAssessed_9 : decode cX5_requireAssessed 9 = .ok (.ifCond .ne 13, 3) := by decide +kernel
theorem dX5_requireAssessed_12 : decode cX5_requireAssessed 12 = .ok (.new 127, 3) := by decide +kernel
theorem dX5_requireAssessed_15 : decode cX5_requireAssessed 15 = .ok (.dup, 1) := by decide +kernel
theorem dX5_requireAssessed_16 : decode cX5_requireAssessed 16 = .ok (.ldc 242, 2) := by decide +kernel
theorem dX5_requireAssessed_18 : decode cX5_requireAssessed 18 = .ok (.invokespecial 131, 3) := by decide +kernel
theorem dX5_requireAssessed_21 : decode cX5_requireAssessed 21 = .ok (.athrow, 1) := by decide +kernel
theorem dX5_requireAssessed_22 : decode cX5_requireAssessed 22 = .ok (.return_, 1) := by decide +kernel
theorem dX5_returnOf_0 : decode cX5_returnOf 0 = .ok (.aload_n 0, 1) := by decide +kernel
theorem dX5_returnOf_1 : decode cX5_returnOf 1 = .ok (.getfield 26, 3) := by decide +kernel
theorem dX5_returnOf_4 : decode cX5_returnOf 4 = .ok (.iload_n 1, 1) := by decide +kernel
theorem dX5_returnOf_5 : decode cX5_returnOf 5 = .ok (.iconst 4, 1) := by decide +kernel
theorem dX5_returnOf_6 : decode cX5_returnOf 6 = .ok (.imul, 1) := by decide +kernel
theorem dX5_returnOf_7 : decode cX5_returnOf 7 = .ok (.iload_n 2, 1) := by decide +kernel
theorem dX5_returnOf_8 : decode cX5_returnOf 8 = .ok (.iadd, 1) := by decide +kernel
theorem dX5_returnOf_9 : decode cX5_returnOf 9 = .ok (.aaload, 1) := by decide +kernel
theorem dX5_returnOf_10 : decode cX5_returnOf 10 = .ok (.areturn, 1) := by decide +kernel
theorem dX5_hasFormula_0 : decode cX5_hasFormula 0 = .ok (.aload_n 0, 1) := by decide +kernel
theorem dX5_hasFormula_1 : decode cX5_hasFormula 1 = .ok (.getfield 16, 3) := by decide +kernel
theorem dX5_hasFormula_4 : decode cX5_hasFormula 4 = .ok (.iload_n 1, 1) := by decide +kernel
theorem dX5_hasFormula_5 : decode cX5_hasFormula 5 = .ok (.aaload, 1) := by decide +kernel
theorem dX5_hasFormula_6 : decode cX5_hasFormula 6 = .ok (.getfield 78, 3) := by decide +kernel
theorem dX5_hasFormula_9 : decode cX5_hasFormula 9 = .ok (.ifCond .le 7, 3) := by decide +kernel
theorem dX5_hasFormula_12 : decode cX5_hasFormula 12 = .ok (.iconst 1, 1) := by decide +kernel
theorem dX5_hasFormula_13 : decode cX5_hasFormula 13 = .ok (.goto 4, 3) := by decide +kernel
theorem dX5_hasFormula_16 : decode cX5_hasFormula 16 = .ok (.iconst 0, 1) := by decide +kernel
theorem dX5_hasFormula_17 : decode cX5_hasFormula 17 = .ok (.ireturn, 1) := by decide +kernel
theorem dX5_arrangeLines_0 : decode cX5_arrangeLines 0 = .ok (.iconst 0, 1) := by decide +kernel
theorem dX5_arrangeLines_1 : decode cX5_arrangeLines 1 = .ok (.istore_n 1, 1) := by decide +kernel
theorem dX5_arrangeLines_2 : decode cX5_arrangeLines 2 = .ok (.iconst 0, 1) := by decide +kernel
theorem dX5_arrangeLines_3 : decode cX5_arrangeLines 3 = .ok (.istore_n 2, 1) := by decide +kernel
theorem dX5_arrangeLines_4 : decode cX5_arrangeLines 4 = .ok (.iload_n 2, 1) := by decide +kernel
theorem dX5_arrangeLines_5 : decode cX5_arrangeLines 5 = .ok (.bipush 12, 2) := by decide +kernel
theorem dX5_arrangeLines_7 : decode cX5_arrangeLines 7 = .ok (.if_icmp .ge 36, 3) := by decide +kernel
theorem dX5_arrangeLines_10 : decode cX5_arrangeLines 10 = .ok (.aload_n 0, 1) := by decide +kernel
theorem dX5_arrangeLines_11 : decode cX5_arrangeLines 11 = .ok (.iload_n 1, 1) := by decide +kernel
theorem dX5_arrangeLines_12 : decode cX5_arrangeLines 12 = .ok (.invokevirtual 244, 3) := by decide +kernel
theorem dX5_arrangeLines_15 : decode cX5_arrangeLines 15 = .ok (.istore_n 3, 1) := by decide +kernel
theorem dX5_arrangeLines_16 : decode cX5_arrangeLines 16 = .ok (.iload_n 3, 1) := by decide +kernel
theorem dX5_arrangeLines_17 : decode cX5_arrangeLines 17 = .ok (.bipush 12, 2) := by decide +kernel
theorem dX5_arrangeLines_19 : decode cX5_arrangeLines 19 = .ok (.if_icmp .ne 5, 3) := by decide +kernel
theorem dX5_arrangeLines_22 : decode cX5_arrangeLines 22 = .ok (.iload_n 2, 1) := by decide +kernel
theorem dX5_arrangeLines_23 : decode cX5_arrangeLines 23 = .ok (.ireturn, 1) := by decide +kernel
theorem dX5_arrangeLines_24 : decode cX5_arrangeLines 24 = .ok (.aload_n 0, 1) := by decide +kernel
theorem dX5_arrangeLines_25 : decode cX5_arrangeLines 25 = .ok (.getfield 43, 3) := by decide +kernel
theorem dX5_arrangeLines_28 : decode cX5_arrangeLines 28 = .ok (.iload_n 2, 1) := by decide +kernel
theorem dX5_arrangeLines_29 : decode cX5_arrangeLines 29 = .ok (.iload_n 3, 1) := by decide +kernel
theorem dX5_arrangeLines_30 : decode cX5_arrangeLines 30 = .ok (.iastore, 1) := by decide +kernel
theorem dX5_arrangeLines_31 : decode cX5_arrangeLines 31 = .ok (.iload_n 1, 1) := by decide +kernel
theorem dX5_arrangeLines_32 : decode cX5_arrangeLines 32 = .ok (.iconst 1, 1) := by decide +kernel
theorem dX5_arrangeLines_33 : decode cX5_arrangeLines 33 = .ok (.iload_n 3, 1) := by decide +kernel
theorem dX5_arrangeLines_34 : decode cX5_arrangeLines 34 = .ok (.ishl, 1) := by decide +kernel
theorem dX5_arrangeLines_35 : decode cX5_arrangeLines 35 = .ok (.ior, 1) := by decide +kernel
theorem dX5_arrangeLines_36 : decode cX5_arrangeLines 36 = .ok (.istore_n 1, 1) := by decide +kernel
theorem dX5_arrangeLines_37 : decode cX5_arrangeLines 37 = .ok (.iinc 2 1, 3) := by decide +kernel
theorem dX5_arrangeLines_40 : decode cX5_arrangeLines 40 = .ok (.goto (-36), 3) := by decide +kernel
theorem dX5_arrangeLines_43 : decode cX5_arrangeLines 43 = .ok (.bipush 12, 2) := by decide +kernel
theorem dX5_arrangeLines_45 : decode cX5_arrangeLines 45 = .ok (.ireturn, 1) := by decide +kernel
theorem dX5_lowestReady_0 : decode cX5_lowestReady 0 = .ok (.iconst 0, 1) := by decide +kernel
theorem dX5_lowestReady_1 : decode cX5_lowestReady 1 = .ok (.istore_n 2, 1) := by decide +kernel
theorem dX5_lowestReady_2 : decode cX5_lowestReady 2 = .ok (.iload_n 2, 1) := by decide +kernel
theorem dX5_lowestReady_3 : decode cX5_lowestReady 3 = .ok (.bipush 12, 2) := by decide +kernel
theorem dX5_lowestReady_5 : decode cX5_lowestReady 5 = .ok (.if_icmp .ge 32, 3) := by decide +kernel
theorem dX5_lowestReady_8 : decode cX5_lowestReady 8 = .ok (.iload_n 1, 1) := by decide +kernel
theorem dX5_lowestReady_9 : decode cX5_lowestReady 9 = .ok (.iconst 1, 1) := by decide +kernel
theorem dX5_lowestReady_10 : decode cX5_lowestReady 10 = .ok (.iload_n 2, 1) := by decide +kernel
theorem dX5_lowestReady_11 : decode cX5_lowestReady 11 = .ok (.ishl, 1) := by decide +kernel
theorem dX5_lowestReady_12 : decode cX5_lowestReady 12 = .ok (.iand, 1) := by decide +kernel
theorem dX5_lowestReady_13 : decode cX5_lowestReady 13 = .ok (.ifCond .ne 18, 3) := by decide +kernel
theorem dX5_lowestReady_16 : decode cX5_lowestReady 16 = .ok (.aload_n 0, 1) := by decide +kernel
theorem dX5_lowestReady_17 : decode cX5_lowestReady 17 = .ok (.getfield 20, 3) := by decide +kernel
theorem dX5_lowestReady_20 : decode cX5_lowestReady 20 = .ok (.iload_n 2, 1) := by decide +kernel
theorem dX5_lowestReady_21 : decode cX5_lowestReady 21 = .ok (.iaload, 1) := by decide +kernel
theorem dX5_lowestReady_22 : decode cX5_lowestReady 22 = .ok (.iload_n 1, 1) := by decide +kernel
theorem dX5_lowestReady_23 : decode cX5_lowestReady 23 = .ok (.iconst (-1), 1) := by decide +kernel
theorem dX5_lowestReady_24 : decode cX5_lowestReady 24 = .ok (.ixor, 1) := by decide +kernel
theorem dX5_lowestReady_25 : decode cX5_lowestReady 25 = .ok (.iand, 1) := by decide +kernel
theorem dX5_lowestReady_26 : decode cX5_lowestReady 26 = .ok (.ifCond .ne 5, 3) := by decide +kernel
theorem dX5_lowestReady_29 : decode cX5_lowestReady 29 = .ok (.iload_n 2, 1) := by decide +kernel
theorem dX5_lowestReady_30 : decode cX5_lowestReady 30 = .ok (.ireturn, 1) := by decide +kernel
theorem dX5_lowestReady_31 : decode cX5_lowestReady 31 = .ok (.iinc 2 1, 3) := by decide +kernel
theorem dX5_lowestReady_34 : decode cX5_lowestReady 34 = .ok (.goto (-32), 3) := by decide +kernel
theorem dX5_lowestReady_37 : decode cX5_lowestReady 37 = .ok (.bipush 12, 2) := by decide +kernel
theorem dX5_lowestReady_39 : decode cX5_lowestReady 39 = .ok (.ireturn, 1) := by decide +kernel
theorem dX5_workOut_0 : decode cX5_workOut 0 = .ok (.aload_n 0, 1) := by decide +kernel
theorem dX5_workOut_1 : decode cX5_workOut 1 = .ok (.getfield 43, 3) := by decide +kernel
theorem dX5_workOut_4 : decode cX5_workOut 4 = .ok (.astore_n 3, 1) := by decide +kernel
theorem dX5_workOut_5 : decode cX5_workOut 5 = .ok (.aload_n 3, 1) := by decide +kernel
theorem dX5_workOut_6 : decode cX5_workOut 6 = .ok (.arraylength, 1) := by decide +kernel
theorem dX5_workOut_7 : decode cX5_workOut 7 = .ok (.istore 4, 2) := by decide +kernel
theorem dX5_workOut_9 : decode cX5_workOut 9 = .ok (.iconst 0, 1) := by decide +kernel
theorem dX5_workOut_10 : decode cX5_workOut 10 = .ok (.istore 5, 2) := by decide +kernel
theorem dX5_workOut_12 : decode cX5_workOut 12 = .ok (.iload 5, 2) := by decide +kernel
theorem dX5_workOut_14 : decode cX5_workOut 14 = .ok (.iload 4, 2) := by decide +kernel
theorem dX5_workOut_16 : decode cX5_workOut 16 = .ok (.if_icmp .ge 80, 3) := by decide +kernel
theorem dX5_workOut_19 : decode cX5_workOut 19 = .ok (.aload_n 3, 1) := by decide +kernel
theorem dX5_workOut_20 : decode cX5_workOut 20 = .ok (.iload 5, 2) := by decide +kernel
theorem dX5_workOut_22 : decode cX5_workOut 22 = .ok (.iaload, 1) := by decide +kernel
theorem dX5_workOut_23 : decode cX5_workOut 23 = .ok (.istore 6, 2) := by decide +kernel
theorem dX5_workOut_25 : decode cX5_workOut 25 = .ok (.aload_n 0, 1) := by decide +kernel
theorem dX5_workOut_26 : decode cX5_workOut 26 = .ok (.iload 6, 2) := by decide +kernel
theorem dX5_workOut_28 : decode cX5_workOut 28 = .ok (.invokevirtual 108, 3) := by decide +kernel
theorem dX5_workOut_31 : decode cX5_workOut 31 = .ok (.ifCond .ne 21, 3) := by decide +kernel
theorem dX5_workOut_34 : decode cX5_workOut 34 = .ok (.aload_n 0, 1) := by decide +kernel
theorem dX5_workOut_35 : decode cX5_workOut 35 = .ok (.getfield 46, 3) := by decide +kernel
theorem dX5_workOut_38 : decode cX5_workOut 38 = .ok (.iload 6, 2) := by decide +kernel
theorem dX5_workOut_40 : decode cX5_workOut 40 = .ok (.aload_n 1, 1) := by decide +kernel
theorem dX5_workOut_41 : decode cX5_workOut 41 = .ok (.getfield 162, 3) := by decide +kernel
theorem dX5_workOut_44 : decode cX5_workOut 44 = .ok (.iload 6, 2) := by decide +kernel
theorem dX5_workOut_46 : decode cX5_workOut 46 = .ok (.iaload, 1) := by decide +kernel
theorem dX5_workOut_47 : decode cX5_workOut 47 = .ok (.i2l, 1) := by decide +kernel
theorem dX5_workOut_48 : decode cX5_workOut 48 = .ok (.lastore, 1) := by decide +kernel
theorem dX5_workOut_49 : decode cX5_workOut 49 = .ok (.goto 41, 3) := by decide +kernel
theorem dX5_workOut_52 : decode cX5_workOut 52 = .ok (.aload_n 0, 1) := by decide +kernel
theorem dX5_workOut_53 : decode cX5_workOut 53 = .ok (.getfield 46, 3) := by decide +kernel
theorem dX5_workOut_56 : decode cX5_workOut 56 = .ok (.iload 6, 2) := by decide +kernel
theorem dX5_workOut_58 : decode cX5_workOut 58 = .ok (.aload_n 0, 1) := by decide +kernel
theorem dX5_workOut_59 : decode cX5_workOut 59 = .ok (.getfield 39, 3) := by decide +kernel
theorem dX5_workOut_62 : decode cX5_workOut 62 = .ok (.aload_n 0, 1) := by decide +kernel
theorem dX5_workOut_63 : decode cX5_workOut 63 = .ok (.getfield 16, 3) := by decide +kernel
theorem dX5_workOut_66 : decode cX5_workOut 66 = .ok (.iload 6, 2) := by decide +kernel
theorem dX5_workOut_68 : decode cX5_workOut 68 = .ok (.aaload, 1) := by decide +kernel
theorem dX5_workOut_69 : decode cX5_workOut 69 = .ok (.aload_n 0, 1) := by decide +kernel
theorem dX5_workOut_70 : decode cX5_workOut 70 = .ok (.getfield 46, 3) := by decide +kernel
theorem dX5_workOut_73 : decode cX5_workOut 73 = .ok (.aload_n 2, 1) := by decide +kernel
theorem dX5_workOut_74 : decode cX5_workOut 74 = .ok (.invokevirtual 247, 3) := by decide +kernel
theorem dX5_workOut_77 : decode cX5_workOut 77 = .ok (.lastore, 1) := by decide +kernel
theorem dX5_workOut_78 : decode cX5_workOut 78 = .ok (.aload_n 0, 1) := by decide +kernel
theorem dX5_workOut_79 : decode cX5_workOut 79 = .ok (.getfield 39, 3) := by decide +kernel
theorem dX5_workOut_82 : decode cX5_workOut 82 = .ok (.getfield 251, 3) := by decide +kernel
theorem dX5_workOut_85 : decode cX5_workOut 85 = .ok (.ifCond .eq 5, 3) := by decide +kernel
theorem dX5_workOut_88 : decode cX5_workOut 88 = .ok (.iconst 0, 1) := by decide +kernel
theorem dX5_workOut_89 : decode cX5_workOut 89 = .ok (.ireturn, 1) := by decide +kernel
theorem dX5_workOut_90 : decode cX5_workOut 90 = .ok (.iinc 5 1, 3) := by decide +kernel
theorem dX5_workOut_93 : decode cX5_workOut 93 = .ok (.goto (-81), 3) := by decide +kernel
theorem dX5_workOut_96 : decode cX5_workOut 96 = .ok (.iconst 1, 1) := by decide +kernel
theorem dX5_workOut_97 : decode cX5_workOut 97 = .ok (.ireturn, 1) := by decide +kernel
theorem dX5_carriesToEven_0 : decode cX5_carriesToEven 0 = .ok (.lload_n 2, 1) := by decide +kernel
theorem dX5_carriesToEven_1 : decode cX5_carriesToEven 1 = .ok (.lload 4, 2) := by decide +kernel
theorem dX5_carriesToEven_3 : decode cX5_carriesToEven 3 = .ok (.lcmp, 1) := by decide +kernel
theorem dX5_carriesToEven_4 : decode cX5_carriesToEven 4 = .ok (.ifCond .gt 18, 3) := by decide +kernel
theorem dX5_carriesToEven_7 : decode cX5_carriesToEven 7 = .ok (.lload_n 2, 1) := by decide +kernel
theorem dX5_carriesToEven_8 : decode cX5_carriesToEven 8 = .ok (.lload 4, 2) := by decide +kernel
theorem dX5_carriesToEven_10 : decode cX5_carriesToEven 10 = .ok (.lcmp, 1) := by decide +kernel
theorem dX5_carriesToEven_11 : decode cX5_carriesToEven 11 = .ok (.ifCond .ne 15, 3) := by decide +kernel
theorem dX5_carriesToEven_14 : decode cX5_carriesToEven 14 = .ok (.lload_n 0, 1) := by decide +kernel
theorem dX5_carriesToEven_15 : decode cX5_carriesToEven 15 = .ok (.lconst 1, 1) := by decide +kernel
theorem dX5_carriesToEven_16 : decode cX5_carriesToEven 16 = .ok (.land, 1) := by decide +kernel
theorem dX5_carriesToEven_17 : decode cX5_carriesToEven 17 = .ok (.lconst 0, 1) := by decide +kernel
theorem dX5_carriesToEven_18 : decode cX5_carriesToEven 18 = .ok (.lcmp, 1) := by decide +kernel
theorem dX5_carriesToEven_19 : decode cX5_carriesToEven 19 = .ok (.ifCond .eq 7, 3) := by decide +kernel
theorem dX5_carriesToEven_22 : decode cX5_carriesToEven 22 = .ok (.iconst 1, 1) := by decide +kernel
theorem dX5_carriesToEven_23 : decode cX5_carriesToEven 23 = .ok (.goto 4, 3) := by decide +kernel
theorem dX5_carriesToEven_26 : decode cX5_carriesToEven 26 = .ok (.iconst 0, 1) := by decide +kernel
theorem dX5_carriesToEven_27 : decode cX5_carriesToEven 27 = .ok (.ireturn, 1) := by decide +kernel
theorem dX6_init_0 : decode cX6_init 0 = .ok (.aload_n 0, 1) := by decide +kernel
theorem dX6_init_1 : decode cX6_init 1 = .ok (.invokespecial 1, 3) := by decide +kernel
theorem dX6_init_4 : decode cX6_init 4 = .ok (.aload_n 0, 1) := by decide +kernel
theorem dX6_init_5 : decode cX6_init 5 = .ok (.bipush 40, 2) := by decide +kernel
theorem dX6_init_7 : decode cX6_init 7 = .ok (.newarray .int, 2) := by decide +kernel
theorem dX6_init_9 : decode cX6_init 9 = .ok (.putfield 7, 3) := by decide +kernel
theorem dX6_init_12 : decode cX6_init 12 = .ok (.aload_n 0, 1) := by decide +kernel
theorem dX6_init_13 : decode cX6_init 13 = .ok (.bipush 12, 2) := by decide +kernel
theorem dX6_init_15 : decode cX6_init 15 = .ok (.newarray .boolean, 2) := by decide +kernel
theorem dX6_init_17 : decode cX6_init 17 = .ok (.putfield 13, 3) := by decide +kernel
theorem dX6_init_20 : decode cX6_init 20 = .ok (.aload_n 0, 1) := by decide +kernel
theorem dX6_init_21 : decode cX6_init 21 = .ok (.bipush 12, 2) := by decide +kernel
theorem dX6_init_23 : decode cX6_init 23 = .ok (.newarray .int, 2) := by decide +kernel
theorem dX6_init_25 : decode cX6_init 25 = .ok (.putfield 17, 3) := by decide +kernel
theorem dX6_init_28 : decode cX6_init 28 = .ok (.aload_n 0, 1) := by decide +kernel
theorem dX6_init_29 : decode cX6_init 29 = .ok (.bipush 12, 2) := by decide +kernel
theorem dX6_init_31 : decode cX6_init 31 = .ok (.newarray .int, 2) := by decide +kernel
theorem dX6_init_33 : decode cX6_init 33 = .ok (.putfield 20, 3) := by decide +kernel
theorem dX6_init_36 : decode cX6_init 36 = .ok (.aload_n 0, 1) := by decide +kernel
theorem dX6_init_37 : decode cX6_init 37 = .ok (.sipush 576, 3) := by decide +kernel
theorem dX6_init_40 : decode cX6_init 40 = .ok (.newarray .int, 2) := by decide +kernel
theorem dX6_init_42 : decode cX6_init 42 = .ok (.putfield 23, 3) := by decide +kernel
theorem dX6_init_45 : decode cX6_init 45 = .ok (.aload_n 0, 1) := by decide +kernel
theorem dX6_init_46 : decode cX6_init 46 = .ok (.sipush 576, 3) := by decide +kernel
theorem dX6_init_49 : decode cX6_init 49 = .ok (.newarray .int, 2) := by decide +kernel
theorem dX6_init_51 : decode cX6_init 51 = .ok (.putfield 26, 3) := by decide +kernel
theorem dX6_init_54 : decode cX6_init 54 = .ok (.aload_n 0, 1) := by decide +kernel
theorem dX6_init_55 : decode cX6_init 55 = .ok (.bipush 11, 2) := by decide +kernel
theorem dX6_init_57 : decode cX6_init 57 = .ok (.putfield 29, 3) := by decide +kernel
theorem dX6_init_60 : decode cX6_init 60 = .ok (.aload_n 0, 1) := by decide +kernel
theorem dX6_init_61 : decode cX6_init 61 = .ok (.iconst 3, 1) := by decide +kernel
theorem dX6_init_62 : decode cX6_init 62 = .ok (.newarray .int, 2) := by decide +kernel
theorem dX6_init_64 : decode cX6_init 64 = .ok (.putfield 33, 3) := by decide +kernel
theorem dX6_init_67 : decode cX6_init 67 = .ok (.aload_n 0, 1) := by decide +kernel
theorem dX6_init_68 : decode cX6_init 68 = .ok (.bipush 12, 2) := by decide +kernel
theorem dX6_init_70 : decode cX6_init 70 = .ok (.newarray .int, 2) := by decide +kernel
theorem dX6_init_72 : decode cX6_init 72 = .ok (.putfield 36, 3) := by decide +kernel
theorem dX6_init_75 : decode cX6_init 75 = .ok (.aload_n 0, 1) := by decide +kernel
theorem dX6_init_76 : decode cX6_init 76 = .ok (.bipush 12, 2) := by decide +kernel
theorem dX6_init_78 : decode cX6_init 78 = .ok (.newarray .int, 2) := by decide +kernel
theorem dX6_init_80 : decode cX6_init 80 = .ok (.putfield 39, 3) := by decide +kernel
theorem dX6_init_83 : decode cX6_init 83 = .ok (.aload_n 0, 1) := by decide +kernel
theorem dX6_init_84 : decode cX6_init 84 = .ok (.iconst 3, 1) := by decide +kernel
theorem dX6_init_85 : decode cX6_init 85 = .ok (.newarray .int, 2) := by decide +kernel
theorem dX6_init_87 : decode cX6_init 87 = .ok (.putfield 42, 3) := by decide +kernel
theorem dX6_init_90 : decode cX6_init 90 = .ok (.aload_n 0, 1) := by decide +kernel
theorem dX6_init_91 : decode cX6_init 91 = .ok (.sipush 144, 3) := by decide +kernel
theorem dX6_init_94 : decode cX6_init 94 = .ok (.newarray .int, 2) := by decide +kernel
theorem dX6_init_96 : decode cX6_init 96 = .ok (.putfield 45, 3) := by decide +kernel
theorem dX6_init_99 : decode cX6_init 99 = .ok (.aload_n 0, 1) := by decide +kernel
theorem dX6_init_100 : decode cX6_init 100 = .ok (.bipush 12, 2) := by decide +kernel
theorem dX6_init_102 : decode cX6_init 102 = .ok (.newarray .boolean, 2) := by decide +kernel
theorem dX6_init_104 : decode cX6_init 104 = .ok (.putfield 48, 3) := by decide +kernel
theorem dX6_init_107 : decode cX6_init 107 = .ok (.aload_n 0, 1) := by decide +kernel
theorem dX6_init_108 : decode cX6_init 108 = .ok (.sipush 144, 3) := by decide +kernel
theorem dX6_init_111 : decode cX6_init 111 = .ok (.newarray .long, 2) := by decide +kernel
theorem dX6_init_113 : decode cX6_init 113 = .ok (.putfield 51, 3) := by decide +kernel
theorem dX6_init_116 : decode cX6_init 116 = .ok (.aload_n 0, 1) := by decide +kernel
theorem dX6_init_117 : decode cX6_init 117 = .ok (.bipush 12, 2) := by decide +kernel
theorem dX6_init_119 : decode cX6_init 119 = .ok (.newarray .long, 2) := by decide +kernel
theorem dX6_init_121 : decode cX6_init 121 = .ok (.putfield 55, 3) := by decide +kernel
theorem dX6_init_124 : decode cX6_init 124 = .ok (.aload_n 0, 1) := by decide +kernel
theorem dX6_init_125 : decode cX6_init 125 = .ok (.iconst 3, 1) := by decide +kernel
theorem dX6_init_126 : decode cX6_init 126 = .ok (.newarray .int, 2) := by decide +kernel
theorem dX6_init_128 : decode cX6_init 128 = .ok (.putfield 58, 3) := by decide +kernel
theorem dX6_init_131 : decode cX6_init 131 = .ok (.aload_n 0, 1) := by decide +kernel
theorem dX6_init_132 : decode cX6_init 132 = .ok (.bipush 72, 2) := by decide +kernel
theorem dX6_init_134 : decode cX6_init 134 = .ok (.newarray .int, 2) := by decide +kernel
theorem dX6_init_136 : decode cX6_init 136 = .ok (.putfield 61, 3) := by decide +kernel
theorem dX6_init_139 : decode cX6_init 139 = .ok (.aload_n 0, 1) := by decide +kernel
theorem dX6_init_140 : decode cX6_init 140 = .ok (.bipush 72, 2) := by decide +kernel
theorem dX6_init_142 : decode cX6_init 142 = .ok (.newarray .int, 2) := by decide +kernel
theorem dX6_init_144 : decode cX6_init 144 = .ok (.putfield 64, 3) := by decide +kernel
theorem dX6_init_147 : decode cX6_init 147 = .ok (.aload_n 0, 1) := by decide +kernel
theorem dX6_init_148 : decode cX6_init 148 = .ok (.bipush 72, 2) := by decide +kernel
theorem dX6_init_150 : decode cX6_init 150 = .ok (.newarray .long, 2) := by decide +kernel
theorem dX6_init_152 : decode cX6_init 152 = .ok (.putfield 67, 3) := by decide +kernel
theorem dX6_init_155 : decode cX6_init 155 = .ok (.aload_n 0, 1) := by decide +kernel
theorem dX6_init_156 : decode cX6_init 156 = .ok (.bipush 48, 2) := by decide +kernel
theorem dX6_init_158 : decode cX6_init 158 = .ok (.newarray .int, 2) := by decide +kernel
theorem dX6_init_160 : decode cX6_init 160 = .ok (.putfield 70, 3) := by decide +kernel
theorem dX6_init_163 : decode cX6_init 163 = .ok (.aload_n 0, 1) := by decide +kernel
theorem dX6_init_164 : decode cX6_init 164 = .ok (.bipush 48, 2) := by decide +kernel
theorem dX6_init_166 : decode cX6_init 166 = .ok (.newarray .int, 2) := by decide +kernel
theorem dX6_init_168 : decode cX6_init 168 = .ok (.putfield 73, 3) := by decide +kernel
theorem dX6_init_171 : decode cX6_init 171 = .ok (.aload_n 0, 1) := by decide +kernel
theorem dX6_init_172 : decode cX6_init 172 = .ok (.bipush 48, 2) := by decide +kernel
theorem dX6_init_174 : decode cX6_init 174 = .ok (.newarray .int, 2) := by decide +kernel
theorem dX6_init_176 : decode cX6_init 176 = .ok (.putfield 76, 3) := by decide +kernel
theorem dX6_init_179 : decode cX6_init 179 = .ok (.aload_n 0, 1) := by decide +kernel
theorem dX6_init_180 : decode cX6_init 180 = .ok (.bipush 48, 2) := by decide +kernel
theorem dX6_init_182 : decode cX6_init 182 = .ok (.newarray .int, 2) := by decide +kernel
theorem dX6_init_184 : decode cX6_init 184 = .ok (.putfield 79, 3) := by decide +kernel
theorem dX6_init_187 : decode cX6_init 187 = .ok (.aload_n 0, 1) := by decide +kernel
theorem dX6_init_188 : decode cX6_init 188 = .ok (.bipush 12, 2) := by decide +kernel
theorem dX6_init_190 : decode cX6_init 190 = .ok (.newarray .int, 2) := by decide +kernel
theorem dX6_init_192 : decode cX6_init 192 = .ok (.putfield 82, 3) := by decide +kernel
theorem dX6_init_195 : decode cX6_init 195 = .ok (.aload_n 0, 1) := by decide +kernel
theorem dX6_init_196 : decode cX6_init 196 = .ok (.bipush 12, 2) := by decide +kernel
theorem dX6_init_198 : decode cX6_init 198 = .ok (.newarray .long, 2) := by decide +kernel
theorem dX6_init_200 : decode cX6_init 200 = .ok (.putfield 85, 3) := by decide +kernel
theorem dX6_init_203 : decode cX6_init 203 = .ok (.aload_n 0, 1) := by decide +kernel
theorem dX6_init_204 : decode cX6_init 204 = .ok (.bipush 48, 2) := by decide +kernel
theorem dX6_init_206 : decode cX6_init 206 = .ok (.newarray .long, 2) := by decide +kernel
theorem dX6_init_208 : decode cX6_init 208 = .ok (.putfield 88, 3) := by decide +kernel
theorem dX6_init_211 : decode cX6_init 211 = .ok (.return_, 1) := by decide +kernel
theorem dX6_thrown_0 : decode cX6_thrown 0 = .ok (.aload_n 0, 1) := by decide +kernel
theorem dX6_thrown_1 : decode cX6_thrown 1 = .ok (.getfield 91, 3) := by decide +kernel
theorem dX6_thrown_4 : decode cX6_thrown 4 = .ok (.ireturn, 1) := by decide +kernel
theorem dX6_refuse_0 : decode cX6_refuse 0 = .ok (.aload_n 0, 1) := by decide +kernel
theorem dX6_refuse_1 : decode cX6_refuse 1 = .ok (.iload_n 1, 1) := by decide +kernel
theorem dX6_refuse_2 : decode cX6_refuse 2 = .ok (.putfield 91, 3) := by decide +kernel
theorem dX6_refuse_5 : decode cX6_refuse 5 = .ok (.iconst 0, 1) := by decide +kernel
theorem dX6_refuse_6 : decode cX6_refuse 6 = .ok (.ireturn, 1) := by decide +kernel
theorem dX6_in_0 : decode cX6_in 0 = .ok (.lload_n 0, 1) := by decide +kernel
theorem dX6_in_1 : decode cX6_in 1 = .ok (.lload_n 2, 1) := by decide +kernel
theorem dX6_in_2 : decode cX6_in 2 = .ok (.lcmp, 1) := by decide +kernel
theorem dX6_in_3 : decode cX6_in 3 = .ok (.ifCond .lt 14, 3) := by decide +kernel
theorem dX6_in_6 : decode cX6_in 6 = .ok (.lload_n 0, 1) := by decide +kernel
theorem dX6_in_7 : decode cX6_in 7 = .ok (.lload 4, 2) := by decide +kernel
theorem dX6_in_9 : decode cX6_in 9 = .ok (.lcmp, 1) := by decide +kernel
theorem dX6_in_10 : decode cX6_in 10 = .ok (.ifCond .gt 7, 3) := by decide +kernel
theorem dX6_in_13 : decode cX6_in 13 = .ok (.iconst 1, 1) := by decide +kernel
theorem dX6_in_14 : decode cX6_in 14 = .ok (.goto 4, 3) := by decide +kernel
theorem dX6_in_17 : decode cX6_in 17 = .ok (.iconst 0, 1) := by decide +kernel
theorem dX6_in_18 : decode cX6_in 18 = .ok (.ireturn, 1) := by decide +kernel
theorem dX6_isDigit_0 : decode cX6_isDigit 0 = .ok (.iload_n 0, 1) := by decide +kernel
theorem dX6_isDigit_1 : decode cX6_isDigit 1 = .ok (.bipush 48, 2) := by decide +kernel
theorem dX6_isDigit_3 : decode cX6_isDigit 3 = .ok (.if_icmp .lt 13, 3) := by decide +kernel
theorem dX6_isDigit_6 : decode cX6_isDigit 6 = .ok (.iload_n 0, 1) := by decide +kernel
theorem dX6_isDigit_7 : decode cX6_isDigit 7 = .ok (.bipush 57, 2) := by decide +kernel
theorem dX6_isDigit_9 : decode cX6_isDigit 9 = .ok (.if_icmp .gt 7, 3) := by decide +kernel
theorem dX6_isDigit_12 : decode cX6_isDigit 12 = .ok (.iconst 1, 1) := by decide +kernel
theorem dX6_isDigit_13 : decode cX6_isDigit 13 = .ok (.goto 4, 3) := by decide +kernel
theorem dX6_isDigit_16 : decode cX6_isDigit 16 = .ok (.iconst 0, 1) := by decide +kernel
theorem dX6_isDigit_17 : decode cX6_isDigit 17 = .ok (.ireturn, 1) := by decide +kernel
theorem dX6_isName_0 : decode cX6_isName 0 = .ok (.iload_n 0, 1) := by decide +kernel
theorem dX6_isName_1 : decode cX6_isName 1 = .ok (.bipush 65, 2) := by decide +kernel
theorem dX6_isName_3 : decode cX6_isName 3 = .ok (.if_icmp .lt 13, 3) := by decide +kernel
theorem dX6_isName_6 : decode cX6_isName 6 = .ok (.iload_n 0, 1) := by decide +kernel
theorem dX6_isName_7 : decode cX6_isName 7 = .ok (.bipush 76, 2) := by decide +kernel
theorem dX6_isName_9 : decode cX6_isName 9 = .ok (.if_icmp .gt 7, 3) := by decide +kernel
theorem dX6_isName_12 : decode cX6_isName 12 = .ok (.iconst 1, 1) := by decide +kernel
theorem dX6_isName_13 : decode cX6_isName 13 = .ok (.goto 4, 3) := by decide +kernel
theorem dX6_isName_16 : decode cX6_isName 16 = .ok (.iconst 0, 1) := by decide +kernel
theorem dX6_isName_17 : decode cX6_isName 17 = .ok (.ireturn, 1) := by decide +kernel
theorem dX6_type_0 : decode cX6_type 0 = .ok (.aload_n 0, 1) := by decide +kernel
theorem dX6_type_1 : decode cX6_type 1 = .ok (.iconst 0, 1) := by decide +kernel
theorem dX6_type_2 : decode cX6_type 2 = .ok (.putfield 91, 3) := by decide +kernel
theorem dX6_type_5 : decode cX6_type 5 = .ok (.iload_n 1, 1) := by decide +kernel
theorem dX6_type_6 : decode cX6_type 6 = .ok (.bipush 39, 2) := by decide +kernel
theorem dX6_type_8 : decode cX6_type 8 = .ok (.if_icmp .eq 87, 3) := by decide +kernel
theorem dX6_type_11 : decode cX6_type 11 = .ok (.iload_n 1, 1) := by decide +kernel
theorem dX6_type_12 : decode cX6_type 12 = .ok (.bipush 109, 2) := by decide +kernel
theorem dX6_type_14 : decode cX6_type 14 = .ok (.if_icmp .eq 81, 3) := by decide +kernel
theorem dX6_type_17 : decode cX6_type 17 = .ok (.iload_n 1, 1) := by decide +kernel
theorem dX6_type_18 : decode cX6_type 18 = .ok (.bipush 120, 2) := by decide +kernel
theorem dX6_type_20 : decode cX6_type 20 = .ok (.if_icmp .eq 75, 3) := by decide +kernel
theorem dX6_type_23 : decode cX6_type 23 = .ok (.iload_n 1, 1) := by decide +kernel
theorem dX6_type_24 : decode cX6_type 24 = .ok (.bipush 116, 2) := by decide +kernel
theorem dX6_type_26 : decode cX6_type 26 = .ok (.if_icmp .eq 69, 3) := by decide +kernel
theorem dX6_type_29 : decode cX6_type 29 = .ok (.iload_n 1, 1) := by decide +kernel
theorem dX6_type_30 : decode cX6_type 30 = .ok (.bipush 40, 2) := by decide +kernel
theorem dX6_type_32 : decode cX6_type 32 = .ok (.if_icmp .eq 63, 3) := by decide +kernel
theorem dX6_type_35 : decode cX6_type 35 = .ok (.iload_n 1, 1) := by decide +kernel
theorem dX6_type_36 : decode cX6_type 36 = .ok (.bipush 41, 2) := by decide +kernel
theorem dX6_type_38 : decode cX6_type 38 = .ok (.if_icmp .eq 57, 3) := by decide +kernel
theorem dX6_type_41 : decode cX6_type 41 = .ok (.iload_n 1, 1) := by decide +kernel
theorem dX6_type_42 : decode cX6_type 42 = .ok (.bipush 44, 2) := by decide +kernel
theorem dX6_type_44 : decode cX6_type 44 = .ok (.if_icmp .eq 51, 3) := by decide +kernel
theorem dX6_type_47 : decode cX6_type 47 = .ok (.iload_n 1, 1) := by decide +kernel
theorem dX6_type_48 : decode cX6_type 48 = .ok (.bipush 43, 2) := by decide +kernel
theorem dX6_type_50 : decode cX6_type 50 = .ok (.if_icmp .eq 45, 3) := by decide +kernel
theorem dX6_type_53 : decode cX6_type 53 = .ok (.iload_n 1, 1) := by decide +kernel
theorem dX6_type_54 : decode cX6_type 54 = .ok (.bipush 45, 2) := by decide +kernel
theorem dX6_type_56 : decode cX6_type 56 = .ok (.if_icmp .eq 39, 3) := by decide +kernel
theorem dX6_type_59 : decode cX6_type 59 = .ok (.iload_n 1, 1) := by decide +kernel
theorem dX6_type_60 : decode cX6_type 60 = .ok (.bipush 42, 2) := by decide +kernel
theorem dX6_type_62 : decode cX6_type 62 = .ok (.if_icmp .eq 33, 3) := by decide +kernel
theorem dX6_type_65 : decode cX6_type 65 = .ok (.iload_n 1, 1) := by decide +kernel
theorem dX6_type_66 : decode cX6_type 66 = .ok (.bipush 37, 2) := by decide +kernel
theorem dX6_type_68 : decode cX6_type 68 = .ok (.if_icmp .eq 27, 3) := by decide +kernel
theorem dX6_type_71 : decode cX6_type 71 = .ok (.iload_n 1, 1) := by decide +kernel
theorem dX6_type_72 : decode cX6_type 72 = .ok (.bipush 60, 2) := by decide +kernel
theorem dX6_type_74 : decode cX6_type 74 = .ok (.if_icmp .eq 21, 3) := by decide +kernel
theorem dX6_type_77 : decode cX6_type 77 = .ok (.iload_n 1, 1) := by decide +kernel
theorem dX6_type_78 : decode cX6_type 78 = .ok (.bipush 62, 2) := by decide +kernel
theorem dX6_type_80 : decode cX6_type 80 = .ok (.if_icmp .eq 15, 3) := by decide +kernel
theorem dX6_type_83 : decode cX6_type 83 = .ok (.iload_n 1, 1) := by decide +kernel
theorem dX6_type_84 : decode cX6_type 84 = .ok (.bipush 63, 2) := by decide +kernel
theorem dX6_type_86 : decode cX6_type 86 = .ok (.if_icmp .eq 9, 3) := by decide +kernel
theorem dX6_type_89 : decode cX6_type 89 = .ok (.iload_n 1, 1) := by decide +kernel
theorem dX6_type_90 : decode cX6_type 90 = .ok (.bipush 58, 2) := by decide +kernel
theorem dX6_type_92 : decode cX6_type 92 = .ok (.if_icmp .ne 7, 3) := by decide +kernel
theorem dX6_type_95 : decode cX6_type 95 = .ok (.iconst 1, 1) := by decide +kernel
theorem dX6_type_96 : decode cX6_type 96 = .ok (.goto 4, 3) := by decide +kernel
theorem dX6_type_99 : decode cX6_type 99 = .ok (.iconst 0, 1) := by decide +kernel
theorem dX6_type_100 : decode cX6_type 100 = .ok (.istore_n 2, 1) := by decide +kernel
theorem dX6_type_101 : decode cX6_type 101 = .ok (.iload_n 2, 1) := by decide +kernel
theorem dX6_type_102 : decode cX6_type 102 = .ok (.ifCond .ne 17, 3) := by decide +kernel
theorem dX6_type_105 : decode cX6_type 105 = .ok (.iload_n 1, 1) := by decide +kernel
theorem dX6_type_106 : decode cX6_type 106 = .ok (.invokestatic 94, 3) := by decide +kernel
theorem dX6_type_109 : decode cX6_type 109 = .ok (.ifCond .ne 10, 3) := by decide +kernel
theorem dX6_type_112 : decode cX6_type 112 = .ok (.iload_n 1, 1) := by decide +kernel
theorem dX6_type_113 : decode cX6_type 113 = .ok (.invokestatic 98, 3) := by decide +kernel
theorem dX6_type_116 : decode cX6_type 116 = .ok (.ifCond .eq 12, 3) := by decide +kernel
theorem dX6_type_119 : decode cX6_type 119 = .ok (.aload_n 0, 1) := by decide +kernel
theorem dX6_type_120 : decode cX6_type 120 = .ok (.getfield 101, 3) := by decide +kernel
theorem dX6_type_123 : decode cX6_type 123 = .ok (.bipush 40, 2) := by decide +kernel
theorem dX6_type_125 : decode cX6_type 125 = .ok (.if_icmp .ne 5, 3) := by decide +kernel
theorem dX6_type_128 : decode cX6_type 128 = .ok (.iconst 0, 1) := by decide +kernel
theorem dX6_type_129 : decode cX6_type 129 = .ok (.ireturn, 1) := by decide +kernel
theorem dX6_type_130 : decode cX6_type 130 = .ok (.aload_n 0, 1) := by decide +kernel
theorem dX6_type_131 : decode cX6_type 131 = .ok (.getfield 7, 3) := by decide +kernel
theorem dX6_type_134 : decode cX6_type 134 = .ok (.aload_n 0, 1) := by decide +kernel
theorem dX6_type_135 : decode cX6_type 135 = .ok (.getfield 101, 3) := by decide +kernel
theorem dX6_type_138 : decode cX6_type 138 = .ok (.iload_n 1, 1) := by decide +kernel
theorem dX6_type_139 : decode cX6_type 139 = .ok (.iastore, 1) := by decide +kernel
theorem dX6_type_140 : decode cX6_type 140 = .ok (.aload_n 0, 1) := by decide +kernel
theorem dX6_type_141 : decode cX6_type 141 = .ok (.dup, 1) := by decide +kernel
theorem dX6_type_142 : decode cX6_type 142 = .ok (.getfield 101, 3) := by decide +kernel
theorem dX6_type_145 : decode cX6_type 145 = .ok (.iconst 1, 1) := by decide +kernel
theorem dX6_type_146 : decode cX6_type 146 = .ok (.iadd, 1) := by decide +kernel
theorem dX6_type_147 : decode cX6_type 147 = .ok (.putfield 101, 3) := by decide +kernel
theorem dX6_type_150 : decode cX6_type 150 = .ok (.iconst 1, 1) := by decide +kernel
theorem dX6_type_151 : decode cX6_type 151 = .ok (.ireturn, 1) := by decide +kernel
theorem dX6_clear_0 : decode cX6_clear 0 = .ok (.aload_n 0, 1) := by decide +kernel
theorem dX6_clear_1 : decode cX6_clear 1 = .ok (.iconst 0, 1) := by decide +kernel
theorem dX6_clear_2 : decode cX6_clear 2 = .ok (.putfield 91, 3) := by decide +kernel
theorem dX6_clear_5 : decode cX6_clear 5 = .ok (.aload_n 0, 1) := by decide +kernel
theorem dX6_clear_6 : decode cX6_clear 6 = .ok (.getfield 101, 3) := by decide +kernel
theorem dX6_clear_9 : decode cX6_clear 9 = .ok (.istore_n 1, 1) := by decide +kernel
theorem dX6_clear_10 : decode cX6_clear 10 = .ok (.aload_n 0, 1) := by decide +kernel
theorem dX6_clear_11 : decode cX6_clear 11 = .ok (.iconst 0, 1) := by decide +kernel
theorem dX6_clear_12 : decode cX6_clear 12 = .ok (.putfield 101, 3) := by decide +kernel
theorem dX6_clear_15 : decode cX6_clear 15 = .ok (.iload_n 1, 1) := by decide +kernel
theorem dX6_clear_16 : decode cX6_clear 16 = .ok (.ireturn, 1) := by decide +kernel
theorem dX6_look_0 : decode cX6_look 0 = .ok (.iload_n 1, 1) := by decide +kernel
theorem dX6_look_1 : decode cX6_look 1 = .ok (.aload_n 0, 1) := by decide +kernel
theorem dX6_look_2 : decode cX6_look 2 = .ok (.getfield 101, 3) := by decide +kernel
theorem dX6_look_5 : decode cX6_look 5 = .ok (.if_icmp .ge 12, 3) := by decide +kernel
theorem dX6_look_8 : decode cX6_look 8 = .ok (.aload_n 0, 1) := by decide +kernel
theorem dX6_look_9 : decode cX6_look 9 = .ok (.getfield 7, 3) := by decide +kernel
theorem dX6_look_12 : decode cX6_look 12 = .ok (.iload_n 1, 1) := by decide +kernel
theorem dX6_look_13 : decode cX6_look 13 = .ok (.iaload, 1) := by decide +kernel
theorem dX6_look_14 : decode cX6_look 14 = .ok (.goto 4, 3) := by decide +kernel
theorem dX6_look_17 : decode cX6_look 17 = .ok (.iconst 0, 1) := by decide +kernel
theorem dX6_look_18 : decode cX6_look 18 = .ok (.ireturn, 1) := by decide +kernel
theorem dX6_make_0 : decode cX6_make 0 = .ok (.aload_n 0, 1) := by decide +kernel
theorem dX6_make_1 : decode cX6_make 1 = .ok (.getfield 76, 3) := by decide +kernel
theorem dX6_make_4 : decode cX6_make 4 = .ok (.aload_n 0, 1) := by decide +kernel
theorem dX6_make_5 : decode cX6_make 5 = .ok (.getfield 104, 3) := by decide +kernel
theorem dX6_make_8 : decode cX6_make 8 = .ok (.iload_n 1, 1) := by decide +kernel
theorem dX6_make_9 : decode cX6_make 9 = .ok (.iastore, 1) := by decide +kernel
theorem dX6_make_10 : decode cX6_make 10 = .ok (.aload_n 0, 1) := by decide +kernel
theorem dX6_make_11 : decode cX6_make 11 = .ok (.getfield 79, 3) := by decide +kernel
theorem dX6_make_14 : decode cX6_make 14 = .ok (.aload_n 0, 1) := by decide +kernel
theorem dX6_make_15 : decode cX6_make 15 = .ok (.getfield 104, 3) := by decide +kernel
theorem dX6_make_18 : decode cX6_make 18 = .ok (.iload_n 2, 1) := by decide +kernel
theorem dX6_make_19 : decode cX6_make 19 = .ok (.iastore, 1) := by decide +kernel
theorem dX6_make_20 : decode cX6_make 20 = .ok (.aload_n 0, 1) := by decide +kernel
theorem dX6_make_21 : decode cX6_make 21 = .ok (.dup, 1) := by decide +kernel
theorem dX6_make_22 : decode cX6_make 22 = .ok (.getfield 104, 3) := by decide +kernel
theorem dX6_make_25 : decode cX6_make 25 = .ok (.iconst 1, 1) := by decide +kernel
theorem dX6_make_26 : decode cX6_make 26 = .ok (.iadd, 1) := by decide +kernel
theorem dX6_make_27 : decode cX6_make 27 = .ok (.putfield 104, 3) := by decide +kernel
theorem dX6_make_30 : decode cX6_make 30 = .ok (.return_, 1) := by decide +kernel
theorem dX6_put_0 : decode cX6_put 0 = .ok (.aload_n 0, 1) := by decide +kernel
theorem dX6_put_1 : decode cX6_put 1 = .ok (.getfield 70, 3) := by decide +kernel
theorem dX6_put_4 : decode cX6_put 4 = .ok (.aload_n 0, 1) := by decide +kernel
theorem dX6_put_5 : decode cX6_put 5 = .ok (.getfield 107, 3) := by decide +kernel
theorem dX6_put_8 : decode cX6_put 8 = .ok (.iload_n 1, 1) := by decide +kernel
theorem dX6_put_9 : decode cX6_put 9 = .ok (.iastore, 1) := by decide +kernel
theorem dX6_put_10 : decode cX6_put 10 = .ok (.aload_n 0, 1) := by decide +kernel
theorem dX6_put_11 : decode cX6_put 11 = .ok (.getfield 73, 3) := by decide +kernel
theorem dX6_put_14 : decode cX6_put 14 = .ok (.aload_n 0, 1) := by decide +kernel
theorem dX6_put_15 : decode cX6_put 15 = .ok (.getfield 107, 3) := by decide +kernel
theorem dX6_put_18 : decode cX6_put 18 = .ok (.iload_n 2, 1) := by decide +kernel
theorem dX6_put_19 : decode cX6_put 19 = .ok (.iastore, 1) := by decide +kernel
theorem dX6_put_20 : decode cX6_put 20 = .ok (.aload_n 0, 1) := by decide +kernel
theorem dX6_put_21 : decode cX6_put 21 = .ok (.dup, 1) := by decide +kernel
theorem dX6_put_22 : decode cX6_put 22 = .ok (.getfield 107, 3) := by decide +kernel
theorem dX6_put_25 : decode cX6_put 25 = .ok (.iconst 1, 1) := by decide +kernel
theorem dX6_put_26 : decode cX6_put 26 = .ok (.iadd, 1) := by decide +kernel
theorem dX6_put_27 : decode cX6_put 27 = .ok (.putfield 107, 3) := by decide +kernel
theorem dX6_put_30 : decode cX6_put 30 = .ok (.iconst 1, 1) := by decide +kernel
theorem dX6_put_31 : decode cX6_put 31 = .ok (.ireturn, 1) := by decide +kernel
theorem dX6_top_0 : decode cX6_top 0 = .ok (.aload_n 0, 1) := by decide +kernel
theorem dX6_top_1 : decode cX6_top 1 = .ok (.getfield 107, 3) := by decide +kernel
theorem dX6_top_4 : decode cX6_top 4 = .ok (.ifCond .le 17, 3) := by decide +kernel
theorem dX6_top_7 : decode cX6_top 7 = .ok (.aload_n 0, 1) := by decide +kernel
theorem dX6_top_8 : decode cX6_top 8 = .ok (.getfield 70, 3) := by decide +kernel
theorem dX6_top_11 : decode cX6_top 11 = .ok (.aload_n 0, 1) := by decide +kernel
theorem dX6_top_12 : decode cX6_top 12 = .ok (.getfield 107, 3) := by decide +kernel
theorem dX6_top_15 : decode cX6_top 15 = .ok (.iconst 1, 1) := by decide +kernel
theorem dX6_top_16 : decode cX6_top 16 = .ok (.isub, 1) := by decide +kernel
theorem dX6_top_17 : decode cX6_top 17 = .ok (.iaload, 1) := by decide +kernel
theorem dX6_top_18 : decode cX6_top 18 = .ok (.goto 4, 3) := by decide +kernel
theorem dX6_top_21 : decode cX6_top 21 = .ok (.iconst 0, 1) := by decide +kernel
theorem dX6_top_22 : decode cX6_top 22 = .ok (.ireturn, 1) := by decide +kernel
theorem dX6_deepness_0 : decode cX6_deepness 0 = .ok (.iconst 0, 1) := by decide +kernel
theorem dX6_deepness_1 : decode cX6_deepness 1 = .ok (.istore_n 1, 1) := by decide +kernel
theorem dX6_deepness_2 : decode cX6_deepness 2 = .ok (.iconst 0, 1) := by decide +kernel
theorem dX6_deepness_3 : decode cX6_deepness 3 = .ok (.istore_n 2, 1) := by decide +kernel
theorem dX6_deepness_4 : decode cX6_deepness 4 = .ok (.iload_n 2, 1) := by decide +kernel
theorem dX6_deepness_5 : decode cX6_deepness 5 = .ok (.aload_n 0, 1) := by decide +kernel
theorem dX6_deepness_6 : decode cX6_deepness 6 = .ok (.getfield 107, 3) := by decide +kernel
theorem dX6_deepness_9 : decode cX6_deepness 9 = .ok (.if_icmp .ge 28, 3) := by decide +kernel
theorem dX6_deepness_12 : decode cX6_deepness 12 = .ok (.aload_n 0, 1) := by decide +kernel
theorem dX6_deepness_13 : decode cX6_deepness 13 = .ok (.getfield 70, 3) := by decide +kernel
theorem dX6_deepness_16 : decode cX6_deepness 16 = .ok (.iload_n 2, 1) := by decide +kernel
theorem dX6_deepness_17 : decode cX6_deepness 17 = .ok (.iaload, 1) := by decide +kernel
theorem dX6_deepness_18 : decode cX6_deepness 18 = .ok (.bipush 6, 2) := by decide +kernel
theorem dX6_deepness_20 : decode cX6_deepness 20 = .ok (.if_icmp .gt 9, 3) := by decide +kernel
theorem dX6_deepness_23 : decode cX6_deepness 23 = .ok (.iload_n 1, 1) := by decide +kernel
theorem dX6_deepness_24 : decode cX6_deepness 24 = .ok (.iconst 1, 1) := by decide +kernel
theorem dX6_deepness_25 : decode cX6_deepness 25 = .ok (.iadd, 1) := by decide +kernel
theorem dX6_deepness_26 : decode cX6_deepness 26 = .ok (.goto 4, 3) := by decide +kernel
theorem dX6_deepness_29 : decode cX6_deepness 29 = .ok (.iload_n 1, 1) := by decide +kernel
theorem dX6_deepness_30 : decode cX6_deepness 30 = .ok (.istore_n 1, 1) := by decide +kernel
theorem dX6_deepness_31 : decode cX6_deepness 31 = .ok (.iinc 2 1, 3) := by decide +kernel
theorem dX6_deepness_34 : decode cX6_deepness 34 = .ok (.goto (-30), 3) := by decide +kernel
theorem dX6_deepness_37 : decode cX6_deepness 37 = .ok (.iload_n 1, 1) := by decide +kernel
theorem dX6_deepness_38 : decode cX6_deepness 38 = .ok (.ireturn, 1) := by decide +kernel
theorem dX6_number_0 : decode cX6_number 0 = .ok (.iconst 0, 1) := by decide +kernel
theorem dX6_number_1 : decode cX6_number 1 = .ok (.istore_n 2, 1) := by decide +kernel
theorem dX6_number_2 : decode cX6_number 2 = .ok (.iconst 0, 1) := by decide +kernel
theorem dX6_number_3 : decode cX6_number 3 = .ok (.istore_n 3, 1) := by decide +kernel
theorem dX6_number_4 : decode cX6_number 4 = .ok (.iload_n 3, 1) := by decide +kernel
theorem dX6_number_5 : decode cX6_number 5 = .ok (.iload_n 1, 1) := by decide +kernel
theorem dX6_number_6 : decode cX6_number 6 = .ok (.if_icmp .ge 51, 3) := by decide +kernel
theorem dX6_number_9 : decode cX6_number 9 = .ok (.aload_n 0, 1) := by decide +kernel
theorem dX6_number_10 : decode cX6_number 10 = .ok (.aload_n 0, 1) := by decide +kernel
theorem dX6_number_11 : decode cX6_number 11 = .ok (.getfield 110, 3) := by decide +kernel
theorem dX6_number_14 : decode cX6_number 14 = .ok (.invokevirtual 113, 3) := by decide +kernel
theorem dX6_number_17 : decode cX6_number 17 = .ok (.invokestatic 94, 3) := by decide +kernel
theorem dX6_number_20 : decode cX6_number 20 = .ok (.ifCond .eq 37, 3) := by decide +kernel
theorem dX6_number_23 : decode cX6_number 23 = .ok (.bipush 10, 2) := by decide +kernel
theorem dX6_number_25 : decode cX6_number 25 = .ok (.iload_n 2, 1) := by decide +kernel
theorem dX6_number_26 : decode cX6_number 26 = .ok (.imul, 1) := by decide +kernel
theorem dX6_number_27 : decode cX6_number 27 = .ok (.aload_n 0, 1) := by decide +kernel
theorem dX6_number_28 : decode cX6_number 28 = .ok (.getfield 7, 3) := by decide +kernel
theorem dX6_number_31 : decode cX6_number 31 = .ok (.aload_n 0, 1) := by decide +kernel
theorem dX6_number_32 : decode cX6_number 32 = .ok (.getfield 110, 3) := by decide +kernel
theorem dX6_number_35 : decode cX6_number 35 = .ok (.iaload, 1) := by decide +kernel
theorem dX6_number_36 : decode cX6_number 36 = .ok (.iadd, 1) := by decide +kernel
theorem dX6_number_37 : decode cX6_number 37 = .ok (.bipush 48, 2) := by decide +kernel
theorem dX6_number_39 : decode cX6_number 39 = .ok (.isub, 1) := by decide +kernel
theorem dX6_number_40 : decode cX6_number 40 = .ok (.istore_n 2, 1) := by decide +kernel
theorem dX6_number_41 : decode cX6_number 41 = .ok (.aload_n 0, 1) := by decide +kernel
theorem dX6_number_42 : decode cX6_number 42 = .ok (.dup, 1) := by decide +kernel
theorem dX6_number_43 : decode cX6_number 43 = .ok (.getfield 110, 3) := by decide +kernel
theorem dX6_number_46 : decode cX6_number 46 = .ok (.iconst 1, 1) := by decide +kernel
theorem dX6_number_47 : decode cX6_number 47 = .ok (.iadd, 1) := by decide +kernel
theorem dX6_number_48 : decode cX6_number 48 = .ok (.putfield 110, 3) := by decide +kernel
theorem dX6_number_51 : decode cX6_number 51 = .ok (.iinc 3 1, 3) := by decide +kernel
theorem dX6_number_54 : decode cX6_number 54 = .ok (.goto (-50), 3) := by decide +kernel
theorem dX6_number_57 : decode cX6_number 57 = .ok (.iload_n 2, 1) := by decide +kernel
theorem dX6_number_58 : decode cX6_number 58 = .ok (.ireturn, 1) := by decide +kernel
theorem dX6_begin_0 : decode cX6_begin 0 = .ok (.aload_n 0, 1) := by decide +kernel
theorem dX6_begin_1 : decode cX6_begin 1 = .ok (.aload_n 0, 1) := by decide +kernel
theorem dX6_begin_2 : decode cX6_begin 2 = .ok (.getfield 110, 3) := by decide +kernel
theorem dX6_begin_5 : decode cX6_begin 5 = .ok (.invokevirtual 113, 3) := by decide +kernel
theorem dX6_begin_8 : decode cX6_begin 8 = .ok (.istore_n 1, 1) := by decide +kernel
theorem dX6_begin_9 : decode cX6_begin 9 = .ok (.iload_n 1, 1) := by decide +kernel
theorem dX6_begin_10 : decode cX6_begin 10 = .ok (.invokestatic 98, 3) := by decide +kernel
theorem dX6_begin_13 : decode cX6_begin 13 = .ok (.ifCond .eq 92, 3) := by decide +kernel
theorem dX6_begin_16 : decode cX6_begin 16 = .ok (.aload_n 0, 1) := by decide +kernel
theorem dX6_begin_17 : decode cX6_begin 17 = .ok (.aload_n 0, 1) := by decide +kernel
theorem dX6_begin_18 : decode cX6_begin 18 = .ok (.getfield 110, 3) := by decide +kernel
theorem dX6_begin_21 : decode cX6_begin 21 = .ok (.iconst 1, 1) := by decide +kernel
theorem dX6_begin_22 : decode cX6_begin 22 = .ok (.iadd, 1) := by decide +kernel
theorem dX6_begin_23 : decode cX6_begin 23 = .ok (.invokevirtual 113, 3) := by decide +kernel
theorem dX6_begin_26 : decode cX6_begin 26 = .ok (.bipush 39, 2) := by decide +kernel
theorem dX6_begin_28 : decode cX6_begin 28 = .ok (.if_icmp .ne 7, 3) := by decide +kernel
theorem dX6_begin_31 : decode cX6_begin 31 = .ok (.iconst 1, 1) := by decide +kernel
theorem dX6_begin_32 : decode cX6_begin 32 = .ok (.goto 4, 3) := by decide +kernel
theorem dX6_begin_35 : decode cX6_begin 35 = .ok (.iconst 0, 1) := by decide +kernel
theorem dX6_begin_36 : decode cX6_begin 36 = .ok (.istore_n 2, 1) := by decide +kernel
theorem dX6_begin_37 : decode cX6_begin 37 = .ok (.aload_n 0, 1) := by decide +kernel
theorem dX6_begin_38 : decode cX6_begin 38 = .ok (.iload_n 2, 1) := by decide +kernel
theorem dX6_begin_39 : decode cX6_begin 39 = .ok (.ifCond .eq 7, 3) := by decide +kernel
theorem dX6_begin_42 : decode cX6_begin 42 = .ok (.iconst 2, 1) := by decide +kernel
theorem dX6_begin_43 : decode cX6_begin 43 = .ok (.goto 4, 3) := by decide +kernel
theorem dX6_begin_46 : decode cX6_begin 46 = .ok (.iconst 1, 1) := by decide +kernel
theorem dX6_begin_47 : decode cX6_begin 47 = .ok (.iload_n 1, 1) := by decide +kernel
theorem dX6_begin_48 : decode cX6_begin 48 = .ok (.bipush 65, 2) := by decide +kernel
theorem dX6_begin_50 : decode cX6_begin 50 = .ok (.isub, 1) := by decide +kernel
theorem dX6_begin_51 : decode cX6_begin 51 = .ok (.invokevirtual 117, 3) := by decide +kernel
theorem dX6_begin_54 : decode cX6_begin 54 = .ok (.aload_n 0, 1) := by decide +kernel
theorem dX6_begin_55 : decode cX6_begin 55 = .ok (.iload_n 2, 1) := by decide +kernel
theorem dX6_begin_56 : decode cX6_begin 56 = .ok (.ifCond .eq 10, 3) := by decide +kernel
theorem dX6_begin_59 : decode cX6_begin 59 = .ok (.aload_n 0, 1) := by decide +kernel
theorem dX6_begin_60 : decode cX6_begin 60 = .ok (.getfield 121, 3) := by decide +kernel
theorem dX6_begin_63 : decode cX6_begin 63 = .ok (.goto 14, 3) := by decide +kernel
theorem dX6_begin_66 : decode cX6_begin 66 = .ok (.aload_n 0, 1) := by decide +kernel
theorem dX6_begin_67 : decode cX6_begin 67 = .ok (.getfield 121, 3) := by decide +kernel
theorem dX6_begin_70 : decode cX6_begin 70 = .ok (.iconst 1, 1) := by decide +kernel
theorem dX6_begin_71 : decode cX6_begin 71 = .ok (.iload_n 1, 1) := by decide +kernel
theorem dX6_begin_72 : decode cX6_begin 72 = .ok (.bipush 65, 2) := by decide +kernel
theorem dX6_begin_74 : decode cX6_begin 74 = .ok (.isub, 1) := by decide +kernel
theorem dX6_begin_75 : decode cX6_begin 75 = .ok (.ishl, 1) := by decide +kernel
theorem dX6_begin_76 : decode cX6_begin 76 = .ok (.ior, 1) := by decide +kernel
theorem dX6_begin_77 : decode cX6_begin 77 = .ok (.putfield 121, 3) := by decide +kernel
theorem dX6_begin_80 : decode cX6_begin 80 = .ok (.aload_n 0, 1) := by decide +kernel
theorem dX6_begin_81 : decode cX6_begin 81 = .ok (.iload_n 2, 1) := by decide +kernel
theorem dX6_begin_82 : decode cX6_begin 82 = .ok (.ifCond .eq 12, 3) := by decide +kernel
theorem dX6_begin_85 : decode cX6_begin 85 = .ok (.aload_n 0, 1) := by decide +kernel
theorem dX6_begin_86 : decode cX6_begin 86 = .ok (.getfield 110, 3) := by decide +kernel
theorem dX6_begin_89 : decode cX6_begin 89 = .ok (.iconst 2, 1) := by decide +kernel
theorem dX6_begin_90 : decode cX6_begin 90 = .ok (.iadd, 1) := by decide +kernel
theorem dX6_begin_91 : decode cX6_begin 91 = .ok (.goto 9, 3) := by decide +kernel
theorem dX6_begin_94 : decode cX6_begin 94 = .ok (.aload_n 0, 1) := by decide +kernel
theorem dX6_begin_95 : decode cX6_begin 95 = .ok (.getfield 110, 3) := by decide +kernel
theorem dX6_begin_98 : decode cX6_begin 98 = .ok (.iconst 1, 1) := by decide +kernel
theorem dX6_begin_99 : decode cX6_begin 99 = .ok (.iadd, 1) := by decide +kernel
theorem dX6_begin_100 : decode cX6_begin 100 = .ok (.putfield 110, 3) := by decide +kernel
theorem dX6_begin_103 : decode cX6_begin 103 = .ok (.iconst 1, 1) := by decide +kernel
theorem dX6_begin_104 : decode cX6_begin 104 = .ok (.ireturn, 1) := by decide +kernel
theorem dX6_begin_105 : decode cX6_begin 105 = .ok (.iload_n 1, 1) := by decide +kernel
theorem dX6_begin_106 : decode cX6_begin 106 = .ok (.invokestatic 94, 3) := by decide +kernel
theorem dX6_begin_109 : decode cX6_begin 109 = .ok (.ifCond .eq 18, 3) := by decide +kernel
theorem dX6_begin_112 : decode cX6_begin 112 = .ok (.aload_n 0, 1) := by decide +kernel
theorem dX6_begin_113 : decode cX6_begin 113 = .ok (.bipush 6, 2) := by decide +kernel
theorem dX6_begin_115 : decode cX6_begin 115 = .ok (.invokevirtual 124, 3) := by decide +kernel
theorem dX6_begin_118 : decode cX6_begin 118 = .ok (.istore_n 2, 1) := by decide +kernel
theorem dX6_begin_119 : decode cX6_begin 119 = .ok (.aload_n 0, 1) := by decide +kernel
theorem dX6_begin_120 : decode cX6_begin 120 = .ok (.iconst 0, 1) := by decide +kernel
theorem dX6_begin_121 : decode cX6_begin 121 = .ok (.iload_n 2, 1) := by decide +kernel
theorem dX6_begin_122 : decode cX6_begin 122 = .ok (.invokevirtual 117, 3) := by decide +kernel
theorem dX6_begin_125 : decode cX6_begin 125 = .ok (.iconst 1, 1) := by decide +kernel
theorem dX6_begin_126 : decode cX6_begin 126 = .ok (.ireturn, 1) := by decide +kernel
theorem dX6_begin_127 : decode cX6_begin 127 = .ok (.aload_n 0, 1) := by decide +kernel
theorem dX6_begin_128 : decode cX6_begin 128 = .ok (.invokevirtual 127, 3) := by decide +kernel
theorem dX6_begin_131 : decode cX6_begin 131 = .ok (.iconst 4, 1) := by decide +kernel
theorem dX6_begin_132 : decode cX6_begin 132 = .ok (.if_icmp .ne 5, 3) := by decide +kernel
theorem dX6_begin_135 : decode cX6_begin 135 = .ok (.iconst 0, 1) := by decide +kernel
theorem dX6_begin_136 : decode cX6_begin 136 = .ok (.ireturn, 1) := by decide +kernel
theorem dX6_begin_137 : decode cX6_begin 137 = .ok (.iload_n 1, 1) := by decide +kernel
theorem dX6_begin_138 : decode cX6_begin 138 = .ok (.bipush 40, 2) := by decide +kernel
theorem dX6_begin_140 : decode cX6_begin 140 = .ok (.if_icmp .ne 22, 3) := by decide +kernel
theorem dX6_begin_143 : decode cX6_begin 143 = .ok (.aload_n 0, 1) := by decide +kernel
theorem dX6_begin_144 : decode cX6_begin 144 = .ok (.iconst 1, 1) := by decide +kernel
theorem dX6_begin_145 : decode cX6_begin 145 = .ok (.iconst 0, 1) := by decide +kernel
theorem dX6_begin_146 : decode cX6_begin 146 = .ok (.invokevirtual 131, 3) := by decide +kernel
theorem dX6_begin_149 : decode cX6_begin 149 = .ok (.pop, 1) := by decide +kernel
theorem dX6_begin_150 : decode cX6_begin 150 = .ok (.aload_n 0, 1) := by decide +kernel
theorem dX6_begin_151 : decode cX6_begin 151 = .ok (.dup, 1) := by decide +kernel
theorem dX6_begin_152 : decode cX6_begin 152 = .ok (.getfield 110, 3) := by decide +kernel
theorem dX6_begin_155 : decode cX6_begin 155 = .ok (.iconst 1, 1) := by decide +kernel
theorem dX6_begin_156 : decode cX6_begin 156 = .ok (.iadd, 1) := by decide +kernel
theorem dX6_begin_157 : decode cX6_begin 157 = .ok (.putfield 110, 3) := by decide +kernel
theorem dX6_begin_160 : decode cX6_begin 160 = .ok (.iconst 2, 1) := by decide +kernel
theorem dX6_begin_161 : decode cX6_begin 161 = .ok (.ireturn, 1) := by decide +kernel
theorem dX6_begin_162 : decode cX6_begin 162 = .ok (.iload_n 1, 1) := by decide +kernel
theorem dX6_begin_163 : decode cX6_begin 163 = .ok (.bipush 109, 2) := by decide +kernel
theorem dX6_begin_165 : decode cX6_begin 165 = .ok (.if_icmp .eq 9, 3) := by decide +kernel
theorem dX6_begin_168 : decode cX6_begin 168 = .ok (.iload_n 1, 1) := by decide +kernel
theorem dX6_begin_169 : decode cX6_begin 169 = .ok (.bipush 120, 2) := by decide +kernel
theorem dX6_begin_171 : decode cX6_begin 171 = .ok (.if_icmp .ne 47, 3) := by decide +kernel
theorem dX6_begin_174 : decode cX6_begin 174 = .ok (.aload_n 0, 1) := by decide +kernel
theorem dX6_begin_175 : decode cX6_begin 175 = .ok (.aload_n 0, 1) := by decide +kernel
theorem dX6_begin_176 : decode cX6_begin 176 = .ok (.getfield 110, 3) := by decide +kernel
theorem dX6_begin_179 : decode cX6_begin 179 = .ok (.iconst 1, 1) := by decide +kernel
theorem dX6_begin_180 : decode cX6_begin 180 = .ok (.iadd, 1) := by decide +kernel
theorem dX6_begin_181 : decode cX6_begin 181 = .ok (.invokevirtual 113, 3) := by decide +kernel
theorem dX6_begin_184 : decode cX6_begin 184 = .ok (.bipush 40, 2) := by decide +kernel
theorem dX6_begin_186 : decode cX6_begin 186 = .ok (.if_icmp .ne 32, 3) := by decide +kernel
theorem dX6_begin_189 : decode cX6_begin 189 = .ok (.aload_n 0, 1) := by decide +kernel
theorem dX6_begin_190 : decode cX6_begin 190 = .ok (.iload_n 1, 1) := by decide +kernel
theorem dX6_begin_191 : decode cX6_begin 191 = .ok (.bipush 109, 2) := by decide +kernel
theorem dX6_begin_193 : decode cX6_begin 193 = .ok (.if_icmp .ne 7, 3) := by decide +kernel
theorem dX6_begin_196 : decode cX6_begin 196 = .ok (.iconst 2, 1) := by decide +kernel
theorem dX6_begin_197 : decode cX6_begin 197 = .ok (.goto 4, 3) := by decide +kernel
theorem dX6_begin_200 : decode cX6_begin 200 = .ok (.iconst 3, 1) := by decide +kernel
theorem dX6_begin_201 : decode cX6_begin 201 = .ok (.iconst 0, 1) := by decide +kernel
theorem dX6_begin_202 : decode cX6_begin 202 = .ok (.invokevirtual 131, 3) := by decide +kernel
theorem dX6_begin_205 : decode cX6_begin 205 = .ok (.pop, 1) := by decide +kernel
theorem dX6_begin_206 : decode cX6_begin 206 = .ok (.aload_n 0, 1) := by decide +kernel
theorem dX6_begin_207 : decode cX6_begin 207 = .ok (.dup, 1) := by decide +kernel
theorem dX6_begin_208 : decode cX6_begin 208 = .ok (.getfield 110, 3) := by decide +kernel
theorem dX6_begin_211 : decode cX6_begin 211 = .ok (.iconst 2, 1) := by decide +kernel
theorem dX6_begin_212 : decode cX6_begin 212 = .ok (.iadd, 1) := by decide +kernel
theorem dX6_begin_213 : decode cX6_begin 213 = .ok (.putfield 110, 3) := by decide +kernel
theorem dX6_begin_216 : decode cX6_begin 216 = .ok (.iconst 2, 1) := by decide +kernel
theorem dX6_begin_217 : decode cX6_begin 217 = .ok (.ireturn, 1) := by decide +kernel
theorem dX6_begin_218 : decode cX6_begin 218 = .ok (.aload_n 0, 1) := by decide +kernel
theorem dX6_begin_219 : decode cX6_begin 219 = .ok (.aload_n 0, 1) := by decide +kernel
theorem dX6_begin_220 : decode cX6_begin 220 = .ok (.getfield 110, 3) := by decide +kernel
theorem dX6_begin_223 : decode cX6_begin 223 = .ok (.iconst 1, 1) := by decide +kernel
theorem dX6_begin_224 : decode cX6_begin 224 = .ok (.iadd, 1) := by decide +kernel
theorem dX6_begin_225 : decode cX6_begin 225 = .ok (.invokevirtual 113, 3) := by decide +kernel
theorem dX6_begin_228 : decode cX6_begin 228 = .ok (.bipush 48, 2) := by decide +kernel
theorem dX6_begin_230 : decode cX6_begin 230 = .ok (.isub, 1) := by decide +kernel
theorem dX6_begin_231 : decode cX6_begin 231 = .ok (.istore_n 2, 1) := by decide +kernel
theorem dX6_begin_232 : decode cX6_begin 232 = .ok (.iload_n 1, 1) := by decide +kernel
theorem dX6_begin_233 : decode cX6_begin 233 = .ok (.bipush 116, 2) := by decide +kernel
theorem dX6_begin_235 : decode cX6_begin 235 = .ok (.if_icmp .ne 30, 3) := by decide +kernel
theorem dX6_begin_238 : decode cX6_begin 238 = .ok (.iload_n 2, 1) := by decide +kernel
theorem dX6_begin_239 : decode cX6_begin 239 = .ok (.i2l, 1) := by decide +kernel
theorem dX6_begin_240 : decode cX6_begin 240 = .ok (.lconst 0, 1) := by decide +kernel
theorem dX6_begin_241 : decode cX6_begin 241 = .ok (.ldc2_w 135, 3) := by decide +kernel
theorem dX6_begin_244 : decode cX6_begin 244 = .ok (.invokestatic 137, 3) := by decide +kernel
theorem dX6_begin_247 : decode cX6_begin 247 = .ok (.ifCond .eq 18, 3) := by decide +kernel
theorem dX6_begin_250 : decode cX6_begin 250 = .ok (.aload_n 0, 1) := by decide +kernel
theorem dX6_begin_251 : decode cX6_begin 251 = .ok (.aload_n 0, 1) := by decide +kernel
theorem dX6_begin_252 : decode cX6_begin 252 = .ok (.getfield 110, 3) := by decide +kernel
theorem dX6_begin_255 : decode cX6_begin 255 = .ok (.iconst 2, 1) := by decide +kernel
theorem dX6_begin_256 : decode cX6_begin 256 = .ok (.iadd, 1) := by decide +kernel
theorem dX6_begin_257 : decode cX6_begin 257 = .ok (.invokevirtual 113, 3) := by decide +kernel
theorem dX6_begin_260 : decode cX6_begin 260 = .ok (.bipush 40, 2) := by decide +kernel
theorem dX6_begin_262 : decode cX6_begin 262 = .ok (.if_icmp .eq 5, 3) := by decide +kernel
theorem dX6_begin_265 : decode cX6_begin 265 = .ok (.iconst 0, 1) := by decide +kernel
theorem dX6_begin_266 : decode cX6_begin 266 = .ok (.ireturn, 1) := by decide +kernel
theorem dX6_begin_267 : decode cX6_begin 267 = .ok (.aload_n 0, 1) := by decide +kernel
theorem dX6_begin_268 : decode cX6_begin 268 = .ok (.bipush 6, 2) := by decide +kernel
theorem dX6_begin_270 : decode cX6_begin 270 = .ok (.iload_n 2, 1) := by decide +kernel
theorem dX6_begin_271 : decode cX6_begin 271 = .ok (.invokevirtual 131, 3) := by decide +kernel
theorem dX6_begin_274 : decode cX6_begin 274 = .ok (.pop, 1) := by decide +kernel
theorem dX6_begin_275 : decode cX6_begin 275 = .ok (.aload_n 0, 1) := by decide +kernel
theorem dX6_begin_276 : decode cX6_begin 276 = .ok (.dup, 1) := by decide +kernel
theorem dX6_begin_277 : decode cX6_begin 277 = .ok (.getfield 110, 3) := by decide +kernel
theorem dX6_begin_280 : decode cX6_begin 280 = .ok (.iconst 3, 1) := by decide +kernel
theorem dX6_begin_281 : decode cX6_begin 281 = .ok (.iadd, 1) := by decide +kernel
theorem dX6_begin_282 : decode cX6_begin 282 = .ok (.putfield 110, 3) := by decide +kernel
theorem dX6_begin_285 : decode cX6_begin 285 = .ok (.iconst 2, 1) := by decide +kernel
theorem dX6_begin_286 : decode cX6_begin 286 = .ok (.ireturn, 1) := by decide +kernel
theorem dX6_settle_0 : decode cX6_settle 0 = .ok (.aload_n 0, 1) := by decide +kernel
theorem dX6_settle_1 : decode cX6_settle 1 = .ok (.invokevirtual 141, 3) := by decide +kernel
theorem dX6_settle_4 : decode cX6_settle 4 = .ok (.bipush 11, 2) := by decide +kernel
theorem dX6_settle_6 : decode cX6_settle 6 = .ok (.if_icmp .eq 12, 3) := by decide +kernel
theorem dX6_settle_9 : decode cX6_settle 9 = .ok (.aload_n 0, 1) := by decide +kernel
theorem dX6_settle_10 : decode cX6_settle 10 = .ok (.invokevirtual 141, 3) := by decide +kernel
theorem dX6_settle_13 : decode cX6_settle 13 = .ok (.bipush 12, 2) := by decide +kernel
theorem dX6_settle_15 : decode cX6_settle 15 = .ok (.if_icmp .ne 42, 3) := by decide +kernel
theorem dX6_settle_18 : decode cX6_settle 18 = .ok (.aload_n 0, 1) := by decide +kernel
theorem dX6_settle_19 : decode cX6_settle 19 = .ok (.dup, 1) := by decide +kernel
theorem dX6_settle_20 : decode cX6_settle 20 = .ok (.getfield 107, 3) := by decide +kernel
theorem dX6_settle_23 : decode cX6_settle 23 = .ok (.iconst 1, 1) := by decide +kernel
theorem dX6_settle_24 : decode cX6_settle 24 = .ok (.isub, 1) := by decide +kernel
theorem dX6_settle_25 : decode cX6_settle 25 = .ok (.putfield 107, 3) := by decide +kernel
theorem dX6_settle_28 : decode cX6_settle 28 = .ok (.aload_n 0, 1) := by decide +kernel
theorem dX6_settle_29 : decode cX6_settle 29 = .ok (.aload_n 0, 1) := by decide +kernel
theorem dX6_settle_30 : decode cX6_settle 30 = .ok (.getfield 70, 3) := by decide +kernel
theorem dX6_settle_33 : decode cX6_settle 33 = .ok (.aload_n 0, 1) := by decide +kernel
theorem dX6_settle_34 : decode cX6_settle 34 = .ok (.getfield 107, 3) := by decide +kernel
theorem dX6_settle_37 : decode cX6_settle 37 = .ok (.iaload, 1) := by decide +kernel
theorem dX6_settle_38 : decode cX6_settle 38 = .ok (.bipush 11, 2) := by decide +kernel
theorem dX6_settle_40 : decode cX6_settle 40 = .ok (.if_icmp .ne 8, 3) := by decide +kernel
theorem dX6_settle_43 : decode cX6_settle 43 = .ok (.bipush 7, 2) := by decide +kernel
theorem dX6_settle_45 : decode cX6_settle 45 = .ok (.goto 5, 3) := by decide +kernel
theorem dX6_settle_48 : decode cX6_settle 48 = .ok (.bipush 8, 2) := by decide +kernel
theorem dX6_settle_50 : decode cX6_settle 50 = .ok (.iconst 0, 1) := by decide +kernel
theorem dX6_settle_51 : decode cX6_settle 51 = .ok (.invokevirtual 117, 3) := by decide +kernel
theorem dX6_settle_54 : decode cX6_settle 54 = .ok (.goto (-54), 3) := by decide +kernel
theorem dX6_settle_57 : decode cX6_settle 57 = .ok (.return_, 1) := by decide +kernel
theorem dX6_close_0 : decode cX6_close 0 = .ok (.aload_n 0, 1) := by decide +kernel
theorem dX6_close_1 : decode cX6_close 1 = .ok (.invokevirtual 144, 3) := by decide +kernel
theorem dX6_close_4 : decode cX6_close 4 = .ok (.aload_n 0, 1) := by decide +kernel
theorem dX6_close_5 : decode cX6_close 5 = .ok (.invokevirtual 141, 3) := by decide +kernel
theorem dX6_close_8 : decode cX6_close 8 = .ok (.bipush 10, 2) := by decide +kernel
theorem dX6_close_10 : decode cX6_close 10 = .ok (.if_icmp .ne 34, 3) := by decide +kernel
theorem dX6_close_13 : decode cX6_close 13 = .ok (.aload_n 0, 1) := by decide +kernel
theorem dX6_close_14 : decode cX6_close 14 = .ok (.dup, 1) := by decide +kernel
theorem dX6_close_15 : decode cX6_close 15 = .ok (.getfield 107, 3) := by decide +kernel
theorem dX6_close_18 : decode cX6_close 18 = .ok (.iconst 1, 1) := by decide +kernel
theorem dX6_close_19 : decode cX6_close 19 = .ok (.isub, 1) := by decide +kernel
theorem dX6_close_20 : decode cX6_close 20 = .ok (.putfield 107, 3) := by decide +kernel
theorem dX6_close_23 : decode cX6_close 23 = .ok (.aload_n 0, 1) := by decide +kernel
theorem dX6_close_24 : decode cX6_close 24 = .ok (.getfield 79, 3) := by decide +kernel
theorem dX6_close_27 : decode cX6_close 27 = .ok (.aload_n 0, 1) := by decide +kernel
theorem dX6_close_28 : decode cX6_close 28 = .ok (.getfield 73, 3) := by decide +kernel
theorem dX6_close_31 : decode cX6_close 31 = .ok (.aload_n 0, 1) := by decide +kernel
theorem dX6_close_32 : decode cX6_close 32 = .ok (.getfield 107, 3) := by decide +kernel
theorem dX6_close_35 : decode cX6_close 35 = .ok (.iaload, 1) := by decide +kernel
theorem dX6_close_36 : decode cX6_close 36 = .ok (.aload_n 0, 1) := by decide +kernel
theorem dX6_close_37 : decode cX6_close 37 = .ok (.getfield 104, 3) := by decide +kernel
theorem dX6_close_40 : decode cX6_close 40 = .ok (.iastore, 1) := by decide +kernel
theorem dX6_close_41 : decode cX6_close 41 = .ok (.goto (-37), 3) := by decide +kernel
theorem dX6_close_44 : decode cX6_close 44 = .ok (.aload_n 0, 1) := by decide +kernel
theorem dX6_close_45 : decode cX6_close 45 = .ok (.invokevirtual 141, 3) := by decide +kernel
theorem dX6_close_48 : decode cX6_close 48 = .ok (.bipush 7, 2) := by decide +kernel
theorem dX6_close_50 : decode cX6_close 50 = .ok (.if_icmp .eq 16, 3) := by decide +kernel
theorem dX6_close_53 : decode cX6_close 53 = .ok (.aload_n 0, 1) := by decide +kernel
theorem dX6_close_54 : decode cX6_close 54 = .ok (.invokevirtual 141, 3) := by decide +kernel
theorem dX6_close_57 : decode cX6_close 57 = .ok (.bipush 8, 2) := by decide +kernel
theorem dX6_close_59 : decode cX6_close 59 = .ok (.if_icmp .eq 7, 3) := by decide +kernel
theorem dX6_close_62 : decode cX6_close 62 = .ok (.iconst 1, 1) := by decide +kernel
theorem dX6_close_63 : decode cX6_close 63 = .ok (.goto 4, 3) := by decide +kernel
theorem dX6_close_66 : decode cX6_close 66 = .ok (.iconst 0, 1) := by decide +kernel
theorem dX6_close_67 : decode cX6_close 67 = .ok (.ireturn, 1) := by decide +kernel
theorem dX6_goOn_0 : decode cX6_goOn 0 = .ok (.aload_n 0, 1) := by decide +kernel
theorem dX6_goOn_1 : decode cX6_goOn 1 = .ok (.aload_n 0, 1) := by decide +kernel
theorem dX6_goOn_2 : decode cX6_goOn 2 = .ok (.getfield 110, 3) := by decide +kernel
theorem dX6_goOn_5 : decode cX6_goOn 5 = .ok (.invokevirtual 113, 3) := by decide +kernel
theorem dX6_goOn_8 : decode cX6_goOn 8 = .ok (.istore_n 2, 1) := by decide +kernel
theorem dX6_goOn_9 : decode cX6_goOn 9 = .ok (.aload_n 0, 1) := by decide +kernel
theorem dX6_goOn_10 : decode cX6_goOn 10 = .ok (.dup, 1) := by decide +kernel
theorem dX6_goOn_11 : decode cX6_goOn 11 = .ok (.getfield 110, 3) := by decide +kernel
theorem dX6_goOn_14 : decode cX6_goOn 14 = .ok (.iconst 1, 1) := by decide +kernel
theorem dX6_goOn_15 : decode cX6_goOn 15 = .ok (.iadd, 1) := by decide +kernel
theorem dX6_goOn_16 : decode cX6_goOn 16 = .ok (.putfield 110, 3) := by decide +kernel
theorem dX6_goOn_19 : decode cX6_goOn 19 = .ok (.iload_n 2, 1) := by decide +kernel
theorem dX6_goOn_20 : decode cX6_goOn 20 = .ok (.bipush 42, 2) := by decide +kernel
theorem dX6_goOn_22 : decode cX6_goOn 22 = .ok (.if_icmp .ne 76, 3) := by decide +kernel
theorem dX6_goOn_25 : decode cX6_goOn 25 = .ok (.aload_n 0, 1) := by decide +kernel
theorem dX6_goOn_26 : decode cX6_goOn 26 = .ok (.getfield 110, 3) := by decide +kernel
theorem dX6_goOn_29 : decode cX6_goOn 29 = .ok (.istore_n 3, 1) := by decide +kernel
theorem dX6_goOn_30 : decode cX6_goOn 30 = .ok (.aload_n 0, 1) := by decide +kernel
theorem dX6_goOn_31 : decode cX6_goOn 31 = .ok (.iconst 3, 1) := by decide +kernel
theorem dX6_goOn_32 : decode cX6_goOn 32 = .ok (.invokevirtual 124, 3) := by decide +kernel
theorem dX6_goOn_35 : decode cX6_goOn 35 = .ok (.istore 4, 2) := by decide +kernel
theorem dX6_goOn_37 : decode cX6_goOn 37 = .ok (.iload_n 1, 1) := by decide +kernel
theorem dX6_goOn_38 : decode cX6_goOn 38 = .ok (.ifCond .ne 28, 3) := by decide +kernel
theorem dX6_goOn_41 : decode cX6_goOn 41 = .ok (.aload_n 0, 1) := by decide +kernel
theorem dX6_goOn_42 : decode cX6_goOn 42 = .ok (.getfield 110, 3) := by decide +kernel
theorem dX6_goOn_45 : decode cX6_goOn 45 = .ok (.iload_n 3, 1) := by decide +kernel
theorem dX6_goOn_46 : decode cX6_goOn 46 = .ok (.if_icmp .le 20, 3) := by decide +kernel
theorem dX6_goOn_49 : decode cX6_goOn 49 = .ok (.aload_n 0, 1) := by decide +kernel
theorem dX6_goOn_50 : decode cX6_goOn 50 = .ok (.aload_n 0, 1) := by decide +kernel
theorem dX6_goOn_51 : decode cX6_goOn 51 = .ok (.getfield 110, 3) := by decide +kernel
theorem dX6_goOn_54 : decode cX6_goOn 54 = .ok (.invokevirtual 113, 3) := by decide +kernel
theorem dX6_goOn_57 : decode cX6_goOn 57 = .ok (.bipush 37, 2) := by decide +kernel
theorem dX6_goOn_59 : decode cX6_goOn 59 = .ok (.if_icmp .ne 7, 3) := by decide +kernel
theorem dX6_goOn_62 : decode cX6_goOn 62 = .ok (.iconst 1, 1) := by decide +kernel
theorem dX6_goOn_63 : decode cX6_goOn 63 = .ok (.goto 4, 3) := by decide +kernel
theorem dX6_goOn_66 : decode cX6_goOn 66 = .ok (.iconst 0, 1) := by decide +kernel
theorem dX6_goOn_67 : decode cX6_goOn 67 = .ok (.istore 5, 2) := by decide +kernel
theorem dX6_goOn_69 : decode cX6_goOn 69 = .ok (.aload_n 0, 1) := by decide +kernel
theorem dX6_goOn_70 : decode cX6_goOn 70 = .ok (.dup, 1) := by decide +kernel
theorem dX6_goOn_71 : decode cX6_goOn 71 = .ok (.getfield 110, 3) := by decide +kernel
theorem dX6_goOn_74 : decode cX6_goOn 74 = .ok (.iconst 1, 1) := by decide +kernel
theorem dX6_goOn_75 : decode cX6_goOn 75 = .ok (.iadd, 1) := by decide +kernel
theorem dX6_goOn_76 : decode cX6_goOn 76 = .ok (.putfield 110, 3) := by decide +kernel
theorem dX6_goOn_79 : decode cX6_goOn 79 = .ok (.aload_n 0, 1) := by decide +kernel
theorem dX6_goOn_80 : decode cX6_goOn 80 = .ok (.bipush 6, 2) := by decide +kernel
theorem dX6_goOn_82 : decode cX6_goOn 82 = .ok (.iload 4, 2) := by decide +kernel
theorem dX6_goOn_84 : decode cX6_goOn 84 = .ok (.invokevirtual 117, 3) := by decide +kernel
theorem dX6_goOn_87 : decode cX6_goOn 87 = .ok (.iload 5, 2) := by decide +kernel
theorem dX6_goOn_89 : decode cX6_goOn 89 = .ok (.ifCond .eq 7, 3) := by decide +kernel
theorem dX6_goOn_92 : decode cX6_goOn 92 = .ok (.iconst 3, 1) := by decide +kernel
theorem dX6_goOn_93 : decode cX6_goOn 93 = .ok (.goto 4, 3) := by decide +kernel
theorem dX6_goOn_96 : decode cX6_goOn 96 = .ok (.iconst 0, 1) := by decide +kernel
theorem dX6_goOn_97 : decode cX6_goOn 97 = .ok (.ireturn, 1) := by decide +kernel
theorem dX6_goOn_98 : decode cX6_goOn 98 = .ok (.iload_n 2, 1) := by decide +kernel
theorem dX6_goOn_99 : decode cX6_goOn 99 = .ok (.bipush 43, 2) := by decide +kernel
theorem dX6_goOn_101 : decode cX6_goOn 101 = .ok (.if_icmp .eq 9, 3) := by decide +kernel
theorem dX6_goOn_104 : decode cX6_goOn 104 = .ok (.iload_n 2, 1) := by decide +kernel
theorem dX6_goOn_105 : decode cX6_goOn 105 = .ok (.bipush 45, 2) := by decide +kernel
theorem dX6_goOn_107 : decode cX6_goOn 107 = .ok (.if_icmp .ne 28, 3) := by decide +kernel
theorem dX6_goOn_110 : decode cX6_goOn 110 = .ok (.aload_n 0, 1) := by decide +kernel
theorem dX6_goOn_111 : decode cX6_goOn 111 = .ok (.invokevirtual 144, 3) := by decide +kernel
theorem dX6_goOn_114 : decode cX6_goOn 114 = .ok (.aload_n 0, 1) := by decide +kernel
theorem dX6_goOn_115 : decode cX6_goOn 115 = .ok (.iload_n 2, 1) := by decide +kernel
theorem dX6_goOn_116 : decode cX6_goOn 116 = .ok (.bipush 43, 2) := by decide +kernel
theorem dX6_goOn_118 : decode cX6_goOn 118 = .ok (.if_icmp .ne 8, 3) := by decide +kernel
theorem dX6_goOn_121 : decode cX6_goOn 121 = .ok (.bipush 11, 2) := by decide +kernel
theorem dX6_goOn_123 : decode cX6_goOn 123 = .ok (.goto 5, 3) := by decide +kernel
theorem dX6_goOn_126 : decode cX6_goOn 126 = .ok (.bipush 12, 2) := by decide +kernel
theorem dX6_goOn_128 : decode cX6_goOn 128 = .ok (.iconst 0, 1) := by decide +kernel
theorem dX6_goOn_129 : decode cX6_goOn 129 = .ok (.invokevirtual 131, 3) := by decide +kernel
theorem dX6_goOn_132 : decode cX6_goOn 132 = .ok (.pop, 1) := by decide +kernel
theorem dX6_goOn_133 : decode cX6_goOn 133 = .ok (.iconst 2, 1) := by decide +kernel
theorem dX6_goOn_134 : decode cX6_goOn 134 = .ok (.ireturn, 1) := by decide +kernel
theorem dX6_goOn_135 : decode cX6_goOn 135 = .ok (.iload_n 2, 1) := by decide +kernel
theorem dX6_goOn_136 : decode cX6_goOn 136 = .ok (.bipush 60, 2) := by decide +kernel
theorem dX6_goOn_138 : decode cX6_goOn 138 = .ok (.if_icmp .eq 9, 3) := by decide +kernel
theorem dX6_goOn_141 : decode cX6_goOn 141 = .ok (.iload_n 2, 1) := by decide +kernel
theorem dX6_goOn_142 : decode cX6_goOn 142 = .ok (.bipush 62, 2) := by decide +kernel
theorem dX6_goOn_144 : decode cX6_goOn 144 = .ok (.if_icmp .ne 48, 3) := by decide +kernel
theorem dX6_goOn_147 : decode cX6_goOn 147 = .ok (.aload_n 0, 1) := by decide +kernel
theorem dX6_goOn_148 : decode cX6_goOn 148 = .ok (.invokevirtual 144, 3) := by decide +kernel
theorem dX6_goOn_151 : decode cX6_goOn 151 = .ok (.aload_n 0, 1) := by decide +kernel
theorem dX6_goOn_152 : decode cX6_goOn 152 = .ok (.invokevirtual 141, 3) := by decide +kernel
theorem dX6_goOn_155 : decode cX6_goOn 155 = .ok (.bipush 7, 2) := by decide +kernel
theorem dX6_goOn_157 : decode cX6_goOn 157 = .ok (.if_icmp .eq 12, 3) := by decide +kernel
theorem dX6_goOn_160 : decode cX6_goOn 160 = .ok (.aload_n 0, 1) := by decide +kernel
theorem dX6_goOn_161 : decode cX6_goOn 161 = .ok (.invokevirtual 141, 3) := by decide +kernel
theorem dX6_goOn_164 : decode cX6_goOn 164 = .ok (.bipush 8, 2) := by decide +kernel
theorem dX6_goOn_166 : decode cX6_goOn 166 = .ok (.if_icmp .ne 5, 3) := by decide +kernel
theorem dX6_goOn_169 : decode cX6_goOn 169 = .ok (.iconst 0, 1) := by decide +kernel
theorem dX6_goOn_170 : decode cX6_goOn 170 = .ok (.ireturn, 1) := by decide +kernel
theorem dX6_goOn_171 : decode cX6_goOn 171 = .ok (.aload_n 0, 1) := by decide +kernel
theorem dX6_goOn_172 : decode cX6_goOn 172 = .ok (.iload_n 2, 1) := by decide +kernel
theorem dX6_goOn_173 : decode cX6_goOn 173 = .ok (.bipush 60, 2) := by decide +kernel
theorem dX6_goOn_175 : decode cX6_goOn 175 = .ok (.if_icmp .ne 8, 3) := by decide +kernel
theorem dX6_goOn_178 : decode cX6_goOn 178 = .ok (.bipush 7, 2) := by decide +kernel
theorem dX6_goOn_180 : decode cX6_goOn 180 = .ok (.goto 5, 3) := by decide +kernel
theorem dX6_goOn_183 : decode cX6_goOn 183 = .ok (.bipush 8, 2) := by decide +kernel
theorem dX6_goOn_185 : decode cX6_goOn 185 = .ok (.iconst 0, 1) := by decide +kernel
theorem dX6_goOn_186 : decode cX6_goOn 186 = .ok (.invokevirtual 131, 3) := by decide +kernel
theorem dX6_goOn_189 : decode cX6_goOn 189 = .ok (.pop, 1) := by decide +kernel
theorem dX6_goOn_190 : decode cX6_goOn 190 = .ok (.iconst 2, 1) := by decide +kernel
theorem dX6_goOn_191 : decode cX6_goOn 191 = .ok (.ireturn, 1) := by decide +kernel
theorem dX6_goOn_192 : decode cX6_goOn 192 = .ok (.iload_n 2, 1) := by decide +kernel
theorem dX6_goOn_193 : decode cX6_goOn 193 = .ok (.bipush 63, 2) := by decide +kernel
theorem dX6_goOn_195 : decode cX6_goOn 195 = .ok (.if_icmp .ne 85, 3) := by decide +kernel
theorem dX6_goOn_198 : decode cX6_goOn 198 = .ok (.aload_n 0, 1) := by decide +kernel
theorem dX6_goOn_199 : decode cX6_goOn 199 = .ok (.invokevirtual 144, 3) := by decide +kernel
theorem dX6_goOn_202 : decode cX6_goOn 202 = .ok (.aload_n 0, 1) := by decide +kernel
theorem dX6_goOn_203 : decode cX6_goOn 203 = .ok (.invokevirtual 141, 3) := by decide +kernel
theorem dX6_goOn_206 : decode cX6_goOn 206 = .ok (.bipush 7, 2) := by decide +kernel
theorem dX6_goOn_208 : decode cX6_goOn 208 = .ok (.if_icmp .eq 14, 3) := by decide +kernel
theorem dX6_goOn_211 : decode cX6_goOn 211 = .ok (.aload_n 0, 1) := by decide +kernel
theorem dX6_goOn_212 : decode cX6_goOn 212 = .ok (.invokevirtual 141, 3) := by decide +kernel
theorem dX6_goOn_215 : decode cX6_goOn 215 = .ok (.bipush 8, 2) := by decide +kernel
theorem dX6_goOn_217 : decode cX6_goOn 217 = .ok (.if_icmp .eq 5, 3) := by decide +kernel
theorem dX6_goOn_220 : decode cX6_goOn 220 = .ok (.iconst 0, 1) := by decide +kernel
theorem dX6_goOn_221 : decode cX6_goOn 221 = .ok (.ireturn, 1) := by decide +kernel
theorem dX6_goOn_222 : decode cX6_goOn 222 = .ok (.aload_n 0, 1) := by decide +kernel
theorem dX6_goOn_223 : decode cX6_goOn 223 = .ok (.dup, 1) := by decide +kernel
theorem dX6_goOn_224 : decode cX6_goOn 224 = .ok (.getfield 107, 3) := by decide +kernel
theorem dX6_goOn_227 : decode cX6_goOn 227 = .ok (.iconst 1, 1) := by decide +kernel
theorem dX6_goOn_228 : decode cX6_goOn 228 = .ok (.isub, 1) := by decide +kernel
theorem dX6_goOn_229 : decode cX6_goOn 229 = .ok (.putfield 107, 3) := by decide +kernel
theorem dX6_goOn_232 : decode cX6_goOn 232 = .ok (.aload_n 0, 1) := by decide +kernel
theorem dX6_goOn_233 : decode cX6_goOn 233 = .ok (.aload_n 0, 1) := by decide +kernel
theorem dX6_goOn_234 : decode cX6_goOn 234 = .ok (.getfield 70, 3) := by decide +kernel
theorem dX6_goOn_237 : decode cX6_goOn 237 = .ok (.aload_n 0, 1) := by decide +kernel
theorem dX6_goOn_238 : decode cX6_goOn 238 = .ok (.getfield 107, 3) := by decide +kernel
theorem dX6_goOn_241 : decode cX6_goOn 241 = .ok (.iaload, 1) := by decide +kernel
theorem dX6_goOn_242 : decode cX6_goOn 242 = .ok (.bipush 7, 2) := by decide +kernel
theorem dX6_goOn_244 : decode cX6_goOn 244 = .ok (.if_icmp .ne 8, 3) := by decide +kernel
theorem dX6_goOn_247 : decode cX6_goOn 247 = .ok (.bipush 9, 2) := by decide +kernel
theorem dX6_goOn_249 : decode cX6_goOn 249 = .ok (.goto 5, 3) := by decide +kernel
theorem dX6_goOn_252 : decode cX6_goOn 252 = .ok (.bipush 10, 2) := by decide +kernel
theorem dX6_goOn_254 : decode cX6_goOn 254 = .ok (.iconst 0, 1) := by decide +kernel
theorem dX6_goOn_255 : decode cX6_goOn 255 = .ok (.invokevirtual 117, 3) := by decide +kernel
theorem dX6_goOn_258 : decode cX6_goOn 258 = .ok (.aload_n 0, 1) := by decide +kernel
theorem dX6_goOn_259 : decode cX6_goOn 259 = .ok (.bipush 11, 2) := by decide +kernel
theorem dX6_goOn_261 : decode cX6_goOn 261 = .ok (.iconst 0, 1) := by decide +kernel
theorem dX6_goOn_262 : decode cX6_goOn 262 = .ok (.invokevirtual 117, 3) := by decide +kernel
theorem dX6_goOn_265 : decode cX6_goOn 265 = .ok (.aload_n 0, 1) := by decide +kernel
theorem dX6_goOn_266 : decode cX6_goOn 266 = .ok (.bipush 9, 2) := by decide +kernel
theorem dX6_goOn_268 : decode cX6_goOn 268 = .ok (.aload_n 0, 1) := by decide +kernel
theorem dX6_goOn_269 : decode cX6_goOn 269 = .ok (.getfield 104, 3) := by decide +kernel
theorem dX6_goOn_272 : decode cX6_goOn 272 = .ok (.iconst 1, 1) := by decide +kernel
theorem dX6_goOn_273 : decode cX6_goOn 273 = .ok (.isub, 1) := by decide +kernel
theorem dX6_goOn_274 : decode cX6_goOn 274 = .ok (.invokevirtual 131, 3) := by decide +kernel
theorem dX6_goOn_277 : decode cX6_goOn 277 = .ok (.pop, 1) := by decide +kernel
theorem dX6_goOn_278 : decode cX6_goOn 278 = .ok (.iconst 2, 1) := by decide +kernel
theorem dX6_goOn_279 : decode cX6_goOn 279 = .ok (.ireturn, 1) := by decide +kernel
theorem dX6_goOn_280 : decode cX6_goOn 280 = .ok (.aload_n 0, 1) := by decide +kernel
theorem dX6_goOn_281 : decode cX6_goOn 281 = .ok (.iload_n 2, 1) := by decide +kernel
theorem dX6_goOn_282 : decode cX6_goOn 282 = .ok (.invokevirtual 147, 3) := by decide +kernel
theorem dX6_goOn_285 : decode cX6_goOn 285 = .ok (.ireturn, 1) := by decide +kernel
theorem dX6_ends_0 : decode cX6_ends 0 = .ok (.aload_n 0, 1) := by decide +kernel
theorem dX6_ends_1 : decode cX6_ends 1 = .ok (.invokevirtual 150, 3) := by decide +kernel
theorem dX6_ends_4 : decode cX6_ends 4 = .ok (.ifCond .ne 5, 3) := by decide +kernel
theorem dX6_ends_7 : decode cX6_ends 7 = .ok (.iconst 0, 1) := by decide +kernel
theorem dX6_ends_8 : decode cX6_ends 8 = .ok (.ireturn, 1) := by decide +kernel
theorem dX6_ends_9 : decode cX6_ends 9 = .ok (.aload_n 0, 1) := by decide +kernel
theorem dX6_ends_10 : decode cX6_ends 10 = .ok (.invokevirtual 141, 3) := by decide +kernel
theorem dX6_ends_13 : decode cX6_ends 13 = .ok (.istore_n 2, 1) := by decide +kernel
theorem dX6_ends_14 : decode cX6_ends 14 = .ok (.aload_n 0, 1) := by decide +kernel
theorem dX6_ends_15 : decode cX6_ends 15 = .ok (.aload_n 0, 1) := by decide +kernel
theorem dX6_ends_16 : decode cX6_ends 16 = .ok (.getfield 107, 3) := by decide +kernel
theorem dX6_ends_19 : decode cX6_ends 19 = .ok (.ifCond .le 12, 3) := by decide +kernel
theorem dX6_ends_22 : decode cX6_ends 22 = .ok (.aload_n 0, 1) := by decide +kernel
theorem dX6_ends_23 : decode cX6_ends 23 = .ok (.getfield 107, 3) := by decide +kernel
theorem dX6_ends_26 : decode cX6_ends 26 = .ok (.iconst 1, 1) := by decide +kernel
theorem dX6_ends_27 : decode cX6_ends 27 = .ok (.isub, 1) := by decide +kernel
theorem dX6_ends_28 : decode cX6_ends 28 = .ok (.goto 4, 3) := by decide +kernel
theorem dX6_ends_31 : decode cX6_ends 31 = .ok (.iconst 0, 1) := by decide +kernel
theorem dX6_ends_32 : decode cX6_ends 32 = .ok (.putfield 107, 3) := by decide +kernel
theorem dX6_ends_35 : decode cX6_ends 35 = .ok (.iload_n 1, 1) := by decide +kernel
theorem dX6_ends_36 : decode cX6_ends 36 = .ok (.bipush 58, 2) := by decide +kernel
theorem dX6_ends_38 : decode cX6_ends 38 = .ok (.if_icmp .ne 49, 3) := by decide +kernel
theorem dX6_ends_41 : decode cX6_ends 41 = .ok (.iload_n 2, 1) := by decide +kernel
theorem dX6_ends_42 : decode cX6_ends 42 = .ok (.bipush 9, 2) := by decide +kernel
theorem dX6_ends_44 : decode cX6_ends 44 = .ok (.if_icmp .ne 43, 3) := by decide +kernel
theorem dX6_ends_47 : decode cX6_ends 47 = .ok (.aload_n 0, 1) := by decide +kernel
theorem dX6_ends_48 : decode cX6_ends 48 = .ok (.bipush 12, 2) := by decide +kernel
theorem dX6_ends_50 : decode cX6_ends 50 = .ok (.iconst 0, 1) := by decide +kernel
theorem dX6_ends_51 : decode cX6_ends 51 = .ok (.invokevirtual 117, 3) := by decide +kernel
theorem dX6_ends_54 : decode cX6_ends 54 = .ok (.aload_n 0, 1) := by decide +kernel
theorem dX6_ends_55 : decode cX6_ends 55 = .ok (.getfield 79, 3) := by decide +kernel
theorem dX6_ends_58 : decode cX6_ends 58 = .ok (.aload_n 0, 1) := by decide +kernel
theorem dX6_ends_59 : decode cX6_ends 59 = .ok (.getfield 73, 3) := by decide +kernel
theorem dX6_ends_62 : decode cX6_ends 62 = .ok (.aload_n 0, 1) := by decide +kernel
theorem dX6_ends_63 : decode cX6_ends 63 = .ok (.getfield 107, 3) := by decide +kernel
theorem dX6_ends_66 : decode cX6_ends 66 = .ok (.iaload, 1) := by decide +kernel
theorem dX6_ends_67 : decode cX6_ends 67 = .ok (.aload_n 0, 1) := by decide +kernel
theorem dX6_ends_68 : decode cX6_ends 68 = .ok (.getfield 104, 3) := by decide +kernel
theorem dX6_ends_71 : decode cX6_ends 71 = .ok (.iastore, 1) := by decide +kernel
theorem dX6_ends_72 : decode cX6_ends 72 = .ok (.aload_n 0, 1) := by decide +kernel
theorem dX6_ends_73 : decode cX6_ends 73 = .ok (.bipush 10, 2) := by decide +kernel
theorem dX6_ends_75 : decode cX6_ends 75 = .ok (.aload_n 0, 1) := by decide +kernel
theorem dX6_ends_76 : decode cX6_ends 76 = .ok (.getfield 104, 3) := by decide +kernel
theorem dX6_ends_79 : decode cX6_ends 79 = .ok (.iconst 1, 1) := by decide +kernel
theorem dX6_ends_80 : decode cX6_ends 80 = .ok (.isub, 1) := by decide +kernel
theorem dX6_ends_81 : decode cX6_ends 81 = .ok (.invokevirtual 131, 3) := by decide +kernel
theorem dX6_ends_84 : decode cX6_ends 84 = .ok (.pop, 1) := by decide +kernel
theorem dX6_ends_85 : decode cX6_ends 85 = .ok (.iconst 2, 1) := by decide +kernel
theorem dX6_ends_86 : decode cX6_ends 86 = .ok (.ireturn, 1) := by decide +kernel
theorem dX6_ends_87 : decode cX6_ends 87 = .ok (.iload_n 1, 1) := by decide +kernel
theorem dX6_ends_88 : decode cX6_ends 88 = .ok (.bipush 44, 2) := by decide +kernel
theorem dX6_ends_90 : decode cX6_ends 90 = .ok (.if_icmp .ne 24, 3) := by decide +kernel
theorem dX6_ends_93 : decode cX6_ends 93 = .ok (.iload_n 2, 1) := by decide +kernel
theorem dX6_ends_94 : decode cX6_ends 94 = .ok (.iconst 2, 1) := by decide +kernel
theorem dX6_ends_95 : decode cX6_ends 95 = .ok (.if_icmp .eq 8, 3) := by decide +kernel
theorem dX6_ends_98 : decode cX6_ends 98 = .ok (.iload_n 2, 1) := by decide +kernel
theorem dX6_ends_99 : decode cX6_ends 99 = .ok (.iconst 3, 1) := by decide +kernel
theorem dX6_ends_100 : decode cX6_ends 100 = .ok (.if_icmp .ne 14, 3) := by decide +kernel
theorem dX6_ends_103 : decode cX6_ends 103 = .ok (.aload_n 0, 1) := by decide +kernel
theorem dX6_ends_104 : decode cX6_ends 104 = .ok (.iload_n 2, 1) := by decide +kernel
theorem dX6_ends_105 : decode cX6_ends 105 = .ok (.iconst 2, 1) := by decide +kernel
theorem dX6_ends_106 : decode cX6_ends 106 = .ok (.iadd, 1) := by decide +kernel
theorem dX6_ends_107 : decode cX6_ends 107 = .ok (.iconst 0, 1) := by decide +kernel
theorem dX6_ends_108 : decode cX6_ends 108 = .ok (.invokevirtual 131, 3) := by decide +kernel
theorem dX6_ends_111 : decode cX6_ends 111 = .ok (.pop, 1) := by decide +kernel
theorem dX6_ends_112 : decode cX6_ends 112 = .ok (.iconst 2, 1) := by decide +kernel
theorem dX6_ends_113 : decode cX6_ends 113 = .ok (.ireturn, 1) := by decide +kernel
theorem dX6_ends_114 : decode cX6_ends 114 = .ok (.iload_n 1, 1) := by decide +kernel
theorem dX6_ends_115 : decode cX6_ends 115 = .ok (.bipush 41, 2) := by decide +kernel
theorem dX6_ends_117 : decode cX6_ends 117 = .ok (.if_icmp .ne 24, 3) := by decide +kernel
theorem dX6_ends_120 : decode cX6_ends 120 = .ok (.iload_n 2, 1) := by decide +kernel
theorem dX6_ends_121 : decode cX6_ends 121 = .ok (.iconst 1, 1) := by decide +kernel
theorem dX6_ends_122 : decode cX6_ends 122 = .ok (.if_icmp .eq 21, 3) := by decide +kernel
theorem dX6_ends_125 : decode cX6_ends 125 = .ok (.iload_n 2, 1) := by decide +kernel
theorem dX6_ends_126 : decode cX6_ends 126 = .ok (.iconst 4, 1) := by decide +kernel
theorem dX6_ends_127 : decode cX6_ends 127 = .ok (.if_icmp .eq 16, 3) := by decide +kernel
theorem dX6_ends_130 : decode cX6_ends 130 = .ok (.iload_n 2, 1) := by decide +kernel
theorem dX6_ends_131 : decode cX6_ends 131 = .ok (.iconst 5, 1) := by decide +kernel
theorem dX6_ends_132 : decode cX6_ends 132 = .ok (.if_icmp .eq 11, 3) := by decide +kernel
theorem dX6_ends_135 : decode cX6_ends 135 = .ok (.iload_n 2, 1) := by decide +kernel
theorem dX6_ends_136 : decode cX6_ends 136 = .ok (.bipush 6, 2) := by decide +kernel
theorem dX6_ends_138 : decode cX6_ends 138 = .ok (.if_icmp .eq 5, 3) := by decide +kernel
theorem dX6_ends_141 : decode cX6_ends 141 = .ok (.iconst 0, 1) := by decide +kernel
theorem dX6_ends_142 : decode cX6_ends 142 = .ok (.ireturn, 1) := by decide +kernel
theorem dX6_ends_143 : decode cX6_ends 143 = .ok (.iload_n 2, 1) := by decide +kernel
theorem dX6_ends_144 : decode cX6_ends 144 = .ok (.iconst 1, 1) := by decide +kernel
theorem dX6_ends_145 : decode cX6_ends 145 = .ok (.if_icmp .eq 35, 3) := by decide +kernel
theorem dX6_ends_148 : decode cX6_ends 148 = .ok (.aload_n 0, 1) := by decide +kernel
theorem dX6_ends_149 : decode cX6_ends 149 = .ok (.iload_n 2, 1) := by decide +kernel
theorem dX6_ends_150 : decode cX6_ends 150 = .ok (.iconst 4, 1) := by decide +kernel
theorem dX6_ends_151 : decode cX6_ends 151 = .ok (.if_icmp .ne 7, 3) := by decide +kernel
theorem dX6_ends_154 : decode cX6_ends 154 = .ok (.iconst 3, 1) := by decide +kernel
theorem dX6_ends_155 : decode cX6_ends 155 = .ok (.goto 13, 3) := by decide +kernel
theorem dX6_ends_158 : decode cX6_ends 158 = .ok (.iload_n 2, 1) := by decide +kernel
theorem dX6_ends_159 : decode cX6_ends 159 = .ok (.iconst 5, 1) := by decide +kernel
theorem dX6_ends_160 : decode cX6_ends 160 = .ok (.if_icmp .ne 7, 3) := by decide +kernel
theorem dX6_ends_163 : decode cX6_ends 163 = .ok (.iconst 4, 1) := by decide +kernel
theorem dX6_ends_164 : decode cX6_ends 164 = .ok (.goto 4, 3) := by decide +kernel
theorem dX6_ends_167 : decode cX6_ends 167 = .ok (.iconst 5, 1) := by decide +kernel
theorem dX6_ends_168 : decode cX6_ends 168 = .ok (.aload_n 0, 1) := by decide +kernel
theorem dX6_ends_169 : decode cX6_ends 169 = .ok (.getfield 73, 3) := by decide +kernel
theorem dX6_ends_172 : decode cX6_ends 172 = .ok (.aload_n 0, 1) := by decide +kernel
theorem dX6_ends_173 : decode cX6_ends 173 = .ok (.getfield 107, 3) := by decide +kernel
theorem dX6_ends_176 : decode cX6_ends 176 = .ok (.iaload, 1) := by decide +kernel
theorem dX6_ends_177 : decode cX6_ends 177 = .ok (.invokevirtual 117, 3) := by decide +kernel
theorem dX6_ends_180 : decode cX6_ends 180 = .ok (.iconst 1, 1) := by decide +kernel
theorem dX6_ends_181 : decode cX6_ends 181 = .ok (.ireturn, 1) := by decide +kernel
theorem dX6_read_0 : decode cX6_read 0 = .ok (.aload_n 0, 1) := by decide +kernel
theorem dX6_read_1 : decode cX6_read 1 = .ok (.iconst 0, 1) := by decide +kernel
theorem dX6_read_2 : decode cX6_read 2 = .ok (.putfield 110, 3) := by decide +kernel
theorem dX6_read_5 : decode cX6_read 5 = .ok (.aload_n 0, 1) := by decide +kernel
theorem dX6_read_6 : decode cX6_read 6 = .ok (.iconst 0, 1) := by decide +kernel
theorem dX6_read_7 : decode cX6_read 7 = .ok (.putfield 107, 3) := by decide +kernel
theorem dX6_read_10 : decode cX6_read 10 = .ok (.aload_n 0, 1) := by decide +kernel
theorem dX6_read_11 : decode cX6_read 11 = .ok (.iconst 0, 1) := by decide +kernel
theorem dX6_read_12 : decode cX6_read 12 = .ok (.putfield 104, 3) := by decide +kernel
theorem dX6_read_15 : decode cX6_read 15 = .ok (.aload_n 0, 1) := by decide +kernel
theorem dX6_read_16 : decode cX6_read 16 = .ok (.iconst 0, 1) := by decide +kernel
theorem dX6_read_17 : decode cX6_read 17 = .ok (.putfield 121, 3) := by decide +kernel
theorem dX6_read_20 : decode cX6_read 20 = .ok (.iconst 2, 1) := by decide +kernel
