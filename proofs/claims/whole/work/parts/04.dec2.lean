theorem dX6_read_21 : decode cX6_read 21 = .ok (.istore_n 1, 1) := by decide +kernel
theorem dX6_read_22 : decode cX6_read 22 = .ok (.iload_n 1, 1) := by decide +kernel
theorem dX6_read_23 : decode cX6_read 23 = .ok (.ifCond .le 46, 3) := by decide +kernel
theorem dX6_read_26 : decode cX6_read 26 = .ok (.aload_n 0, 1) := by decide +kernel
theorem dX6_read_27 : decode cX6_read 27 = .ok (.getfield 110, 3) := by decide +kernel
theorem dX6_read_30 : decode cX6_read 30 = .ok (.aload_n 0, 1) := by decide +kernel
theorem dX6_read_31 : decode cX6_read 31 = .ok (.getfield 101, 3) := by decide +kernel
theorem dX6_read_34 : decode cX6_read 34 = .ok (.if_icmp .ge 35, 3) := by decide +kernel
theorem dX6_read_37 : decode cX6_read 37 = .ok (.iload_n 1, 1) := by decide +kernel
theorem dX6_read_38 : decode cX6_read 38 = .ok (.istore_n 2, 1) := by decide +kernel
theorem dX6_read_39 : decode cX6_read 39 = .ok (.iload_n 2, 1) := by decide +kernel
theorem dX6_read_40 : decode cX6_read 40 = .ok (.iconst 2, 1) := by decide +kernel
theorem dX6_read_41 : decode cX6_read 41 = .ok (.if_icmp .ne 10, 3) := by decide +kernel
theorem dX6_read_44 : decode cX6_read 44 = .ok (.aload_n 0, 1) := by decide +kernel
theorem dX6_read_45 : decode cX6_read 45 = .ok (.invokevirtual 154, 3) := by decide +kernel
theorem dX6_read_48 : decode cX6_read 48 = .ok (.goto 17, 3) := by decide +kernel
theorem dX6_read_51 : decode cX6_read 51 = .ok (.aload_n 0, 1) := by decide +kernel
theorem dX6_read_52 : decode cX6_read 52 = .ok (.iload_n 2, 1) := by decide +kernel
theorem dX6_read_53 : decode cX6_read 53 = .ok (.iconst 3, 1) := by decide +kernel
theorem dX6_read_54 : decode cX6_read 54 = .ok (.if_icmp .ne 7, 3) := by decide +kernel
theorem dX6_read_57 : decode cX6_read 57 = .ok (.iconst 1, 1) := by decide +kernel
theorem dX6_read_58 : decode cX6_read 58 = .ok (.goto 4, 3) := by decide +kernel
theorem dX6_read_61 : decode cX6_read 61 = .ok (.iconst 0, 1) := by decide +kernel
theorem dX6_read_62 : decode cX6_read 62 = .ok (.invokevirtual 157, 3) := by decide +kernel
theorem dX6_read_65 : decode cX6_read 65 = .ok (.istore_n 1, 1) := by decide +kernel
theorem dX6_read_66 : decode cX6_read 66 = .ok (.goto (-44), 3) := by decide +kernel
theorem dX6_read_69 : decode cX6_read 69 = .ok (.iload_n 1, 1) := by decide +kernel
theorem dX6_read_70 : decode cX6_read 70 = .ok (.iconst 1, 1) := by decide +kernel
theorem dX6_read_71 : decode cX6_read 71 = .ok (.if_icmp .eq 8, 3) := by decide +kernel
theorem dX6_read_74 : decode cX6_read 74 = .ok (.iload_n 1, 1) := by decide +kernel
theorem dX6_read_75 : decode cX6_read 75 = .ok (.iconst 3, 1) := by decide +kernel
theorem dX6_read_76 : decode cX6_read 76 = .ok (.if_icmp .ne 32, 3) := by decide +kernel
theorem dX6_read_79 : decode cX6_read 79 = .ok (.aload_n 0, 1) := by decide +kernel
theorem dX6_read_80 : decode cX6_read 80 = .ok (.getfield 110, 3) := by decide +kernel
theorem dX6_read_83 : decode cX6_read 83 = .ok (.aload_n 0, 1) := by decide +kernel
theorem dX6_read_84 : decode cX6_read 84 = .ok (.getfield 101, 3) := by decide +kernel
theorem dX6_read_87 : decode cX6_read 87 = .ok (.if_icmp .ne 21, 3) := by decide +kernel
theorem dX6_read_90 : decode cX6_read 90 = .ok (.aload_n 0, 1) := by decide +kernel
theorem dX6_read_91 : decode cX6_read 91 = .ok (.invokevirtual 150, 3) := by decide +kernel
theorem dX6_read_94 : decode cX6_read 94 = .ok (.ifCond .eq 14, 3) := by decide +kernel
theorem dX6_read_97 : decode cX6_read 97 = .ok (.aload_n 0, 1) := by decide +kernel
theorem dX6_read_98 : decode cX6_read 98 = .ok (.getfield 107, 3) := by decide +kernel
theorem dX6_read_101 : decode cX6_read 101 = .ok (.ifCond .ne 7, 3) := by decide +kernel
theorem dX6_read_104 : decode cX6_read 104 = .ok (.iconst 1, 1) := by decide +kernel
theorem dX6_read_105 : decode cX6_read 105 = .ok (.goto 4, 3) := by decide +kernel
theorem dX6_read_108 : decode cX6_read 108 = .ok (.iconst 0, 1) := by decide +kernel
theorem dX6_read_109 : decode cX6_read 109 = .ok (.ireturn, 1) := by decide +kernel
theorem dX6_define_0 : decode cX6_define 0 = .ok (.aload_n 0, 1) := by decide +kernel
theorem dX6_define_1 : decode cX6_define 1 = .ok (.iconst 0, 1) := by decide +kernel
theorem dX6_define_2 : decode cX6_define 2 = .ok (.putfield 91, 3) := by decide +kernel
theorem dX6_define_5 : decode cX6_define 5 = .ok (.iload_n 1, 1) := by decide +kernel
theorem dX6_define_6 : decode cX6_define 6 = .ok (.i2l, 1) := by decide +kernel
theorem dX6_define_7 : decode cX6_define 7 = .ok (.lconst 0, 1) := by decide +kernel
theorem dX6_define_8 : decode cX6_define 8 = .ok (.ldc2_w 161, 3) := by decide +kernel
theorem dX6_define_11 : decode cX6_define 11 = .ok (.invokestatic 137, 3) := by decide +kernel
theorem dX6_define_14 : decode cX6_define 14 = .ok (.ifCond .ne 9, 3) := by decide +kernel
theorem dX6_define_17 : decode cX6_define 17 = .ok (.aload_n 0, 1) := by decide +kernel
theorem dX6_define_18 : decode cX6_define 18 = .ok (.iconst 1, 1) := by decide +kernel
theorem dX6_define_19 : decode cX6_define 19 = .ok (.invokevirtual 163, 3) := by decide +kernel
theorem dX6_define_22 : decode cX6_define 22 = .ok (.ireturn, 1) := by decide +kernel
theorem dX6_define_23 : decode cX6_define 23 = .ok (.aload_n 0, 1) := by decide +kernel
theorem dX6_define_24 : decode cX6_define 24 = .ok (.invokevirtual 166, 3) := by decide +kernel
theorem dX6_define_27 : decode cX6_define 27 = .ok (.ifCond .ne 9, 3) := by decide +kernel
theorem dX6_define_30 : decode cX6_define 30 = .ok (.aload_n 0, 1) := by decide +kernel
theorem dX6_define_31 : decode cX6_define 31 = .ok (.iconst 2, 1) := by decide +kernel
theorem dX6_define_32 : decode cX6_define 32 = .ok (.invokevirtual 163, 3) := by decide +kernel
theorem dX6_define_35 : decode cX6_define 35 = .ok (.ireturn, 1) := by decide +kernel
theorem dX6_define_36 : decode cX6_define 36 = .ok (.aload_n 0, 1) := by decide +kernel
theorem dX6_define_37 : decode cX6_define 37 = .ok (.getfield 13, 3) := by decide +kernel
theorem dX6_define_40 : decode cX6_define 40 = .ok (.iload_n 1, 1) := by decide +kernel
theorem dX6_define_41 : decode cX6_define 41 = .ok (.iconst 1, 1) := by decide +kernel
theorem dX6_define_42 : decode cX6_define 42 = .ok (.bastore, 1) := by decide +kernel
theorem dX6_define_43 : decode cX6_define 43 = .ok (.aload_n 0, 1) := by decide +kernel
theorem dX6_define_44 : decode cX6_define 44 = .ok (.getfield 17, 3) := by decide +kernel
theorem dX6_define_47 : decode cX6_define 47 = .ok (.iload_n 1, 1) := by decide +kernel
theorem dX6_define_48 : decode cX6_define 48 = .ok (.aload_n 0, 1) := by decide +kernel
theorem dX6_define_49 : decode cX6_define 49 = .ok (.getfield 121, 3) := by decide +kernel
theorem dX6_define_52 : decode cX6_define 52 = .ok (.iastore, 1) := by decide +kernel
theorem dX6_define_53 : decode cX6_define 53 = .ok (.aload_n 0, 1) := by decide +kernel
theorem dX6_define_54 : decode cX6_define 54 = .ok (.getfield 20, 3) := by decide +kernel
theorem dX6_define_57 : decode cX6_define 57 = .ok (.iload_n 1, 1) := by decide +kernel
theorem dX6_define_58 : decode cX6_define 58 = .ok (.aload_n 0, 1) := by decide +kernel
theorem dX6_define_59 : decode cX6_define 59 = .ok (.getfield 104, 3) := by decide +kernel
theorem dX6_define_62 : decode cX6_define 62 = .ok (.iastore, 1) := by decide +kernel
theorem dX6_define_63 : decode cX6_define 63 = .ok (.iconst 0, 1) := by decide +kernel
theorem dX6_define_64 : decode cX6_define 64 = .ok (.istore_n 2, 1) := by decide +kernel
theorem dX6_define_65 : decode cX6_define 65 = .ok (.iload_n 2, 1) := by decide +kernel
theorem dX6_define_66 : decode cX6_define 66 = .ok (.aload_n 0, 1) := by decide +kernel
theorem dX6_define_67 : decode cX6_define 67 = .ok (.getfield 104, 3) := by decide +kernel
theorem dX6_define_70 : decode cX6_define 70 = .ok (.if_icmp .ge 43, 3) := by decide +kernel
theorem dX6_define_73 : decode cX6_define 73 = .ok (.aload_n 0, 1) := by decide +kernel
theorem dX6_define_74 : decode cX6_define 74 = .ok (.getfield 23, 3) := by decide +kernel
theorem dX6_define_77 : decode cX6_define 77 = .ok (.bipush 48, 2) := by decide +kernel
theorem dX6_define_79 : decode cX6_define 79 = .ok (.iload_n 1, 1) := by decide +kernel
theorem dX6_define_80 : decode cX6_define 80 = .ok (.imul, 1) := by decide +kernel
theorem dX6_define_81 : decode cX6_define 81 = .ok (.iload_n 2, 1) := by decide +kernel
theorem dX6_define_82 : decode cX6_define 82 = .ok (.iadd, 1) := by decide +kernel
theorem dX6_define_83 : decode cX6_define 83 = .ok (.aload_n 0, 1) := by decide +kernel
theorem dX6_define_84 : decode cX6_define 84 = .ok (.getfield 76, 3) := by decide +kernel
theorem dX6_define_87 : decode cX6_define 87 = .ok (.iload_n 2, 1) := by decide +kernel
theorem dX6_define_88 : decode cX6_define 88 = .ok (.iaload, 1) := by decide +kernel
theorem dX6_define_89 : decode cX6_define 89 = .ok (.iastore, 1) := by decide +kernel
theorem dX6_define_90 : decode cX6_define 90 = .ok (.aload_n 0, 1) := by decide +kernel
theorem dX6_define_91 : decode cX6_define 91 = .ok (.getfield 26, 3) := by decide +kernel
theorem dX6_define_94 : decode cX6_define 94 = .ok (.bipush 48, 2) := by decide +kernel
theorem dX6_define_96 : decode cX6_define 96 = .ok (.iload_n 1, 1) := by decide +kernel
theorem dX6_define_97 : decode cX6_define 97 = .ok (.imul, 1) := by decide +kernel
theorem dX6_define_98 : decode cX6_define 98 = .ok (.iload_n 2, 1) := by decide +kernel
theorem dX6_define_99 : decode cX6_define 99 = .ok (.iadd, 1) := by decide +kernel
theorem dX6_define_100 : decode cX6_define 100 = .ok (.aload_n 0, 1) := by decide +kernel
theorem dX6_define_101 : decode cX6_define 101 = .ok (.getfield 79, 3) := by decide +kernel
theorem dX6_define_104 : decode cX6_define 104 = .ok (.iload_n 2, 1) := by decide +kernel
theorem dX6_define_105 : decode cX6_define 105 = .ok (.iaload, 1) := by decide +kernel
theorem dX6_define_106 : decode cX6_define 106 = .ok (.iastore, 1) := by decide +kernel
theorem dX6_define_107 : decode cX6_define 107 = .ok (.iinc 2 1, 3) := by decide +kernel
theorem dX6_define_110 : decode cX6_define 110 = .ok (.goto (-45), 3) := by decide +kernel
theorem dX6_define_113 : decode cX6_define 113 = .ok (.aload_n 0, 1) := by decide +kernel
theorem dX6_define_114 : decode cX6_define 114 = .ok (.iconst 0, 1) := by decide +kernel
theorem dX6_define_115 : decode cX6_define 115 = .ok (.putfield 101, 3) := by decide +kernel
theorem dX6_define_118 : decode cX6_define 118 = .ok (.iconst 0, 1) := by decide +kernel
theorem dX6_define_119 : decode cX6_define 119 = .ok (.istore_n 2, 1) := by decide +kernel
theorem dX6_define_120 : decode cX6_define 120 = .ok (.iconst 0, 1) := by decide +kernel
theorem dX6_define_121 : decode cX6_define 121 = .ok (.istore_n 3, 1) := by decide +kernel
theorem dX6_define_122 : decode cX6_define 122 = .ok (.iload_n 3, 1) := by decide +kernel
theorem dX6_define_123 : decode cX6_define 123 = .ok (.bipush 12, 2) := by decide +kernel
theorem dX6_define_125 : decode cX6_define 125 = .ok (.if_icmp .ge 20, 3) := by decide +kernel
theorem dX6_define_128 : decode cX6_define 128 = .ok (.iload_n 2, 1) := by decide +kernel
theorem dX6_define_129 : decode cX6_define 129 = .ok (.aload_n 0, 1) := by decide +kernel
theorem dX6_define_130 : decode cX6_define 130 = .ok (.getfield 121, 3) := by decide +kernel
theorem dX6_define_133 : decode cX6_define 133 = .ok (.iload_n 3, 1) := by decide +kernel
theorem dX6_define_134 : decode cX6_define 134 = .ok (.ishr, 1) := by decide +kernel
theorem dX6_define_135 : decode cX6_define 135 = .ok (.iconst 1, 1) := by decide +kernel
theorem dX6_define_136 : decode cX6_define 136 = .ok (.iand, 1) := by decide +kernel
theorem dX6_define_137 : decode cX6_define 137 = .ok (.iadd, 1) := by decide +kernel
theorem dX6_define_138 : decode cX6_define 138 = .ok (.istore_n 2, 1) := by decide +kernel
theorem dX6_define_139 : decode cX6_define 139 = .ok (.iinc 3 1, 3) := by decide +kernel
theorem dX6_define_142 : decode cX6_define 142 = .ok (.goto (-20), 3) := by decide +kernel
theorem dX6_define_145 : decode cX6_define 145 = .ok (.iload_n 2, 1) := by decide +kernel
theorem dX6_define_146 : decode cX6_define 146 = .ok (.ireturn, 1) := by decide +kernel
theorem dX6_input_0 : decode cX6_input 0 = .ok (.aload_n 0, 1) := by decide +kernel
theorem dX6_input_1 : decode cX6_input 1 = .ok (.iconst 0, 1) := by decide +kernel
theorem dX6_input_2 : decode cX6_input 2 = .ok (.putfield 91, 3) := by decide +kernel
theorem dX6_input_5 : decode cX6_input 5 = .ok (.iload_n 1, 1) := by decide +kernel
theorem dX6_input_6 : decode cX6_input 6 = .ok (.i2l, 1) := by decide +kernel
theorem dX6_input_7 : decode cX6_input 7 = .ok (.lconst 0, 1) := by decide +kernel
theorem dX6_input_8 : decode cX6_input 8 = .ok (.ldc2_w 161, 3) := by decide +kernel
theorem dX6_input_11 : decode cX6_input 11 = .ok (.invokestatic 137, 3) := by decide +kernel
theorem dX6_input_14 : decode cX6_input 14 = .ok (.ifCond .ne 17, 3) := by decide +kernel
theorem dX6_input_17 : decode cX6_input 17 = .ok (.aload_n 0, 1) := by decide +kernel
theorem dX6_input_18 : decode cX6_input 18 = .ok (.iconst 1, 1) := by decide +kernel
theorem dX6_input_19 : decode cX6_input 19 = .ok (.invokevirtual 163, 3) := by decide +kernel
theorem dX6_input_22 : decode cX6_input 22 = .ok (.ifCond .le 7, 3) := by decide +kernel
theorem dX6_input_25 : decode cX6_input 25 = .ok (.iconst 1, 1) := by decide +kernel
theorem dX6_input_26 : decode cX6_input 26 = .ok (.goto 4, 3) := by decide +kernel
theorem dX6_input_29 : decode cX6_input 29 = .ok (.iconst 0, 1) := by decide +kernel
theorem dX6_input_30 : decode cX6_input 30 = .ok (.ireturn, 1) := by decide +kernel
theorem dX6_input_31 : decode cX6_input 31 = .ok (.aload_n 0, 1) := by decide +kernel
theorem dX6_input_32 : decode cX6_input 32 = .ok (.getfield 13, 3) := by decide +kernel
theorem dX6_input_35 : decode cX6_input 35 = .ok (.iload_n 1, 1) := by decide +kernel
theorem dX6_input_36 : decode cX6_input 36 = .ok (.baload, 1) := by decide +kernel
theorem dX6_input_37 : decode cX6_input 37 = .ok (.istore_n 2, 1) := by decide +kernel
theorem dX6_input_38 : decode cX6_input 38 = .ok (.aload_n 0, 1) := by decide +kernel
theorem dX6_input_39 : decode cX6_input 39 = .ok (.getfield 13, 3) := by decide +kernel
theorem dX6_input_42 : decode cX6_input 42 = .ok (.iload_n 1, 1) := by decide +kernel
theorem dX6_input_43 : decode cX6_input 43 = .ok (.iconst 0, 1) := by decide +kernel
theorem dX6_input_44 : decode cX6_input 44 = .ok (.bastore, 1) := by decide +kernel
theorem dX6_input_45 : decode cX6_input 45 = .ok (.iload_n 2, 1) := by decide +kernel
theorem dX6_input_46 : decode cX6_input 46 = .ok (.ireturn, 1) := by decide +kernel
theorem dX6_total_0 : decode cX6_total 0 = .ok (.aload_n 0, 1) := by decide +kernel
theorem dX6_total_1 : decode cX6_total 1 = .ok (.iconst 0, 1) := by decide +kernel
theorem dX6_total_2 : decode cX6_total 2 = .ok (.putfield 91, 3) := by decide +kernel
theorem dX6_total_5 : decode cX6_total 5 = .ok (.iload_n 1, 1) := by decide +kernel
theorem dX6_total_6 : decode cX6_total 6 = .ok (.i2l, 1) := by decide +kernel
theorem dX6_total_7 : decode cX6_total 7 = .ok (.lconst 0, 1) := by decide +kernel
theorem dX6_total_8 : decode cX6_total 8 = .ok (.ldc2_w 161, 3) := by decide +kernel
theorem dX6_total_11 : decode cX6_total 11 = .ok (.invokestatic 137, 3) := by decide +kernel
theorem dX6_total_14 : decode cX6_total 14 = .ok (.ifCond .ne 9, 3) := by decide +kernel
theorem dX6_total_17 : decode cX6_total 17 = .ok (.aload_n 0, 1) := by decide +kernel
theorem dX6_total_18 : decode cX6_total 18 = .ok (.iconst 1, 1) := by decide +kernel
theorem dX6_total_19 : decode cX6_total 19 = .ok (.invokevirtual 163, 3) := by decide +kernel
theorem dX6_total_22 : decode cX6_total 22 = .ok (.ireturn, 1) := by decide +kernel
theorem dX6_total_23 : decode cX6_total 23 = .ok (.aload_n 0, 1) := by decide +kernel
theorem dX6_total_24 : decode cX6_total 24 = .ok (.getfield 29, 3) := by decide +kernel
theorem dX6_total_27 : decode cX6_total 27 = .ok (.istore_n 2, 1) := by decide +kernel
theorem dX6_total_28 : decode cX6_total 28 = .ok (.aload_n 0, 1) := by decide +kernel
theorem dX6_total_29 : decode cX6_total 29 = .ok (.iload_n 1, 1) := by decide +kernel
theorem dX6_total_30 : decode cX6_total 30 = .ok (.putfield 29, 3) := by decide +kernel
theorem dX6_total_33 : decode cX6_total 33 = .ok (.iload_n 2, 1) := by decide +kernel
theorem dX6_total_34 : decode cX6_total 34 = .ok (.ireturn, 1) := by decide +kernel
theorem dX6_bracket_0 : decode cX6_bracket 0 = .ok (.aload_n 0, 1) := by decide +kernel
theorem dX6_bracket_1 : decode cX6_bracket 1 = .ok (.iconst 0, 1) := by decide +kernel
theorem dX6_bracket_2 : decode cX6_bracket 2 = .ok (.putfield 91, 3) := by decide +kernel
theorem dX6_bracket_5 : decode cX6_bracket 5 = .ok (.iload_n 1, 1) := by decide +kernel
theorem dX6_bracket_6 : decode cX6_bracket 6 = .ok (.i2l, 1) := by decide +kernel
theorem dX6_bracket_7 : decode cX6_bracket 7 = .ok (.lconst 0, 1) := by decide +kernel
theorem dX6_bracket_8 : decode cX6_bracket 8 = .ok (.ldc2_w 135, 3) := by decide +kernel
theorem dX6_bracket_11 : decode cX6_bracket 11 = .ok (.invokestatic 137, 3) := by decide +kernel
theorem dX6_bracket_14 : decode cX6_bracket 14 = .ok (.ifCond .ne 9, 3) := by decide +kernel
theorem dX6_bracket_17 : decode cX6_bracket 17 = .ok (.aload_n 0, 1) := by decide +kernel
theorem dX6_bracket_18 : decode cX6_bracket 18 = .ok (.iconst 1, 1) := by decide +kernel
theorem dX6_bracket_19 : decode cX6_bracket 19 = .ok (.invokevirtual 163, 3) := by decide +kernel
theorem dX6_bracket_22 : decode cX6_bracket 22 = .ok (.ireturn, 1) := by decide +kernel
theorem dX6_bracket_23 : decode cX6_bracket 23 = .ok (.aload_n 0, 1) := by decide +kernel
theorem dX6_bracket_24 : decode cX6_bracket 24 = .ok (.getfield 33, 3) := by decide +kernel
theorem dX6_bracket_27 : decode cX6_bracket 27 = .ok (.iload_n 1, 1) := by decide +kernel
theorem dX6_bracket_28 : decode cX6_bracket 28 = .ok (.iaload, 1) := by decide +kernel
theorem dX6_bracket_29 : decode cX6_bracket 29 = .ok (.istore 4, 2) := by decide +kernel
theorem dX6_bracket_31 : decode cX6_bracket 31 = .ok (.iload 4, 2) := by decide +kernel
theorem dX6_bracket_33 : decode cX6_bracket 33 = .ok (.ifCond .eq 20, 3) := by decide +kernel
theorem dX6_bracket_36 : decode cX6_bracket 36 = .ok (.iload_n 2, 1) := by decide +kernel
theorem dX6_bracket_37 : decode cX6_bracket 37 = .ok (.aload_n 0, 1) := by decide +kernel
theorem dX6_bracket_38 : decode cX6_bracket 38 = .ok (.getfield 36, 3) := by decide +kernel
theorem dX6_bracket_41 : decode cX6_bracket 41 = .ok (.iconst 4, 1) := by decide +kernel
theorem dX6_bracket_42 : decode cX6_bracket 42 = .ok (.iload_n 1, 1) := by decide +kernel
theorem dX6_bracket_43 : decode cX6_bracket 43 = .ok (.imul, 1) := by decide +kernel
theorem dX6_bracket_44 : decode cX6_bracket 44 = .ok (.iload 4, 2) := by decide +kernel
theorem dX6_bracket_46 : decode cX6_bracket 46 = .ok (.iadd, 1) := by decide +kernel
theorem dX6_bracket_47 : decode cX6_bracket 47 = .ok (.iconst 1, 1) := by decide +kernel
theorem dX6_bracket_48 : decode cX6_bracket 48 = .ok (.isub, 1) := by decide +kernel
theorem dX6_bracket_49 : decode cX6_bracket 49 = .ok (.iaload, 1) := by decide +kernel
theorem dX6_bracket_50 : decode cX6_bracket 50 = .ok (.if_icmp .le 7, 3) := by decide +kernel
theorem dX6_bracket_53 : decode cX6_bracket 53 = .ok (.iconst 1, 1) := by decide +kernel
theorem dX6_bracket_54 : decode cX6_bracket 54 = .ok (.goto 4, 3) := by decide +kernel
theorem dX6_bracket_57 : decode cX6_bracket 57 = .ok (.iconst 0, 1) := by decide +kernel
theorem dX6_bracket_58 : decode cX6_bracket 58 = .ok (.istore 5, 2) := by decide +kernel
theorem dX6_bracket_60 : decode cX6_bracket 60 = .ok (.iload_n 2, 1) := by decide +kernel
theorem dX6_bracket_61 : decode cX6_bracket 61 = .ok (.i2l, 1) := by decide +kernel
theorem dX6_bracket_62 : decode cX6_bracket 62 = .ok (.lconst 0, 1) := by decide +kernel
theorem dX6_bracket_63 : decode cX6_bracket 63 = .ok (.ldc2_w 169, 3) := by decide +kernel
theorem dX6_bracket_66 : decode cX6_bracket 66 = .ok (.invokestatic 137, 3) := by decide +kernel
theorem dX6_bracket_69 : decode cX6_bracket 69 = .ok (.ifCond .eq 20, 3) := by decide +kernel
theorem dX6_bracket_72 : decode cX6_bracket 72 = .ok (.iload 5, 2) := by decide +kernel
theorem dX6_bracket_74 : decode cX6_bracket 74 = .ok (.ifCond .eq 15, 3) := by decide +kernel
theorem dX6_bracket_77 : decode cX6_bracket 77 = .ok (.iload_n 3, 1) := by decide +kernel
theorem dX6_bracket_78 : decode cX6_bracket 78 = .ok (.i2l, 1) := by decide +kernel
theorem dX6_bracket_79 : decode cX6_bracket 79 = .ok (.lconst 0, 1) := by decide +kernel
theorem dX6_bracket_80 : decode cX6_bracket 80 = .ok (.ldc2_w 171, 3) := by decide +kernel
theorem dX6_bracket_83 : decode cX6_bracket 83 = .ok (.invokestatic 137, 3) := by decide +kernel
theorem dX6_bracket_86 : decode cX6_bracket 86 = .ok (.ifCond .ne 9, 3) := by decide +kernel
theorem dX6_bracket_89 : decode cX6_bracket 89 = .ok (.aload_n 0, 1) := by decide +kernel
theorem dX6_bracket_90 : decode cX6_bracket 90 = .ok (.iconst 2, 1) := by decide +kernel
theorem dX6_bracket_91 : decode cX6_bracket 91 = .ok (.invokevirtual 163, 3) := by decide +kernel
theorem dX6_bracket_94 : decode cX6_bracket 94 = .ok (.ireturn, 1) := by decide +kernel
theorem dX6_bracket_95 : decode cX6_bracket 95 = .ok (.iload 4, 2) := by decide +kernel
theorem dX6_bracket_97 : decode cX6_bracket 97 = .ok (.iconst 4, 1) := by decide +kernel
theorem dX6_bracket_98 : decode cX6_bracket 98 = .ok (.if_icmp .ne 9, 3) := by decide +kernel
theorem dX6_bracket_101 : decode cX6_bracket 101 = .ok (.aload_n 0, 1) := by decide +kernel
theorem dX6_bracket_102 : decode cX6_bracket 102 = .ok (.iconst 3, 1) := by decide +kernel
theorem dX6_bracket_103 : decode cX6_bracket 103 = .ok (.invokevirtual 163, 3) := by decide +kernel
theorem dX6_bracket_106 : decode cX6_bracket 106 = .ok (.ireturn, 1) := by decide +kernel
theorem dX6_bracket_107 : decode cX6_bracket 107 = .ok (.aload_n 0, 1) := by decide +kernel
theorem dX6_bracket_108 : decode cX6_bracket 108 = .ok (.getfield 36, 3) := by decide +kernel
theorem dX6_bracket_111 : decode cX6_bracket 111 = .ok (.iconst 4, 1) := by decide +kernel
theorem dX6_bracket_112 : decode cX6_bracket 112 = .ok (.iload_n 1, 1) := by decide +kernel
theorem dX6_bracket_113 : decode cX6_bracket 113 = .ok (.imul, 1) := by decide +kernel
theorem dX6_bracket_114 : decode cX6_bracket 114 = .ok (.iload 4, 2) := by decide +kernel
theorem dX6_bracket_116 : decode cX6_bracket 116 = .ok (.iadd, 1) := by decide +kernel
theorem dX6_bracket_117 : decode cX6_bracket 117 = .ok (.iload_n 2, 1) := by decide +kernel
theorem dX6_bracket_118 : decode cX6_bracket 118 = .ok (.iastore, 1) := by decide +kernel
theorem dX6_bracket_119 : decode cX6_bracket 119 = .ok (.aload_n 0, 1) := by decide +kernel
theorem dX6_bracket_120 : decode cX6_bracket 120 = .ok (.getfield 39, 3) := by decide +kernel
theorem dX6_bracket_123 : decode cX6_bracket 123 = .ok (.iconst 4, 1) := by decide +kernel
theorem dX6_bracket_124 : decode cX6_bracket 124 = .ok (.iload_n 1, 1) := by decide +kernel
theorem dX6_bracket_125 : decode cX6_bracket 125 = .ok (.imul, 1) := by decide +kernel
theorem dX6_bracket_126 : decode cX6_bracket 126 = .ok (.iload 4, 2) := by decide +kernel
theorem dX6_bracket_128 : decode cX6_bracket 128 = .ok (.iadd, 1) := by decide +kernel
theorem dX6_bracket_129 : decode cX6_bracket 129 = .ok (.iload_n 3, 1) := by decide +kernel
theorem dX6_bracket_130 : decode cX6_bracket 130 = .ok (.iastore, 1) := by decide +kernel
theorem dX6_bracket_131 : decode cX6_bracket 131 = .ok (.aload_n 0, 1) := by decide +kernel
theorem dX6_bracket_132 : decode cX6_bracket 132 = .ok (.getfield 33, 3) := by decide +kernel
theorem dX6_bracket_135 : decode cX6_bracket 135 = .ok (.iload_n 1, 1) := by decide +kernel
theorem dX6_bracket_136 : decode cX6_bracket 136 = .ok (.dup2, 1) := by decide +kernel
theorem dX6_bracket_137 : decode cX6_bracket 137 = .ok (.iaload, 1) := by decide +kernel
theorem dX6_bracket_138 : decode cX6_bracket 138 = .ok (.iconst 1, 1) := by decide +kernel
theorem dX6_bracket_139 : decode cX6_bracket 139 = .ok (.iadd, 1) := by decide +kernel
theorem dX6_bracket_140 : decode cX6_bracket 140 = .ok (.iastore, 1) := by decide +kernel
theorem dX6_bracket_141 : decode cX6_bracket 141 = .ok (.iload 4, 2) := by decide +kernel
theorem dX6_bracket_143 : decode cX6_bracket 143 = .ok (.iconst 1, 1) := by decide +kernel
theorem dX6_bracket_144 : decode cX6_bracket 144 = .ok (.iadd, 1) := by decide +kernel
theorem dX6_bracket_145 : decode cX6_bracket 145 = .ok (.ireturn, 1) := by decide +kernel
theorem dX6_reset_0 : decode cX6_reset 0 = .ok (.aload_n 0, 1) := by decide +kernel
theorem dX6_reset_1 : decode cX6_reset 1 = .ok (.iconst 0, 1) := by decide +kernel
theorem dX6_reset_2 : decode cX6_reset 2 = .ok (.putfield 91, 3) := by decide +kernel
theorem dX6_reset_5 : decode cX6_reset 5 = .ok (.iload_n 1, 1) := by decide +kernel
theorem dX6_reset_6 : decode cX6_reset 6 = .ok (.i2l, 1) := by decide +kernel
theorem dX6_reset_7 : decode cX6_reset 7 = .ok (.lconst 0, 1) := by decide +kernel
theorem dX6_reset_8 : decode cX6_reset 8 = .ok (.ldc2_w 135, 3) := by decide +kernel
theorem dX6_reset_11 : decode cX6_reset 11 = .ok (.invokestatic 137, 3) := by decide +kernel
theorem dX6_reset_14 : decode cX6_reset 14 = .ok (.ifCond .ne 9, 3) := by decide +kernel
theorem dX6_reset_17 : decode cX6_reset 17 = .ok (.aload_n 0, 1) := by decide +kernel
theorem dX6_reset_18 : decode cX6_reset 18 = .ok (.iconst 1, 1) := by decide +kernel
theorem dX6_reset_19 : decode cX6_reset 19 = .ok (.invokevirtual 163, 3) := by decide +kernel
theorem dX6_reset_22 : decode cX6_reset 22 = .ok (.ireturn, 1) := by decide +kernel
theorem dX6_reset_23 : decode cX6_reset 23 = .ok (.iload_n 2, 1) := by decide +kernel
theorem dX6_reset_24 : decode cX6_reset 24 = .ok (.i2l, 1) := by decide +kernel
theorem dX6_reset_25 : decode cX6_reset 25 = .ok (.lconst 0, 1) := by decide +kernel
theorem dX6_reset_26 : decode cX6_reset 26 = .ok (.ldc2_w 135, 3) := by decide +kernel
theorem dX6_reset_29 : decode cX6_reset 29 = .ok (.invokestatic 137, 3) := by decide +kernel
theorem dX6_reset_32 : decode cX6_reset 32 = .ok (.ifCond .ne 9, 3) := by decide +kernel
theorem dX6_reset_35 : decode cX6_reset 35 = .ok (.aload_n 0, 1) := by decide +kernel
theorem dX6_reset_36 : decode cX6_reset 36 = .ok (.iconst 2, 1) := by decide +kernel
theorem dX6_reset_37 : decode cX6_reset 37 = .ok (.invokevirtual 163, 3) := by decide +kernel
theorem dX6_reset_40 : decode cX6_reset 40 = .ok (.ireturn, 1) := by decide +kernel
theorem dX6_reset_41 : decode cX6_reset 41 = .ok (.aload_n 0, 1) := by decide +kernel
theorem dX6_reset_42 : decode cX6_reset 42 = .ok (.getfield 33, 3) := by decide +kernel
theorem dX6_reset_45 : decode cX6_reset 45 = .ok (.iload_n 1, 1) := by decide +kernel
theorem dX6_reset_46 : decode cX6_reset 46 = .ok (.iaload, 1) := by decide +kernel
theorem dX6_reset_47 : decode cX6_reset 47 = .ok (.istore_n 3, 1) := by decide +kernel
theorem dX6_reset_48 : decode cX6_reset 48 = .ok (.aload_n 0, 1) := by decide +kernel
theorem dX6_reset_49 : decode cX6_reset 49 = .ok (.getfield 33, 3) := by decide +kernel
theorem dX6_reset_52 : decode cX6_reset 52 = .ok (.iload_n 1, 1) := by decide +kernel
theorem dX6_reset_53 : decode cX6_reset 53 = .ok (.iconst 0, 1) := by decide +kernel
theorem dX6_reset_54 : decode cX6_reset 54 = .ok (.iastore, 1) := by decide +kernel
theorem dX6_reset_55 : decode cX6_reset 55 = .ok (.aload_n 0, 1) := by decide +kernel
theorem dX6_reset_56 : decode cX6_reset 56 = .ok (.getfield 42, 3) := by decide +kernel
theorem dX6_reset_59 : decode cX6_reset 59 = .ok (.iload_n 1, 1) := by decide +kernel
theorem dX6_reset_60 : decode cX6_reset 60 = .ok (.iload_n 2, 1) := by decide +kernel
theorem dX6_reset_61 : decode cX6_reset 61 = .ok (.iastore, 1) := by decide +kernel
theorem dX6_reset_62 : decode cX6_reset 62 = .ok (.iload_n 3, 1) := by decide +kernel
theorem dX6_reset_63 : decode cX6_reset 63 = .ok (.ireturn, 1) := by decide +kernel
theorem dX6_divide_0 : decode cX6_divide 0 = .ok (.lload_n 0, 1) := by decide +kernel
theorem dX6_divide_1 : decode cX6_divide 1 = .ok (.lload_n 2, 1) := by decide +kernel
theorem dX6_divide_2 : decode cX6_divide 2 = .ok (.ldiv, 1) := by decide +kernel
theorem dX6_divide_3 : decode cX6_divide 3 = .ok (.lstore 5, 2) := by decide +kernel
theorem dX6_divide_5 : decode cX6_divide 5 = .ok (.lload_n 0, 1) := by decide +kernel
theorem dX6_divide_6 : decode cX6_divide 6 = .ok (.lload_n 2, 1) := by decide +kernel
theorem dX6_divide_7 : decode cX6_divide 7 = .ok (.lrem, 1) := by decide +kernel
theorem dX6_divide_8 : decode cX6_divide 8 = .ok (.lconst 0, 1) := by decide +kernel
theorem dX6_divide_9 : decode cX6_divide 9 = .ok (.lcmp, 1) := by decide +kernel
theorem dX6_divide_10 : decode cX6_divide 10 = .ok (.ifCond .ge 9, 3) := by decide +kernel
theorem dX6_divide_13 : decode cX6_divide 13 = .ok (.lload 5, 2) := by decide +kernel
theorem dX6_divide_15 : decode cX6_divide 15 = .ok (.lconst 1, 1) := by decide +kernel
theorem dX6_divide_16 : decode cX6_divide 16 = .ok (.lsub, 1) := by decide +kernel
theorem dX6_divide_17 : decode cX6_divide 17 = .ok (.lstore 5, 2) := by decide +kernel
theorem dX6_divide_19 : decode cX6_divide 19 = .ok (.lload_n 0, 1) := by decide +kernel
theorem dX6_divide_20 : decode cX6_divide 20 = .ok (.lload 5, 2) := by decide +kernel
theorem dX6_divide_22 : decode cX6_divide 22 = .ok (.lload_n 2, 1) := by decide +kernel
theorem dX6_divide_23 : decode cX6_divide 23 = .ok (.lmul, 1) := by decide +kernel
theorem dX6_divide_24 : decode cX6_divide 24 = .ok (.lsub, 1) := by decide +kernel
theorem dX6_divide_25 : decode cX6_divide 25 = .ok (.lstore 7, 2) := by decide +kernel
theorem dX6_divide_27 : decode cX6_divide 27 = .ok (.iload 4, 2) := by decide +kernel
theorem dX6_divide_29 : decode cX6_divide 29 = .ok (.ifCond .eq 14, 3) := by decide +kernel
theorem dX6_divide_32 : decode cX6_divide 32 = .ok (.ldc2_w 135, 3) := by decide +kernel
theorem dX6_divide_35 : decode cX6_divide 35 = .ok (.lload 7, 2) := by decide +kernel
theorem dX6_divide_37 : decode cX6_divide 37 = .ok (.lmul, 1) := by decide +kernel
theorem dX6_divide_38 : decode cX6_divide 38 = .ok (.lload_n 2, 1) := by decide +kernel
theorem dX6_divide_39 : decode cX6_divide 39 = .ok (.lcmp, 1) := by decide +kernel
theorem dX6_divide_40 : decode cX6_divide 40 = .ok (.ifCond .ge 6, 3) := by decide +kernel
theorem dX6_divide_43 : decode cX6_divide 43 = .ok (.lload 5, 2) := by decide +kernel
theorem dX6_divide_45 : decode cX6_divide 45 = .ok (.lreturn, 1) := by decide +kernel
theorem dX6_divide_46 : decode cX6_divide 46 = .ok (.ldc2_w 135, 3) := by decide +kernel
theorem dX6_divide_49 : decode cX6_divide 49 = .ok (.lload 7, 2) := by decide +kernel
theorem dX6_divide_51 : decode cX6_divide 51 = .ok (.lmul, 1) := by decide +kernel
theorem dX6_divide_52 : decode cX6_divide 52 = .ok (.lload_n 2, 1) := by decide +kernel
theorem dX6_divide_53 : decode cX6_divide 53 = .ok (.lcmp, 1) := by decide +kernel
theorem dX6_divide_54 : decode cX6_divide 54 = .ok (.ifCond .gt 20, 3) := by decide +kernel
theorem dX6_divide_57 : decode cX6_divide 57 = .ok (.iload 4, 2) := by decide +kernel
theorem dX6_divide_59 : decode cX6_divide 59 = .ok (.iconst 1, 1) := by decide +kernel
theorem dX6_divide_60 : decode cX6_divide 60 = .ok (.if_icmp .eq 14, 3) := by decide +kernel
theorem dX6_divide_63 : decode cX6_divide 63 = .ok (.lload 5, 2) := by decide +kernel
theorem dX6_divide_65 : decode cX6_divide 65 = .ok (.ldc2_w 135, 3) := by decide +kernel
theorem dX6_divide_68 : decode cX6_divide 68 = .ok (.lrem, 1) := by decide +kernel
theorem dX6_divide_69 : decode cX6_divide 69 = .ok (.lconst 0, 1) := by decide +kernel
theorem dX6_divide_70 : decode cX6_divide 70 = .ok (.lcmp, 1) := by decide +kernel
theorem dX6_divide_71 : decode cX6_divide 71 = .ok (.ifCond .eq 10, 3) := by decide +kernel
theorem dX6_divide_74 : decode cX6_divide 74 = .ok (.lload 5, 2) := by decide +kernel
theorem dX6_divide_76 : decode cX6_divide 76 = .ok (.lconst 1, 1) := by decide +kernel
theorem dX6_divide_77 : decode cX6_divide 77 = .ok (.ladd, 1) := by decide +kernel
theorem dX6_divide_78 : decode cX6_divide 78 = .ok (.goto 5, 3) := by decide +kernel
theorem dX6_divide_81 : decode cX6_divide 81 = .ok (.lload 5, 2) := by decide +kernel
theorem dX6_divide_83 : decode cX6_divide 83 = .ok (.lreturn, 1) := by decide +kernel
theorem dX6_tabled_0 : decode cX6_tabled 0 = .ok (.lconst 0, 1) := by decide +kernel
theorem dX6_tabled_1 : decode cX6_tabled 1 = .ok (.lstore 4, 2) := by decide +kernel
theorem dX6_tabled_3 : decode cX6_tabled 3 = .ok (.iconst 4, 1) := by decide +kernel
theorem dX6_tabled_4 : decode cX6_tabled 4 = .ok (.iload_n 1, 1) := by decide +kernel
theorem dX6_tabled_5 : decode cX6_tabled 5 = .ok (.imul, 1) := by decide +kernel
theorem dX6_tabled_6 : decode cX6_tabled 6 = .ok (.istore 6, 2) := by decide +kernel
theorem dX6_tabled_8 : decode cX6_tabled 8 = .ok (.iload 6, 2) := by decide +kernel
theorem dX6_tabled_10 : decode cX6_tabled 10 = .ok (.iconst 4, 1) := by decide +kernel
theorem dX6_tabled_11 : decode cX6_tabled 11 = .ok (.iload_n 1, 1) := by decide +kernel
theorem dX6_tabled_12 : decode cX6_tabled 12 = .ok (.imul, 1) := by decide +kernel
theorem dX6_tabled_13 : decode cX6_tabled 13 = .ok (.aload_n 0, 1) := by decide +kernel
theorem dX6_tabled_14 : decode cX6_tabled 14 = .ok (.getfield 33, 3) := by decide +kernel
theorem dX6_tabled_17 : decode cX6_tabled 17 = .ok (.iload_n 1, 1) := by decide +kernel
theorem dX6_tabled_18 : decode cX6_tabled 18 = .ok (.iaload, 1) := by decide +kernel
theorem dX6_tabled_19 : decode cX6_tabled 19 = .ok (.iadd, 1) := by decide +kernel
theorem dX6_tabled_20 : decode cX6_tabled 20 = .ok (.if_icmp .ge 112, 3) := by decide +kernel
theorem dX6_tabled_23 : decode cX6_tabled 23 = .ok (.iload 6, 2) := by decide +kernel
theorem dX6_tabled_25 : decode cX6_tabled 25 = .ok (.iconst 4, 1) := by decide +kernel
theorem dX6_tabled_26 : decode cX6_tabled 26 = .ok (.iload_n 1, 1) := by decide +kernel
theorem dX6_tabled_27 : decode cX6_tabled 27 = .ok (.imul, 1) := by decide +kernel
theorem dX6_tabled_28 : decode cX6_tabled 28 = .ok (.aload_n 0, 1) := by decide +kernel
theorem dX6_tabled_29 : decode cX6_tabled 29 = .ok (.getfield 33, 3) := by decide +kernel
theorem dX6_tabled_32 : decode cX6_tabled 32 = .ok (.iload_n 1, 1) := by decide +kernel
theorem dX6_tabled_33 : decode cX6_tabled 33 = .ok (.iaload, 1) := by decide +kernel
theorem dX6_tabled_34 : decode cX6_tabled 34 = .ok (.iadd, 1) := by decide +kernel
theorem dX6_tabled_35 : decode cX6_tabled 35 = .ok (.iconst 1, 1) := by decide +kernel
theorem dX6_tabled_36 : decode cX6_tabled 36 = .ok (.isub, 1) := by decide +kernel
theorem dX6_tabled_37 : decode cX6_tabled 37 = .ok (.if_icmp .ne 7, 3) := by decide +kernel
theorem dX6_tabled_40 : decode cX6_tabled 40 = .ok (.iconst 1, 1) := by decide +kernel
theorem dX6_tabled_41 : decode cX6_tabled 41 = .ok (.goto 4, 3) := by decide +kernel
theorem dX6_tabled_44 : decode cX6_tabled 44 = .ok (.iconst 0, 1) := by decide +kernel
theorem dX6_tabled_45 : decode cX6_tabled 45 = .ok (.istore 7, 2) := by decide +kernel
theorem dX6_tabled_47 : decode cX6_tabled 47 = .ok (.iload 7, 2) := by decide +kernel
theorem dX6_tabled_49 : decode cX6_tabled 49 = .ok (.ifCond .ne 18, 3) := by decide +kernel
theorem dX6_tabled_52 : decode cX6_tabled 52 = .ok (.lload_n 2, 1) := by decide +kernel
theorem dX6_tabled_53 : decode cX6_tabled 53 = .ok (.aload_n 0, 1) := by decide +kernel
theorem dX6_tabled_54 : decode cX6_tabled 54 = .ok (.getfield 36, 3) := by decide +kernel
theorem dX6_tabled_57 : decode cX6_tabled 57 = .ok (.iload 6, 2) := by decide +kernel
theorem dX6_tabled_59 : decode cX6_tabled 59 = .ok (.iconst 1, 1) := by decide +kernel
theorem dX6_tabled_60 : decode cX6_tabled 60 = .ok (.iadd, 1) := by decide +kernel
theorem dX6_tabled_61 : decode cX6_tabled 61 = .ok (.iaload, 1) := by decide +kernel
theorem dX6_tabled_62 : decode cX6_tabled 62 = .ok (.i2l, 1) := by decide +kernel
theorem dX6_tabled_63 : decode cX6_tabled 63 = .ok (.lcmp, 1) := by decide +kernel
theorem dX6_tabled_64 : decode cX6_tabled 64 = .ok (.ifCond .ge 7, 3) := by decide +kernel
theorem dX6_tabled_67 : decode cX6_tabled 67 = .ok (.lload_n 2, 1) := by decide +kernel
theorem dX6_tabled_68 : decode cX6_tabled 68 = .ok (.goto 13, 3) := by decide +kernel
theorem dX6_tabled_71 : decode cX6_tabled 71 = .ok (.aload_n 0, 1) := by decide +kernel
theorem dX6_tabled_72 : decode cX6_tabled 72 = .ok (.getfield 36, 3) := by decide +kernel
theorem dX6_tabled_75 : decode cX6_tabled 75 = .ok (.iload 6, 2) := by decide +kernel
theorem dX6_tabled_77 : decode cX6_tabled 77 = .ok (.iconst 1, 1) := by decide +kernel
theorem dX6_tabled_78 : decode cX6_tabled 78 = .ok (.iadd, 1) := by decide +kernel
theorem dX6_tabled_79 : decode cX6_tabled 79 = .ok (.iaload, 1) := by decide +kernel
theorem dX6_tabled_80 : decode cX6_tabled 80 = .ok (.i2l, 1) := by decide +kernel
theorem dX6_tabled_81 : decode cX6_tabled 81 = .ok (.lstore 8, 2) := by decide +kernel
theorem dX6_tabled_83 : decode cX6_tabled 83 = .ok (.lload 4, 2) := by decide +kernel
theorem dX6_tabled_85 : decode cX6_tabled 85 = .ok (.lload 8, 2) := by decide +kernel
theorem dX6_tabled_87 : decode cX6_tabled 87 = .ok (.aload_n 0, 1) := by decide +kernel
theorem dX6_tabled_88 : decode cX6_tabled 88 = .ok (.getfield 36, 3) := by decide +kernel
theorem dX6_tabled_91 : decode cX6_tabled 91 = .ok (.iload 6, 2) := by decide +kernel
theorem dX6_tabled_93 : decode cX6_tabled 93 = .ok (.iaload, 1) := by decide +kernel
theorem dX6_tabled_94 : decode cX6_tabled 94 = .ok (.i2l, 1) := by decide +kernel
theorem dX6_tabled_95 : decode cX6_tabled 95 = .ok (.lcmp, 1) := by decide +kernel
theorem dX6_tabled_96 : decode cX6_tabled 96 = .ok (.ifCond .le 26, 3) := by decide +kernel
theorem dX6_tabled_99 : decode cX6_tabled 99 = .ok (.aload_n 0, 1) := by decide +kernel
theorem dX6_tabled_100 : decode cX6_tabled 100 = .ok (.getfield 39, 3) := by decide +kernel
theorem dX6_tabled_103 : decode cX6_tabled 103 = .ok (.iload 6, 2) := by decide +kernel
theorem dX6_tabled_105 : decode cX6_tabled 105 = .ok (.iaload, 1) := by decide +kernel
theorem dX6_tabled_106 : decode cX6_tabled 106 = .ok (.i2l, 1) := by decide +kernel
theorem dX6_tabled_107 : decode cX6_tabled 107 = .ok (.lload 8, 2) := by decide +kernel
theorem dX6_tabled_109 : decode cX6_tabled 109 = .ok (.aload_n 0, 1) := by decide +kernel
theorem dX6_tabled_110 : decode cX6_tabled 110 = .ok (.getfield 36, 3) := by decide +kernel
theorem dX6_tabled_113 : decode cX6_tabled 113 = .ok (.iload 6, 2) := by decide +kernel
theorem dX6_tabled_115 : decode cX6_tabled 115 = .ok (.iaload, 1) := by decide +kernel
theorem dX6_tabled_116 : decode cX6_tabled 116 = .ok (.i2l, 1) := by decide +kernel
theorem dX6_tabled_117 : decode cX6_tabled 117 = .ok (.lsub, 1) := by decide +kernel
theorem dX6_tabled_118 : decode cX6_tabled 118 = .ok (.lmul, 1) := by decide +kernel
theorem dX6_tabled_119 : decode cX6_tabled 119 = .ok (.goto 4, 3) := by decide +kernel
theorem dX6_tabled_122 : decode cX6_tabled 122 = .ok (.lconst 0, 1) := by decide +kernel
theorem dX6_tabled_123 : decode cX6_tabled 123 = .ok (.ladd, 1) := by decide +kernel
theorem dX6_tabled_124 : decode cX6_tabled 124 = .ok (.lstore 4, 2) := by decide +kernel
theorem dX6_tabled_126 : decode cX6_tabled 126 = .ok (.iinc 6 1, 3) := by decide +kernel
theorem dX6_tabled_129 : decode cX6_tabled 129 = .ok (.goto (-121), 3) := by decide +kernel
theorem dX6_tabled_132 : decode cX6_tabled 132 = .ok (.lload 4, 2) := by decide +kernel
theorem dX6_tabled_134 : decode cX6_tabled 134 = .ok (.ldc2_w 171, 3) := by decide +kernel
theorem dX6_tabled_137 : decode cX6_tabled 137 = .ok (.aload_n 0, 1) := by decide +kernel
theorem dX6_tabled_138 : decode cX6_tabled 138 = .ok (.getfield 42, 3) := by decide +kernel
theorem dX6_tabled_141 : decode cX6_tabled 141 = .ok (.iload_n 1, 1) := by decide +kernel
theorem dX6_tabled_142 : decode cX6_tabled 142 = .ok (.iaload, 1) := by decide +kernel
theorem dX6_tabled_143 : decode cX6_tabled 143 = .ok (.invokestatic 173, 3) := by decide +kernel
theorem dX6_tabled_146 : decode cX6_tabled 146 = .ok (.lreturn, 1) := by decide +kernel
theorem dX6_makeOrder_0 : decode cX6_makeOrder 0 = .ok (.iconst 0, 1) := by decide +kernel
theorem dX6_makeOrder_1 : decode cX6_makeOrder 1 = .ok (.istore_n 1, 1) := by decide +kernel
theorem dX6_makeOrder_2 : decode cX6_makeOrder 2 = .ok (.iconst 0, 1) := by decide +kernel
theorem dX6_makeOrder_3 : decode cX6_makeOrder 3 = .ok (.istore_n 2, 1) := by decide +kernel
theorem dX6_makeOrder_4 : decode cX6_makeOrder 4 = .ok (.iconst 0, 1) := by decide +kernel
theorem dX6_makeOrder_5 : decode cX6_makeOrder 5 = .ok (.istore_n 3, 1) := by decide +kernel
theorem dX6_makeOrder_6 : decode cX6_makeOrder 6 = .ok (.iload_n 3, 1) := by decide +kernel
theorem dX6_makeOrder_7 : decode cX6_makeOrder 7 = .ok (.bipush 12, 2) := by decide +kernel
theorem dX6_makeOrder_9 : decode cX6_makeOrder 9 = .ok (.if_icmp .ge 73, 3) := by decide +kernel
theorem dX6_makeOrder_12 : decode cX6_makeOrder 12 = .ok (.iconst 0, 1) := by decide +kernel
theorem dX6_makeOrder_13 : decode cX6_makeOrder 13 = .ok (.istore_n 3, 1) := by decide +kernel
theorem dX6_makeOrder_14 : decode cX6_makeOrder 14 = .ok (.iload_n 3, 1) := by decide +kernel
theorem dX6_makeOrder_15 : decode cX6_makeOrder 15 = .ok (.bipush 12, 2) := by decide +kernel
theorem dX6_makeOrder_17 : decode cX6_makeOrder 17 = .ok (.if_icmp .ge 40, 3) := by decide +kernel
theorem dX6_makeOrder_20 : decode cX6_makeOrder 20 = .ok (.iload_n 1, 1) := by decide +kernel
theorem dX6_makeOrder_21 : decode cX6_makeOrder 21 = .ok (.iload_n 3, 1) := by decide +kernel
theorem dX6_makeOrder_22 : decode cX6_makeOrder 22 = .ok (.ishr, 1) := by decide +kernel
theorem dX6_makeOrder_23 : decode cX6_makeOrder 23 = .ok (.iconst 1, 1) := by decide +kernel
theorem dX6_makeOrder_24 : decode cX6_makeOrder 24 = .ok (.iand, 1) := by decide +kernel
theorem dX6_makeOrder_25 : decode cX6_makeOrder 25 = .ok (.iconst 1, 1) := by decide +kernel
theorem dX6_makeOrder_26 : decode cX6_makeOrder 26 = .ok (.if_icmp .eq 25, 3) := by decide +kernel
theorem dX6_makeOrder_29 : decode cX6_makeOrder 29 = .ok (.aload_n 0, 1) := by decide +kernel
theorem dX6_makeOrder_30 : decode cX6_makeOrder 30 = .ok (.getfield 13, 3) := by decide +kernel
theorem dX6_makeOrder_33 : decode cX6_makeOrder 33 = .ok (.iload_n 3, 1) := by decide +kernel
theorem dX6_makeOrder_34 : decode cX6_makeOrder 34 = .ok (.baload, 1) := by decide +kernel
theorem dX6_makeOrder_35 : decode cX6_makeOrder 35 = .ok (.ifCond .eq 22, 3) := by decide +kernel
theorem dX6_makeOrder_38 : decode cX6_makeOrder 38 = .ok (.aload_n 0, 1) := by decide +kernel
theorem dX6_makeOrder_39 : decode cX6_makeOrder 39 = .ok (.getfield 17, 3) := by decide +kernel
theorem dX6_makeOrder_42 : decode cX6_makeOrder 42 = .ok (.iload_n 3, 1) := by decide +kernel
theorem dX6_makeOrder_43 : decode cX6_makeOrder 43 = .ok (.iaload, 1) := by decide +kernel
theorem dX6_makeOrder_44 : decode cX6_makeOrder 44 = .ok (.iload_n 1, 1) := by decide +kernel
theorem dX6_makeOrder_45 : decode cX6_makeOrder 45 = .ok (.iconst (-1), 1) := by decide +kernel
theorem dX6_makeOrder_46 : decode cX6_makeOrder 46 = .ok (.ixor, 1) := by decide +kernel
theorem dX6_makeOrder_47 : decode cX6_makeOrder 47 = .ok (.iand, 1) := by decide +kernel
theorem dX6_makeOrder_48 : decode cX6_makeOrder 48 = .ok (.ifCond .eq 9, 3) := by decide +kernel
theorem dX6_makeOrder_51 : decode cX6_makeOrder 51 = .ok (.iinc 3 1, 3) := by decide +kernel
theorem dX6_makeOrder_54 : decode cX6_makeOrder 54 = .ok (.goto (-40), 3) := by decide +kernel
theorem dX6_makeOrder_57 : decode cX6_makeOrder 57 = .ok (.iload_n 3, 1) := by decide +kernel
theorem dX6_makeOrder_58 : decode cX6_makeOrder 58 = .ok (.bipush 12, 2) := by decide +kernel
theorem dX6_makeOrder_60 : decode cX6_makeOrder 60 = .ok (.if_icmp .ge (-54), 3) := by decide +kernel
theorem dX6_makeOrder_63 : decode cX6_makeOrder 63 = .ok (.aload_n 0, 1) := by decide +kernel
theorem dX6_makeOrder_64 : decode cX6_makeOrder 64 = .ok (.getfield 82, 3) := by decide +kernel
theorem dX6_makeOrder_67 : decode cX6_makeOrder 67 = .ok (.iload_n 2, 1) := by decide +kernel
theorem dX6_makeOrder_68 : decode cX6_makeOrder 68 = .ok (.iload_n 3, 1) := by decide +kernel
theorem dX6_makeOrder_69 : decode cX6_makeOrder 69 = .ok (.iastore, 1) := by decide +kernel
theorem dX6_makeOrder_70 : decode cX6_makeOrder 70 = .ok (.iinc 2 1, 3) := by decide +kernel
theorem dX6_makeOrder_73 : decode cX6_makeOrder 73 = .ok (.iload_n 1, 1) := by decide +kernel
theorem dX6_makeOrder_74 : decode cX6_makeOrder 74 = .ok (.iconst 1, 1) := by decide +kernel
theorem dX6_makeOrder_75 : decode cX6_makeOrder 75 = .ok (.iload_n 3, 1) := by decide +kernel
theorem dX6_makeOrder_76 : decode cX6_makeOrder 76 = .ok (.ishl, 1) := by decide +kernel
theorem dX6_makeOrder_77 : decode cX6_makeOrder 77 = .ok (.ior, 1) := by decide +kernel
theorem dX6_makeOrder_78 : decode cX6_makeOrder 78 = .ok (.istore_n 1, 1) := by decide +kernel
theorem dX6_makeOrder_79 : decode cX6_makeOrder 79 = .ok (.goto (-73), 3) := by decide +kernel
theorem dX6_makeOrder_82 : decode cX6_makeOrder 82 = .ok (.iload_n 2, 1) := by decide +kernel
theorem dX6_makeOrder_83 : decode cX6_makeOrder 83 = .ok (.ireturn, 1) := by decide +kernel
theorem dX6_order_0 : decode cX6_order 0 = .ok (.aload_n 0, 1) := by decide +kernel
theorem dX6_order_1 : decode cX6_order 1 = .ok (.iconst 0, 1) := by decide +kernel
theorem dX6_order_2 : decode cX6_order 2 = .ok (.putfield 91, 3) := by decide +kernel
theorem dX6_order_5 : decode cX6_order 5 = .ok (.iload_n 1, 1) := by decide +kernel
theorem dX6_order_6 : decode cX6_order 6 = .ok (.i2l, 1) := by decide +kernel
theorem dX6_order_7 : decode cX6_order 7 = .ok (.lconst 0, 1) := by decide +kernel
theorem dX6_order_8 : decode cX6_order 8 = .ok (.ldc2_w 161, 3) := by decide +kernel
theorem dX6_order_11 : decode cX6_order 11 = .ok (.invokestatic 137, 3) := by decide +kernel
theorem dX6_order_14 : decode cX6_order 14 = .ok (.ifCond .ne 9, 3) := by decide +kernel
theorem dX6_order_17 : decode cX6_order 17 = .ok (.aload_n 0, 1) := by decide +kernel
theorem dX6_order_18 : decode cX6_order 18 = .ok (.iconst 1, 1) := by decide +kernel
theorem dX6_order_19 : decode cX6_order 19 = .ok (.invokevirtual 163, 3) := by decide +kernel
theorem dX6_order_22 : decode cX6_order 22 = .ok (.ireturn, 1) := by decide +kernel
theorem dX6_order_23 : decode cX6_order 23 = .ok (.iload_n 1, 1) := by decide +kernel
theorem dX6_order_24 : decode cX6_order 24 = .ok (.aload_n 0, 1) := by decide +kernel
theorem dX6_order_25 : decode cX6_order 25 = .ok (.invokevirtual 177, 3) := by decide +kernel
theorem dX6_order_28 : decode cX6_order 28 = .ok (.if_icmp .lt 11, 3) := by decide +kernel
theorem dX6_order_31 : decode cX6_order 31 = .ok (.aload_n 0, 1) := by decide +kernel
theorem dX6_order_32 : decode cX6_order 32 = .ok (.iconst 2, 1) := by decide +kernel
theorem dX6_order_33 : decode cX6_order 33 = .ok (.invokevirtual 163, 3) := by decide +kernel
theorem dX6_order_36 : decode cX6_order 36 = .ok (.goto 9, 3) := by decide +kernel
theorem dX6_order_39 : decode cX6_order 39 = .ok (.aload_n 0, 1) := by decide +kernel
theorem dX6_order_40 : decode cX6_order 40 = .ok (.getfield 82, 3) := by decide +kernel
theorem dX6_order_43 : decode cX6_order 43 = .ok (.iload_n 1, 1) := by decide +kernel
theorem dX6_order_44 : decode cX6_order 44 = .ok (.iaload, 1) := by decide +kernel
theorem dX6_order_45 : decode cX6_order 45 = .ok (.ireturn, 1) := by decide +kernel
theorem dX6_file_0 : decode cX6_file 0 = .ok (.aload_n 0, 1) := by decide +kernel
theorem dX6_file_1 : decode cX6_file 1 = .ok (.iconst 0, 1) := by decide +kernel
theorem dX6_file_2 : decode cX6_file 2 = .ok (.putfield 91, 3) := by decide +kernel
theorem dX6_file_5 : decode cX6_file 5 = .ok (.iload_n 1, 1) := by decide +kernel
theorem dX6_file_6 : decode cX6_file 6 = .ok (.i2l, 1) := by decide +kernel
theorem dX6_file_7 : decode cX6_file 7 = .ok (.lconst 0, 1) := by decide +kernel
theorem dX6_file_8 : decode cX6_file 8 = .ok (.ldc2_w 135, 3) := by decide +kernel
theorem dX6_file_11 : decode cX6_file 11 = .ok (.invokestatic 137, 3) := by decide +kernel
theorem dX6_file_14 : decode cX6_file 14 = .ok (.ifCond .eq 27, 3) := by decide +kernel
theorem dX6_file_17 : decode cX6_file 17 = .ok (.iload_n 2, 1) := by decide +kernel
theorem dX6_file_18 : decode cX6_file 18 = .ok (.i2l, 1) := by decide +kernel
theorem dX6_file_19 : decode cX6_file 19 = .ok (.lconst 0, 1) := by decide +kernel
theorem dX6_file_20 : decode cX6_file 20 = .ok (.ldc2_w 180, 3) := by decide +kernel
theorem dX6_file_23 : decode cX6_file 23 = .ok (.invokestatic 137, 3) := by decide +kernel
theorem dX6_file_26 : decode cX6_file 26 = .ok (.ifCond .eq 15, 3) := by decide +kernel
theorem dX6_file_29 : decode cX6_file 29 = .ok (.iload_n 3, 1) := by decide +kernel
theorem dX6_file_30 : decode cX6_file 30 = .ok (.i2l, 1) := by decide +kernel
theorem dX6_file_31 : decode cX6_file 31 = .ok (.lconst 0, 1) := by decide +kernel
theorem dX6_file_32 : decode cX6_file 32 = .ok (.ldc2_w 161, 3) := by decide +kernel
theorem dX6_file_35 : decode cX6_file 35 = .ok (.invokestatic 137, 3) := by decide +kernel
theorem dX6_file_38 : decode cX6_file 38 = .ok (.ifCond .ne 9, 3) := by decide +kernel
theorem dX6_file_41 : decode cX6_file 41 = .ok (.aload_n 0, 1) := by decide +kernel
theorem dX6_file_42 : decode cX6_file 42 = .ok (.iconst 1, 1) := by decide +kernel
theorem dX6_file_43 : decode cX6_file 43 = .ok (.invokevirtual 163, 3) := by decide +kernel
theorem dX6_file_46 : decode cX6_file 46 = .ok (.ireturn, 1) := by decide +kernel
theorem dX6_file_47 : decode cX6_file 47 = .ok (.aload_n 0, 1) := by decide +kernel
theorem dX6_file_48 : decode cX6_file 48 = .ok (.getfield 13, 3) := by decide +kernel
theorem dX6_file_51 : decode cX6_file 51 = .ok (.iload_n 3, 1) := by decide +kernel
theorem dX6_file_52 : decode cX6_file 52 = .ok (.baload, 1) := by decide +kernel
theorem dX6_file_53 : decode cX6_file 53 = .ok (.ifCond .ne 18, 3) := by decide +kernel
theorem dX6_file_56 : decode cX6_file 56 = .ok (.iload 4, 2) := by decide +kernel
theorem dX6_file_58 : decode cX6_file 58 = .ok (.i2l, 1) := by decide +kernel
theorem dX6_file_59 : decode cX6_file 59 = .ok (.ldc2_w 182, 3) := by decide +kernel
theorem dX6_file_62 : decode cX6_file 62 = .ok (.ldc2_w 169, 3) := by decide +kernel
theorem dX6_file_65 : decode cX6_file 65 = .ok (.invokestatic 137, 3) := by decide +kernel
theorem dX6_file_68 : decode cX6_file 68 = .ok (.ifCond .ne 9, 3) := by decide +kernel
theorem dX6_file_71 : decode cX6_file 71 = .ok (.aload_n 0, 1) := by decide +kernel
theorem dX6_file_72 : decode cX6_file 72 = .ok (.iconst 2, 1) := by decide +kernel
theorem dX6_file_73 : decode cX6_file 73 = .ok (.invokevirtual 163, 3) := by decide +kernel
theorem dX6_file_76 : decode cX6_file 76 = .ok (.ireturn, 1) := by decide +kernel
theorem dX6_file_77 : decode cX6_file 77 = .ok (.bipush 12, 2) := by decide +kernel
theorem dX6_file_79 : decode cX6_file 79 = .ok (.iconst 4, 1) := by decide +kernel
theorem dX6_file_80 : decode cX6_file 80 = .ok (.iload_n 1, 1) := by decide +kernel
theorem dX6_file_81 : decode cX6_file 81 = .ok (.imul, 1) := by decide +kernel
theorem dX6_file_82 : decode cX6_file 82 = .ok (.iload_n 2, 1) := by decide +kernel
theorem dX6_file_83 : decode cX6_file 83 = .ok (.iadd, 1) := by decide +kernel
theorem dX6_file_84 : decode cX6_file 84 = .ok (.imul, 1) := by decide +kernel
theorem dX6_file_85 : decode cX6_file 85 = .ok (.iload_n 3, 1) := by decide +kernel
theorem dX6_file_86 : decode cX6_file 86 = .ok (.iadd, 1) := by decide +kernel
theorem dX6_file_87 : decode cX6_file 87 = .ok (.istore 5, 2) := by decide +kernel
theorem dX6_file_89 : decode cX6_file 89 = .ok (.aload_n 0, 1) := by decide +kernel
theorem dX6_file_90 : decode cX6_file 90 = .ok (.getfield 45, 3) := by decide +kernel
theorem dX6_file_93 : decode cX6_file 93 = .ok (.iload 5, 2) := by decide +kernel
theorem dX6_file_95 : decode cX6_file 95 = .ok (.iaload, 1) := by decide +kernel
theorem dX6_file_96 : decode cX6_file 96 = .ok (.istore 6, 2) := by decide +kernel
theorem dX6_file_98 : decode cX6_file 98 = .ok (.aload_n 0, 1) := by decide +kernel
theorem dX6_file_99 : decode cX6_file 99 = .ok (.getfield 45, 3) := by decide +kernel
theorem dX6_file_102 : decode cX6_file 102 = .ok (.iload 5, 2) := by decide +kernel
theorem dX6_file_104 : decode cX6_file 104 = .ok (.iload 4, 2) := by decide +kernel
theorem dX6_file_106 : decode cX6_file 106 = .ok (.iastore, 1) := by decide +kernel
theorem dX6_file_107 : decode cX6_file 107 = .ok (.iload 6, 2) := by decide +kernel
theorem dX6_file_109 : decode cX6_file 109 = .ok (.ireturn, 1) := by decide +kernel
theorem dX6_before_0 : decode cX6_before 0 = .ok (.iload_n 1, 1) := by decide +kernel
theorem dX6_before_1 : decode cX6_before 1 = .ok (.iconst 4, 1) := by decide +kernel
theorem dX6_before_2 : decode cX6_before 2 = .ok (.irem, 1) := by decide +kernel
theorem dX6_before_3 : decode cX6_before 3 = .ok (.ifCond .eq 24, 3) := by decide +kernel
theorem dX6_before_6 : decode cX6_before 6 = .ok (.aload_n 0, 1) := by decide +kernel
theorem dX6_before_7 : decode cX6_before 7 = .ok (.getfield 48, 3) := by decide +kernel
theorem dX6_before_10 : decode cX6_before 10 = .ok (.iload_n 1, 1) := by decide +kernel
theorem dX6_before_11 : decode cX6_before 11 = .ok (.iconst 4, 1) := by decide +kernel
theorem dX6_before_12 : decode cX6_before 12 = .ok (.irem, 1) := by decide +kernel
theorem dX6_before_13 : decode cX6_before 13 = .ok (.ifCond .ne 7, 3) := by decide +kernel
theorem dX6_before_16 : decode cX6_before 16 = .ok (.iconst 0, 1) := by decide +kernel
theorem dX6_before_17 : decode cX6_before 17 = .ok (.goto 6, 3) := by decide +kernel
theorem dX6_before_20 : decode cX6_before 20 = .ok (.iload_n 1, 1) := by decide +kernel
theorem dX6_before_21 : decode cX6_before 21 = .ok (.iconst 1, 1) := by decide +kernel
theorem dX6_before_22 : decode cX6_before 22 = .ok (.isub, 1) := by decide +kernel
theorem dX6_before_23 : decode cX6_before 23 = .ok (.baload, 1) := by decide +kernel
theorem dX6_before_24 : decode cX6_before 24 = .ok (.ifCond .ne 7, 3) := by decide +kernel
theorem dX6_before_27 : decode cX6_before 27 = .ok (.lconst 0, 1) := by decide +kernel
theorem dX6_before_28 : decode cX6_before 28 = .ok (.goto 16, 3) := by decide +kernel
theorem dX6_before_31 : decode cX6_before 31 = .ok (.aload_n 0, 1) := by decide +kernel
theorem dX6_before_32 : decode cX6_before 32 = .ok (.getfield 51, 3) := by decide +kernel
theorem dX6_before_35 : decode cX6_before 35 = .ok (.bipush 12, 2) := by decide +kernel
theorem dX6_before_37 : decode cX6_before 37 = .ok (.iload_n 1, 1) := by decide +kernel
theorem dX6_before_38 : decode cX6_before 38 = .ok (.iconst 1, 1) := by decide +kernel
theorem dX6_before_39 : decode cX6_before 39 = .ok (.isub, 1) := by decide +kernel
theorem dX6_before_40 : decode cX6_before 40 = .ok (.imul, 1) := by decide +kernel
theorem dX6_before_41 : decode cX6_before 41 = .ok (.iload_n 2, 1) := by decide +kernel
theorem dX6_before_42 : decode cX6_before 42 = .ok (.iadd, 1) := by decide +kernel
theorem dX6_before_43 : decode cX6_before 43 = .ok (.laload, 1) := by decide +kernel
theorem dX6_before_44 : decode cX6_before 44 = .ok (.lreturn, 1) := by decide +kernel
theorem dX6_workOut_0 : decode cX6_workOut 0 = .ok (.aload_n 0, 1) := by decide +kernel
theorem dX6_workOut_1 : decode cX6_workOut 1 = .ok (.iconst 0, 1) := by decide +kernel
theorem dX6_workOut_2 : decode cX6_workOut 2 = .ok (.putfield 184, 3) := by decide +kernel
theorem dX6_workOut_5 : decode cX6_workOut 5 = .ok (.iconst 0, 1) := by decide +kernel
theorem dX6_workOut_6 : decode cX6_workOut 6 = .ok (.istore_n 3, 1) := by decide +kernel
theorem dX6_workOut_7 : decode cX6_workOut 7 = .ok (.iload_n 3, 1) := by decide +kernel
theorem dX6_workOut_8 : decode cX6_workOut 8 = .ok (.aload_n 0, 1) := by decide +kernel
theorem dX6_workOut_9 : decode cX6_workOut 9 = .ok (.getfield 20, 3) := by decide +kernel
theorem dX6_workOut_12 : decode cX6_workOut 12 = .ok (.iload_n 2, 1) := by decide +kernel
theorem dX6_workOut_13 : decode cX6_workOut 13 = .ok (.iaload, 1) := by decide +kernel
theorem dX6_workOut_14 : decode cX6_workOut 14 = .ok (.if_icmp .ge 103, 3) := by decide +kernel
theorem dX6_workOut_17 : decode cX6_workOut 17 = .ok (.aload_n 0, 1) := by decide +kernel
theorem dX6_workOut_18 : decode cX6_workOut 18 = .ok (.getfield 23, 3) := by decide +kernel
theorem dX6_workOut_21 : decode cX6_workOut 21 = .ok (.bipush 48, 2) := by decide +kernel
theorem dX6_workOut_23 : decode cX6_workOut 23 = .ok (.iload_n 2, 1) := by decide +kernel
theorem dX6_workOut_24 : decode cX6_workOut 24 = .ok (.imul, 1) := by decide +kernel
theorem dX6_workOut_25 : decode cX6_workOut 25 = .ok (.iload_n 3, 1) := by decide +kernel
theorem dX6_workOut_26 : decode cX6_workOut 26 = .ok (.iadd, 1) := by decide +kernel
theorem dX6_workOut_27 : decode cX6_workOut 27 = .ok (.iaload, 1) := by decide +kernel
theorem dX6_workOut_28 : decode cX6_workOut 28 = .ok (.istore 4, 2) := by decide +kernel
theorem dX6_workOut_30 : decode cX6_workOut 30 = .ok (.aload_n 0, 1) := by decide +kernel
theorem dX6_workOut_31 : decode cX6_workOut 31 = .ok (.getfield 26, 3) := by decide +kernel
theorem dX6_workOut_34 : decode cX6_workOut 34 = .ok (.bipush 48, 2) := by decide +kernel
theorem dX6_workOut_36 : decode cX6_workOut 36 = .ok (.iload_n 2, 1) := by decide +kernel
theorem dX6_workOut_37 : decode cX6_workOut 37 = .ok (.imul, 1) := by decide +kernel
theorem dX6_workOut_38 : decode cX6_workOut 38 = .ok (.iload_n 3, 1) := by decide +kernel
theorem dX6_workOut_39 : decode cX6_workOut 39 = .ok (.iadd, 1) := by decide +kernel
theorem dX6_workOut_40 : decode cX6_workOut 40 = .ok (.iaload, 1) := by decide +kernel
theorem dX6_workOut_41 : decode cX6_workOut 41 = .ok (.istore 5, 2) := by decide +kernel
theorem dX6_workOut_43 : decode cX6_workOut 43 = .ok (.iinc 3 1, 3) := by decide +kernel
theorem dX6_workOut_46 : decode cX6_workOut 46 = .ok (.iload 4, 2) := by decide +kernel
theorem dX6_workOut_48 : decode cX6_workOut 48 = .ok (.bipush 12, 2) := by decide +kernel
theorem dX6_workOut_50 : decode cX6_workOut 50 = .ok (.if_icmp .ne 9, 3) := by decide +kernel
theorem dX6_workOut_53 : decode cX6_workOut 53 = .ok (.iload 5, 2) := by decide +kernel
theorem dX6_workOut_55 : decode cX6_workOut 55 = .ok (.istore_n 3, 1) := by decide +kernel
theorem dX6_workOut_56 : decode cX6_workOut 56 = .ok (.goto 58, 3) := by decide +kernel
theorem dX6_workOut_59 : decode cX6_workOut 59 = .ok (.iload 4, 2) := by decide +kernel
theorem dX6_workOut_61 : decode cX6_workOut 61 = .ok (.bipush 11, 2) := by decide +kernel
theorem dX6_workOut_63 : decode cX6_workOut 63 = .ok (.if_icmp .ne 37, 3) := by decide +kernel
theorem dX6_workOut_66 : decode cX6_workOut 66 = .ok (.aload_n 0, 1) := by decide +kernel
theorem dX6_workOut_67 : decode cX6_workOut 67 = .ok (.dup, 1) := by decide +kernel
theorem dX6_workOut_68 : decode cX6_workOut 68 = .ok (.getfield 184, 3) := by decide +kernel
theorem dX6_workOut_71 : decode cX6_workOut 71 = .ok (.iconst 1, 1) := by decide +kernel
theorem dX6_workOut_72 : decode cX6_workOut 72 = .ok (.isub, 1) := by decide +kernel
theorem dX6_workOut_73 : decode cX6_workOut 73 = .ok (.putfield 184, 3) := by decide +kernel
theorem dX6_workOut_76 : decode cX6_workOut 76 = .ok (.aload_n 0, 1) := by decide +kernel
theorem dX6_workOut_77 : decode cX6_workOut 77 = .ok (.getfield 88, 3) := by decide +kernel
theorem dX6_workOut_80 : decode cX6_workOut 80 = .ok (.aload_n 0, 1) := by decide +kernel
theorem dX6_workOut_81 : decode cX6_workOut 81 = .ok (.getfield 184, 3) := by decide +kernel
theorem dX6_workOut_84 : decode cX6_workOut 84 = .ok (.laload, 1) := by decide +kernel
theorem dX6_workOut_85 : decode cX6_workOut 85 = .ok (.lconst 0, 1) := by decide +kernel
theorem dX6_workOut_86 : decode cX6_workOut 86 = .ok (.lcmp, 1) := by decide +kernel
theorem dX6_workOut_87 : decode cX6_workOut 87 = .ok (.ifCond .ne 8, 3) := by decide +kernel
theorem dX6_workOut_90 : decode cX6_workOut 90 = .ok (.iload 5, 2) := by decide +kernel
theorem dX6_workOut_92 : decode cX6_workOut 92 = .ok (.goto 4, 3) := by decide +kernel
theorem dX6_workOut_95 : decode cX6_workOut 95 = .ok (.iload_n 3, 1) := by decide +kernel
theorem dX6_workOut_96 : decode cX6_workOut 96 = .ok (.istore_n 3, 1) := by decide +kernel
theorem dX6_workOut_97 : decode cX6_workOut 97 = .ok (.goto 17, 3) := by decide +kernel
theorem dX6_workOut_100 : decode cX6_workOut 100 = .ok (.aload_n 0, 1) := by decide +kernel
theorem dX6_workOut_101 : decode cX6_workOut 101 = .ok (.iload_n 1, 1) := by decide +kernel
theorem dX6_workOut_102 : decode cX6_workOut 102 = .ok (.iload 4, 2) := by decide +kernel
theorem dX6_workOut_104 : decode cX6_workOut 104 = .ok (.iload 5, 2) := by decide +kernel
theorem dX6_workOut_106 : decode cX6_workOut 106 = .ok (.invokevirtual 187, 3) := by decide +kernel
theorem dX6_workOut_109 : decode cX6_workOut 109 = .ok (.ifCond .ne 5, 3) := by decide +kernel
theorem dX6_workOut_112 : decode cX6_workOut 112 = .ok (.iconst 0, 1) := by decide +kernel
theorem dX6_workOut_113 : decode cX6_workOut 113 = .ok (.ireturn, 1) := by decide +kernel
theorem dX6_workOut_114 : decode cX6_workOut 114 = .ok (.goto (-107), 3) := by decide +kernel
theorem dX6_workOut_117 : decode cX6_workOut 117 = .ok (.aload_n 0, 1) := by decide +kernel
theorem dX6_workOut_118 : decode cX6_workOut 118 = .ok (.getfield 85, 3) := by decide +kernel
theorem dX6_workOut_121 : decode cX6_workOut 121 = .ok (.iload_n 2, 1) := by decide +kernel
theorem dX6_workOut_122 : decode cX6_workOut 122 = .ok (.aload_n 0, 1) := by decide +kernel
theorem dX6_workOut_123 : decode cX6_workOut 123 = .ok (.getfield 88, 3) := by decide +kernel
theorem dX6_workOut_126 : decode cX6_workOut 126 = .ok (.iconst 0, 1) := by decide +kernel
theorem dX6_workOut_127 : decode cX6_workOut 127 = .ok (.laload, 1) := by decide +kernel
theorem dX6_workOut_128 : decode cX6_workOut 128 = .ok (.lastore, 1) := by decide +kernel
theorem dX6_workOut_129 : decode cX6_workOut 129 = .ok (.iconst 1, 1) := by decide +kernel
theorem dX6_workOut_130 : decode cX6_workOut 130 = .ok (.ireturn, 1) := by decide +kernel
theorem dX6_operate_0 : decode cX6_operate 0 = .ok (.iload_n 2, 1) := by decide +kernel
theorem dX6_operate_1 : decode cX6_operate 1 = .ok (.iconst 2, 1) := by decide +kernel
theorem dX6_operate_2 : decode cX6_operate 2 = .ok (.if_icmp .gt 7, 3) := by decide +kernel
theorem dX6_operate_5 : decode cX6_operate 5 = .ok (.iconst 1, 1) := by decide +kernel
theorem dX6_operate_6 : decode cX6_operate 6 = .ok (.goto 4, 3) := by decide +kernel
theorem dX6_operate_9 : decode cX6_operate 9 = .ok (.iconst 0, 1) := by decide +kernel
theorem dX6_operate_10 : decode cX6_operate 10 = .ok (.istore 4, 2) := by decide +kernel
theorem dX6_operate_12 : decode cX6_operate 12 = .ok (.iload_n 2, 1) := by decide +kernel
theorem dX6_operate_13 : decode cX6_operate 13 = .ok (.iconst 5, 1) := by decide +kernel
theorem dX6_operate_14 : decode cX6_operate 14 = .ok (.if_icmp .eq 9, 3) := by decide +kernel
theorem dX6_operate_17 : decode cX6_operate 17 = .ok (.iload_n 2, 1) := by decide +kernel
theorem dX6_operate_18 : decode cX6_operate 18 = .ok (.bipush 6, 2) := by decide +kernel
theorem dX6_operate_20 : decode cX6_operate 20 = .ok (.if_icmp .ne 7, 3) := by decide +kernel
theorem dX6_operate_23 : decode cX6_operate 23 = .ok (.iconst 1, 1) := by decide +kernel
theorem dX6_operate_24 : decode cX6_operate 24 = .ok (.goto 4, 3) := by decide +kernel
theorem dX6_operate_27 : decode cX6_operate 27 = .ok (.iconst 0, 1) := by decide +kernel
theorem dX6_operate_28 : decode cX6_operate 28 = .ok (.istore 5, 2) := by decide +kernel
theorem dX6_operate_30 : decode cX6_operate 30 = .ok (.iload 4, 2) := by decide +kernel
theorem dX6_operate_32 : decode cX6_operate 32 = .ok (.ifCond .eq 7, 3) := by decide +kernel
theorem dX6_operate_35 : decode cX6_operate 35 = .ok (.lconst 0, 1) := by decide +kernel
theorem dX6_operate_36 : decode cX6_operate 36 = .ok (.goto 14, 3) := by decide +kernel
theorem dX6_operate_39 : decode cX6_operate 39 = .ok (.aload_n 0, 1) := by decide +kernel
theorem dX6_operate_40 : decode cX6_operate 40 = .ok (.getfield 88, 3) := by decide +kernel
theorem dX6_operate_43 : decode cX6_operate 43 = .ok (.aload_n 0, 1) := by decide +kernel
theorem dX6_operate_44 : decode cX6_operate 44 = .ok (.getfield 184, 3) := by decide +kernel
theorem dX6_operate_47 : decode cX6_operate 47 = .ok (.iconst 1, 1) := by decide +kernel
theorem dX6_operate_48 : decode cX6_operate 48 = .ok (.isub, 1) := by decide +kernel
theorem dX6_operate_49 : decode cX6_operate 49 = .ok (.laload, 1) := by decide +kernel
theorem dX6_operate_50 : decode cX6_operate 50 = .ok (.lstore 6, 2) := by decide +kernel
theorem dX6_operate_52 : decode cX6_operate 52 = .ok (.iload 4, 2) := by decide +kernel
theorem dX6_operate_54 : decode cX6_operate 54 = .ok (.ifCond .ne 8, 3) := by decide +kernel
theorem dX6_operate_57 : decode cX6_operate 57 = .ok (.iload 5, 2) := by decide +kernel
theorem dX6_operate_59 : decode cX6_operate 59 = .ok (.ifCond .eq 7, 3) := by decide +kernel
theorem dX6_operate_62 : decode cX6_operate 62 = .ok (.lconst 0, 1) := by decide +kernel
theorem dX6_operate_63 : decode cX6_operate 63 = .ok (.goto 14, 3) := by decide +kernel
theorem dX6_operate_66 : decode cX6_operate 66 = .ok (.aload_n 0, 1) := by decide +kernel
theorem dX6_operate_67 : decode cX6_operate 67 = .ok (.getfield 88, 3) := by decide +kernel
theorem dX6_operate_70 : decode cX6_operate 70 = .ok (.aload_n 0, 1) := by decide +kernel
theorem dX6_operate_71 : decode cX6_operate 71 = .ok (.getfield 184, 3) := by decide +kernel
theorem dX6_operate_74 : decode cX6_operate 74 = .ok (.iconst 2, 1) := by decide +kernel
theorem dX6_operate_75 : decode cX6_operate 75 = .ok (.isub, 1) := by decide +kernel
theorem dX6_operate_76 : decode cX6_operate 76 = .ok (.laload, 1) := by decide +kernel
theorem dX6_operate_77 : decode cX6_operate 77 = .ok (.lstore 8, 2) := by decide +kernel
theorem dX6_operate_79 : decode cX6_operate 79 = .ok (.aload_n 0, 1) := by decide +kernel
theorem dX6_operate_80 : decode cX6_operate 80 = .ok (.iload 4, 2) := by decide +kernel
theorem dX6_operate_82 : decode cX6_operate 82 = .ok (.ifCond .eq 12, 3) := by decide +kernel
theorem dX6_operate_85 : decode cX6_operate 85 = .ok (.aload_n 0, 1) := by decide +kernel
theorem dX6_operate_86 : decode cX6_operate 86 = .ok (.getfield 184, 3) := by decide +kernel
theorem dX6_operate_89 : decode cX6_operate 89 = .ok (.iconst 1, 1) := by decide +kernel
theorem dX6_operate_90 : decode cX6_operate 90 = .ok (.iadd, 1) := by decide +kernel
theorem dX6_operate_91 : decode cX6_operate 91 = .ok (.goto 21, 3) := by decide +kernel
theorem dX6_operate_94 : decode cX6_operate 94 = .ok (.iload 5, 2) := by decide +kernel
theorem dX6_operate_96 : decode cX6_operate 96 = .ok (.ifCond .eq 10, 3) := by decide +kernel
theorem dX6_operate_99 : decode cX6_operate 99 = .ok (.aload_n 0, 1) := by decide +kernel
theorem dX6_operate_100 : decode cX6_operate 100 = .ok (.getfield 184, 3) := by decide +kernel
theorem dX6_operate_103 : decode cX6_operate 103 = .ok (.goto 9, 3) := by decide +kernel
theorem dX6_operate_106 : decode cX6_operate 106 = .ok (.aload_n 0, 1) := by decide +kernel
theorem dX6_operate_107 : decode cX6_operate 107 = .ok (.getfield 184, 3) := by decide +kernel
theorem dX6_operate_110 : decode cX6_operate 110 = .ok (.iconst 1, 1) := by decide +kernel
theorem dX6_operate_111 : decode cX6_operate 111 = .ok (.isub, 1) := by decide +kernel
theorem dX6_operate_112 : decode cX6_operate 112 = .ok (.putfield 184, 3) := by decide +kernel
theorem dX6_operate_115 : decode cX6_operate 115 = .ok (.lconst 0, 1) := by decide +kernel
theorem dX6_operate_116 : decode cX6_operate 116 = .ok (.lstore 10, 2) := by decide +kernel
theorem dX6_operate_118 : decode cX6_operate 118 = .ok (.iload_n 2, 1) := by decide +kernel
theorem dX6_operate_119 : decode cX6_operate 119 = .ok (.tableswitch 189 0 9 #[53, 60, 71, 82, 102, 122, 134, 151, 161, 171], 53) := by decide +kernel
theorem dX6_operate_172 : decode cX6_operate 172 = .ok (.iload_n 3, 1) := by decide +kernel
theorem dX6_operate_173 : decode cX6_operate 173 = .ok (.i2l, 1) := by decide +kernel
theorem dX6_operate_174 : decode cX6_operate 174 = .ok (.lstore 10, 2) := by decide +kernel
theorem dX6_operate_176 : decode cX6_operate 176 = .ok (.goto 147, 3) := by decide +kernel
theorem dX6_operate_179 : decode cX6_operate 179 = .ok (.aload_n 0, 1) := by decide +kernel
theorem dX6_operate_180 : decode cX6_operate 180 = .ok (.getfield 85, 3) := by decide +kernel
theorem dX6_operate_183 : decode cX6_operate 183 = .ok (.iload_n 3, 1) := by decide +kernel
theorem dX6_operate_184 : decode cX6_operate 184 = .ok (.laload, 1) := by decide +kernel
theorem dX6_operate_185 : decode cX6_operate 185 = .ok (.lstore 10, 2) := by decide +kernel
theorem dX6_operate_187 : decode cX6_operate 187 = .ok (.goto 136, 3) := by decide +kernel
theorem dX6_operate_190 : decode cX6_operate 190 = .ok (.aload_n 0, 1) := by decide +kernel
theorem dX6_operate_191 : decode cX6_operate 191 = .ok (.iload_n 1, 1) := by decide +kernel
theorem dX6_operate_192 : decode cX6_operate 192 = .ok (.iload_n 3, 1) := by decide +kernel
theorem dX6_operate_193 : decode cX6_operate 193 = .ok (.invokevirtual 191, 3) := by decide +kernel
theorem dX6_operate_196 : decode cX6_operate 196 = .ok (.lstore 10, 2) := by decide +kernel
theorem dX6_operate_198 : decode cX6_operate 198 = .ok (.goto 125, 3) := by decide +kernel
theorem dX6_operate_201 : decode cX6_operate 201 = .ok (.lload 8, 2) := by decide +kernel
theorem dX6_operate_203 : decode cX6_operate 203 = .ok (.lload 6, 2) := by decide +kernel
theorem dX6_operate_205 : decode cX6_operate 205 = .ok (.lcmp, 1) := by decide +kernel
theorem dX6_operate_206 : decode cX6_operate 206 = .ok (.ifCond .ge 8, 3) := by decide +kernel
theorem dX6_operate_209 : decode cX6_operate 209 = .ok (.lload 8, 2) := by decide +kernel
theorem dX6_operate_211 : decode cX6_operate 211 = .ok (.goto 5, 3) := by decide +kernel
theorem dX6_operate_214 : decode cX6_operate 214 = .ok (.lload 6, 2) := by decide +kernel
theorem dX6_operate_216 : decode cX6_operate 216 = .ok (.lstore 10, 2) := by decide +kernel
theorem dX6_operate_218 : decode cX6_operate 218 = .ok (.goto 105, 3) := by decide +kernel
theorem dX6_operate_221 : decode cX6_operate 221 = .ok (.lload 8, 2) := by decide +kernel
theorem dX6_operate_223 : decode cX6_operate 223 = .ok (.lload 6, 2) := by decide +kernel
theorem dX6_operate_225 : decode cX6_operate 225 = .ok (.lcmp, 1) := by decide +kernel
theorem dX6_operate_226 : decode cX6_operate 226 = .ok (.ifCond .le 8, 3) := by decide +kernel
theorem dX6_operate_229 : decode cX6_operate 229 = .ok (.lload 8, 2) := by decide +kernel
theorem dX6_operate_231 : decode cX6_operate 231 = .ok (.goto 5, 3) := by decide +kernel
theorem dX6_operate_234 : decode cX6_operate 234 = .ok (.lload 6, 2) := by decide +kernel
theorem dX6_operate_236 : decode cX6_operate 236 = .ok (.lstore 10, 2) := by decide +kernel
theorem dX6_operate_238 : decode cX6_operate 238 = .ok (.goto 85, 3) := by decide +kernel
theorem dX6_operate_241 : decode cX6_operate 241 = .ok (.aload_n 0, 1) := by decide +kernel
theorem dX6_operate_242 : decode cX6_operate 242 = .ok (.iload_n 3, 1) := by decide +kernel
theorem dX6_operate_243 : decode cX6_operate 243 = .ok (.lload 6, 2) := by decide +kernel
theorem dX6_operate_245 : decode cX6_operate 245 = .ok (.invokevirtual 195, 3) := by decide +kernel
theorem dX6_operate_248 : decode cX6_operate 248 = .ok (.lstore 10, 2) := by decide +kernel
theorem dX6_operate_250 : decode cX6_operate 250 = .ok (.goto 73, 3) := by decide +kernel
theorem dX6_operate_253 : decode cX6_operate 253 = .ok (.lload 6, 2) := by decide +kernel
theorem dX6_operate_255 : decode cX6_operate 255 = .ok (.iload_n 3, 1) := by decide +kernel
theorem dX6_operate_256 : decode cX6_operate 256 = .ok (.i2l, 1) := by decide +kernel
theorem dX6_operate_257 : decode cX6_operate 257 = .ok (.lmul, 1) := by decide +kernel
theorem dX6_operate_258 : decode cX6_operate 258 = .ok (.ldc2_w 199, 3) := by decide +kernel
theorem dX6_operate_261 : decode cX6_operate 261 = .ok (.iconst 2, 1) := by decide +kernel
theorem dX6_operate_262 : decode cX6_operate 262 = .ok (.invokestatic 173, 3) := by decide +kernel
theorem dX6_operate_265 : decode cX6_operate 265 = .ok (.lstore 10, 2) := by decide +kernel
theorem dX6_operate_267 : decode cX6_operate 267 = .ok (.goto 56, 3) := by decide +kernel
theorem dX6_operate_270 : decode cX6_operate 270 = .ok (.lload 8, 2) := by decide +kernel
theorem dX6_operate_272 : decode cX6_operate 272 = .ok (.lload 6, 2) := by decide +kernel
theorem dX6_operate_274 : decode cX6_operate 274 = .ok (.ladd, 1) := by decide +kernel
theorem dX6_operate_275 : decode cX6_operate 275 = .ok (.lstore 10, 2) := by decide +kernel
theorem dX6_operate_277 : decode cX6_operate 277 = .ok (.goto 46, 3) := by decide +kernel
theorem dX6_operate_280 : decode cX6_operate 280 = .ok (.lload 8, 2) := by decide +kernel
theorem dX6_operate_282 : decode cX6_operate 282 = .ok (.lload 6, 2) := by decide +kernel
theorem dX6_operate_284 : decode cX6_operate 284 = .ok (.lsub, 1) := by decide +kernel
theorem dX6_operate_285 : decode cX6_operate 285 = .ok (.lstore 10, 2) := by decide +kernel
theorem dX6_operate_287 : decode cX6_operate 287 = .ok (.goto 36, 3) := by decide +kernel
theorem dX6_operate_290 : decode cX6_operate 290 = .ok (.lload 8, 2) := by decide +kernel
theorem dX6_operate_292 : decode cX6_operate 292 = .ok (.lload 6, 2) := by decide +kernel
theorem dX6_operate_294 : decode cX6_operate 294 = .ok (.lcmp, 1) := by decide +kernel
theorem dX6_operate_295 : decode cX6_operate 295 = .ok (.ifCond .ge 7, 3) := by decide +kernel
theorem dX6_operate_298 : decode cX6_operate 298 = .ok (.lconst 1, 1) := by decide +kernel
theorem dX6_operate_299 : decode cX6_operate 299 = .ok (.goto 4, 3) := by decide +kernel
theorem dX6_operate_302 : decode cX6_operate 302 = .ok (.lconst 0, 1) := by decide +kernel
theorem dX6_operate_303 : decode cX6_operate 303 = .ok (.lstore 10, 2) := by decide +kernel
theorem dX6_operate_305 : decode cX6_operate 305 = .ok (.goto 18, 3) := by decide +kernel
theorem dX6_operate_308 : decode cX6_operate 308 = .ok (.lload 8, 2) := by decide +kernel
theorem dX6_operate_310 : decode cX6_operate 310 = .ok (.lload 6, 2) := by decide +kernel
theorem dX6_operate_312 : decode cX6_operate 312 = .ok (.lcmp, 1) := by decide +kernel
theorem dX6_operate_313 : decode cX6_operate 313 = .ok (.ifCond .le 7, 3) := by decide +kernel
theorem dX6_operate_316 : decode cX6_operate 316 = .ok (.lconst 1, 1) := by decide +kernel
theorem dX6_operate_317 : decode cX6_operate 317 = .ok (.goto 4, 3) := by decide +kernel
theorem dX6_operate_320 : decode cX6_operate 320 = .ok (.lconst 0, 1) := by decide +kernel
theorem dX6_operate_321 : decode cX6_operate 321 = .ok (.lstore 10, 2) := by decide +kernel
theorem dX6_operate_323 : decode cX6_operate 323 = .ok (.aload_n 0, 1) := by decide +kernel
theorem dX6_operate_324 : decode cX6_operate 324 = .ok (.getfield 88, 3) := by decide +kernel
theorem dX6_operate_327 : decode cX6_operate 327 = .ok (.aload_n 0, 1) := by decide +kernel
theorem dX6_operate_328 : decode cX6_operate 328 = .ok (.getfield 184, 3) := by decide +kernel
theorem dX6_operate_331 : decode cX6_operate 331 = .ok (.iconst 1, 1) := by decide +kernel
theorem dX6_operate_332 : decode cX6_operate 332 = .ok (.isub, 1) := by decide +kernel
theorem dX6_operate_333 : decode cX6_operate 333 = .ok (.lload 10, 2) := by decide +kernel
theorem dX6_operate_335 : decode cX6_operate 335 = .ok (.lastore, 1) := by decide +kernel
theorem dX6_operate_336 : decode cX6_operate 336 = .ok (.lload 10, 2) := by decide +kernel
theorem dX6_operate_338 : decode cX6_operate 338 = .ok (.ldc2_w 201, 3) := by decide +kernel
theorem dX6_operate_341 : decode cX6_operate 341 = .ok (.ldc2_w 203, 3) := by decide +kernel
theorem dX6_operate_344 : decode cX6_operate 344 = .ok (.invokestatic 137, 3) := by decide +kernel
theorem dX6_operate_347 : decode cX6_operate 347 = .ok (.ireturn, 1) := by decide +kernel
theorem dX6_assess_0 : decode cX6_assess 0 = .ok (.aload_n 0, 1) := by decide +kernel
theorem dX6_assess_1 : decode cX6_assess 1 = .ok (.iconst 0, 1) := by decide +kernel
theorem dX6_assess_2 : decode cX6_assess 2 = .ok (.putfield 91, 3) := by decide +kernel
theorem dX6_assess_5 : decode cX6_assess 5 = .ok (.iload_n 1, 1) := by decide +kernel
theorem dX6_assess_6 : decode cX6_assess 6 = .ok (.i2l, 1) := by decide +kernel
theorem dX6_assess_7 : decode cX6_assess 7 = .ok (.lconst 0, 1) := by decide +kernel
theorem dX6_assess_8 : decode cX6_assess 8 = .ok (.ldc2_w 135, 3) := by decide +kernel
theorem dX6_assess_11 : decode cX6_assess 11 = .ok (.invokestatic 137, 3) := by decide +kernel
theorem dX6_assess_14 : decode cX6_assess 14 = .ok (.ifCond .eq 15, 3) := by decide +kernel
theorem dX6_assess_17 : decode cX6_assess 17 = .ok (.iload_n 2, 1) := by decide +kernel
theorem dX6_assess_18 : decode cX6_assess 18 = .ok (.i2l, 1) := by decide +kernel
theorem dX6_assess_19 : decode cX6_assess 19 = .ok (.lconst 0, 1) := by decide +kernel
theorem dX6_assess_20 : decode cX6_assess 20 = .ok (.ldc2_w 180, 3) := by decide +kernel
theorem dX6_assess_23 : decode cX6_assess 23 = .ok (.invokestatic 137, 3) := by decide +kernel
theorem dX6_assess_26 : decode cX6_assess 26 = .ok (.ifCond .ne 10, 3) := by decide +kernel
theorem dX6_assess_29 : decode cX6_assess 29 = .ok (.aload_n 0, 1) := by decide +kernel
theorem dX6_assess_30 : decode cX6_assess 30 = .ok (.iconst 1, 1) := by decide +kernel
theorem dX6_assess_31 : decode cX6_assess 31 = .ok (.invokevirtual 163, 3) := by decide +kernel
theorem dX6_assess_34 : decode cX6_assess 34 = .ok (.i2l, 1) := by decide +kernel
theorem dX6_assess_35 : decode cX6_assess 35 = .ok (.lreturn, 1) := by decide +kernel
theorem dX6_assess_36 : decode cX6_assess 36 = .ok (.aload_n 0, 1) := by decide +kernel
theorem dX6_assess_37 : decode cX6_assess 37 = .ok (.invokevirtual 177, 3) := by decide +kernel
theorem dX6_assess_40 : decode cX6_assess 40 = .ok (.bipush 12, 2) := by decide +kernel
theorem dX6_assess_42 : decode cX6_assess 42 = .ok (.if_icmp .lt 14, 3) := by decide +kernel
theorem dX6_assess_45 : decode cX6_assess 45 = .ok (.aload_n 0, 1) := by decide +kernel
theorem dX6_assess_46 : decode cX6_assess 46 = .ok (.getfield 58, 3) := by decide +kernel
theorem dX6_assess_49 : decode cX6_assess 49 = .ok (.iload_n 1, 1) := by decide +kernel
theorem dX6_assess_50 : decode cX6_assess 50 = .ok (.iaload, 1) := by decide +kernel
theorem dX6_assess_51 : decode cX6_assess 51 = .ok (.bipush 24, 2) := by decide +kernel
theorem dX6_assess_53 : decode cX6_assess 53 = .ok (.if_icmp .ne 10, 3) := by decide +kernel
theorem dX6_assess_56 : decode cX6_assess 56 = .ok (.aload_n 0, 1) := by decide +kernel
theorem dX6_assess_57 : decode cX6_assess 57 = .ok (.iconst 2, 1) := by decide +kernel
theorem dX6_assess_58 : decode cX6_assess 58 = .ok (.invokevirtual 163, 3) := by decide +kernel
theorem dX6_assess_61 : decode cX6_assess 61 = .ok (.i2l, 1) := by decide +kernel
theorem dX6_assess_62 : decode cX6_assess 62 = .ok (.lreturn, 1) := by decide +kernel
theorem dX6_assess_63 : decode cX6_assess 63 = .ok (.iconst 4, 1) := by decide +kernel
theorem dX6_assess_64 : decode cX6_assess 64 = .ok (.iload_n 1, 1) := by decide +kernel
theorem dX6_assess_65 : decode cX6_assess 65 = .ok (.imul, 1) := by decide +kernel
theorem dX6_assess_66 : decode cX6_assess 66 = .ok (.iload_n 2, 1) := by decide +kernel
theorem dX6_assess_67 : decode cX6_assess 67 = .ok (.iadd, 1) := by decide +kernel
theorem dX6_assess_68 : decode cX6_assess 68 = .ok (.istore_n 3, 1) := by decide +kernel
theorem dX6_assess_69 : decode cX6_assess 69 = .ok (.iconst 0, 1) := by decide +kernel
theorem dX6_assess_70 : decode cX6_assess 70 = .ok (.istore 4, 2) := by decide +kernel
theorem dX6_assess_72 : decode cX6_assess 72 = .ok (.iload 4, 2) := by decide +kernel
theorem dX6_assess_74 : decode cX6_assess 74 = .ok (.bipush 12, 2) := by decide +kernel
theorem dX6_assess_76 : decode cX6_assess 76 = .ok (.if_icmp .ge 68, 3) := by decide +kernel
theorem dX6_assess_79 : decode cX6_assess 79 = .ok (.aload_n 0, 1) := by decide +kernel
theorem dX6_assess_80 : decode cX6_assess 80 = .ok (.getfield 82, 3) := by decide +kernel
theorem dX6_assess_83 : decode cX6_assess 83 = .ok (.iload 4, 2) := by decide +kernel
theorem dX6_assess_85 : decode cX6_assess 85 = .ok (.iaload, 1) := by decide +kernel
theorem dX6_assess_86 : decode cX6_assess 86 = .ok (.istore 5, 2) := by decide +kernel
theorem dX6_assess_88 : decode cX6_assess 88 = .ok (.aload_n 0, 1) := by decide +kernel
theorem dX6_assess_89 : decode cX6_assess 89 = .ok (.getfield 13, 3) := by decide +kernel
theorem dX6_assess_92 : decode cX6_assess 92 = .ok (.iload 5, 2) := by decide +kernel
theorem dX6_assess_94 : decode cX6_assess 94 = .ok (.baload, 1) := by decide +kernel
theorem dX6_assess_95 : decode cX6_assess 95 = .ok (.ifCond .ne 26, 3) := by decide +kernel
theorem dX6_assess_98 : decode cX6_assess 98 = .ok (.aload_n 0, 1) := by decide +kernel
theorem dX6_assess_99 : decode cX6_assess 99 = .ok (.getfield 85, 3) := by decide +kernel
theorem dX6_assess_102 : decode cX6_assess 102 = .ok (.iload 5, 2) := by decide +kernel
theorem dX6_assess_104 : decode cX6_assess 104 = .ok (.aload_n 0, 1) := by decide +kernel
theorem dX6_assess_105 : decode cX6_assess 105 = .ok (.getfield 45, 3) := by decide +kernel
theorem dX6_assess_108 : decode cX6_assess 108 = .ok (.bipush 12, 2) := by decide +kernel
theorem dX6_assess_110 : decode cX6_assess 110 = .ok (.iload_n 3, 1) := by decide +kernel
theorem dX6_assess_111 : decode cX6_assess 111 = .ok (.imul, 1) := by decide +kernel
theorem dX6_assess_112 : decode cX6_assess 112 = .ok (.iload 5, 2) := by decide +kernel
theorem dX6_assess_114 : decode cX6_assess 114 = .ok (.iadd, 1) := by decide +kernel
theorem dX6_assess_115 : decode cX6_assess 115 = .ok (.iaload, 1) := by decide +kernel
theorem dX6_assess_116 : decode cX6_assess 116 = .ok (.i2l, 1) := by decide +kernel
theorem dX6_assess_117 : decode cX6_assess 117 = .ok (.lastore, 1) := by decide +kernel
theorem dX6_assess_118 : decode cX6_assess 118 = .ok (.goto 20, 3) := by decide +kernel
theorem dX6_assess_121 : decode cX6_assess 121 = .ok (.aload_n 0, 1) := by decide +kernel
theorem dX6_assess_122 : decode cX6_assess 122 = .ok (.iload_n 3, 1) := by decide +kernel
theorem dX6_assess_123 : decode cX6_assess 123 = .ok (.iload 5, 2) := by decide +kernel
theorem dX6_assess_125 : decode cX6_assess 125 = .ok (.invokevirtual 205, 3) := by decide +kernel
theorem dX6_assess_128 : decode cX6_assess 128 = .ok (.ifCond .ne 10, 3) := by decide +kernel
theorem dX6_assess_131 : decode cX6_assess 131 = .ok (.aload_n 0, 1) := by decide +kernel
theorem dX6_assess_132 : decode cX6_assess 132 = .ok (.iconst 3, 1) := by decide +kernel
theorem dX6_assess_133 : decode cX6_assess 133 = .ok (.invokevirtual 163, 3) := by decide +kernel
theorem dX6_assess_136 : decode cX6_assess 136 = .ok (.i2l, 1) := by decide +kernel
theorem dX6_assess_137 : decode cX6_assess 137 = .ok (.lreturn, 1) := by decide +kernel
theorem dX6_assess_138 : decode cX6_assess 138 = .ok (.iinc 4 1, 3) := by decide +kernel
theorem dX6_assess_141 : decode cX6_assess 141 = .ok (.goto (-69), 3) := by decide +kernel
theorem dX6_assess_144 : decode cX6_assess 144 = .ok (.aload_n 0, 1) := by decide +kernel
theorem dX6_assess_145 : decode cX6_assess 145 = .ok (.getfield 85, 3) := by decide +kernel
theorem dX6_assess_148 : decode cX6_assess 148 = .ok (.aload_n 0, 1) := by decide +kernel
theorem dX6_assess_149 : decode cX6_assess 149 = .ok (.getfield 29, 3) := by decide +kernel
theorem dX6_assess_152 : decode cX6_assess 152 = .ok (.laload, 1) := by decide +kernel
theorem dX6_assess_153 : decode cX6_assess 153 = .ok (.lstore 4, 2) := by decide +kernel
theorem dX6_assess_155 : decode cX6_assess 155 = .ok (.aload_n 0, 1) := by decide +kernel
theorem dX6_assess_156 : decode cX6_assess 156 = .ok (.iload_n 1, 1) := by decide +kernel
theorem dX6_assess_157 : decode cX6_assess 157 = .ok (.iconst 0, 1) := by decide +kernel
theorem dX6_assess_158 : decode cX6_assess 158 = .ok (.iload_n 2, 1) := by decide +kernel
theorem dX6_assess_159 : decode cX6_assess 159 = .ok (.lload 4, 2) := by decide +kernel
theorem dX6_assess_161 : decode cX6_assess 161 = .ok (.aload_n 0, 1) := by decide +kernel
theorem dX6_assess_162 : decode cX6_assess 162 = .ok (.getfield 48, 3) := by decide +kernel
theorem dX6_assess_165 : decode cX6_assess 165 = .ok (.iload_n 3, 1) := by decide +kernel
theorem dX6_assess_166 : decode cX6_assess 166 = .ok (.baload, 1) := by decide +kernel
theorem dX6_assess_167 : decode cX6_assess 167 = .ok (.ifCond .eq 12, 3) := by decide +kernel
theorem dX6_assess_170 : decode cX6_assess 170 = .ok (.aload_n 0, 1) := by decide +kernel
theorem dX6_assess_171 : decode cX6_assess 171 = .ok (.getfield 55, 3) := by decide +kernel
theorem dX6_assess_174 : decode cX6_assess 174 = .ok (.iload_n 3, 1) := by decide +kernel
theorem dX6_assess_175 : decode cX6_assess 175 = .ok (.laload, 1) := by decide +kernel
theorem dX6_assess_176 : decode cX6_assess 176 = .ok (.goto 4, 3) := by decide +kernel
theorem dX6_assess_179 : decode cX6_assess 179 = .ok (.lconst 0, 1) := by decide +kernel
theorem dX6_assess_180 : decode cX6_assess 180 = .ok (.lsub, 1) := by decide +kernel
theorem dX6_assess_181 : decode cX6_assess 181 = .ok (.invokevirtual 208, 3) := by decide +kernel
theorem dX6_assess_184 : decode cX6_assess 184 = .ok (.iconst 0, 1) := by decide +kernel
theorem dX6_assess_185 : decode cX6_assess 185 = .ok (.istore 6, 2) := by decide +kernel
theorem dX6_assess_187 : decode cX6_assess 187 = .ok (.iload 6, 2) := by decide +kernel
theorem dX6_assess_189 : decode cX6_assess 189 = .ok (.bipush 12, 2) := by decide +kernel
theorem dX6_assess_191 : decode cX6_assess 191 = .ok (.if_icmp .ge 28, 3) := by decide +kernel
theorem dX6_assess_194 : decode cX6_assess 194 = .ok (.aload_n 0, 1) := by decide +kernel
theorem dX6_assess_195 : decode cX6_assess 195 = .ok (.getfield 51, 3) := by decide +kernel
theorem dX6_assess_198 : decode cX6_assess 198 = .ok (.bipush 12, 2) := by decide +kernel
theorem dX6_assess_200 : decode cX6_assess 200 = .ok (.iload_n 3, 1) := by decide +kernel
theorem dX6_assess_201 : decode cX6_assess 201 = .ok (.imul, 1) := by decide +kernel
theorem dX6_assess_202 : decode cX6_assess 202 = .ok (.iload 6, 2) := by decide +kernel
theorem dX6_assess_204 : decode cX6_assess 204 = .ok (.iadd, 1) := by decide +kernel
theorem dX6_assess_205 : decode cX6_assess 205 = .ok (.aload_n 0, 1) := by decide +kernel
theorem dX6_assess_206 : decode cX6_assess 206 = .ok (.getfield 85, 3) := by decide +kernel
theorem dX6_assess_209 : decode cX6_assess 209 = .ok (.iload 6, 2) := by decide +kernel
theorem dX6_assess_211 : decode cX6_assess 211 = .ok (.laload, 1) := by decide +kernel
theorem dX6_assess_212 : decode cX6_assess 212 = .ok (.lastore, 1) := by decide +kernel
theorem dX6_assess_213 : decode cX6_assess 213 = .ok (.iinc 6 1, 3) := by decide +kernel
theorem dX6_assess_216 : decode cX6_assess 216 = .ok (.goto (-29), 3) := by decide +kernel
theorem dX6_assess_219 : decode cX6_assess 219 = .ok (.aload_n 0, 1) := by decide +kernel
theorem dX6_assess_220 : decode cX6_assess 220 = .ok (.getfield 48, 3) := by decide +kernel
theorem dX6_assess_223 : decode cX6_assess 223 = .ok (.iload_n 3, 1) := by decide +kernel
theorem dX6_assess_224 : decode cX6_assess 224 = .ok (.iconst 1, 1) := by decide +kernel
theorem dX6_assess_225 : decode cX6_assess 225 = .ok (.bastore, 1) := by decide +kernel
theorem dX6_assess_226 : decode cX6_assess 226 = .ok (.aload_n 0, 1) := by decide +kernel
theorem dX6_assess_227 : decode cX6_assess 227 = .ok (.getfield 55, 3) := by decide +kernel
theorem dX6_assess_230 : decode cX6_assess 230 = .ok (.iload_n 3, 1) := by decide +kernel
theorem dX6_assess_231 : decode cX6_assess 231 = .ok (.lload 4, 2) := by decide +kernel
theorem dX6_assess_233 : decode cX6_assess 233 = .ok (.lastore, 1) := by decide +kernel
theorem dX6_assess_234 : decode cX6_assess 234 = .ok (.lload 4, 2) := by decide +kernel
theorem dX6_assess_236 : decode cX6_assess 236 = .ok (.lreturn, 1) := by decide +kernel
theorem dX6_post_0 : decode cX6_post 0 = .ok (.bipush 24, 2) := by decide +kernel
theorem dX6_post_2 : decode cX6_post 2 = .ok (.iload_n 1, 1) := by decide +kernel
theorem dX6_post_3 : decode cX6_post 3 = .ok (.imul, 1) := by decide +kernel
theorem dX6_post_4 : decode cX6_post 4 = .ok (.aload_n 0, 1) := by decide +kernel
theorem dX6_post_5 : decode cX6_post 5 = .ok (.getfield 58, 3) := by decide +kernel
theorem dX6_post_8 : decode cX6_post 8 = .ok (.iload_n 1, 1) := by decide +kernel
theorem dX6_post_9 : decode cX6_post 9 = .ok (.iaload, 1) := by decide +kernel
theorem dX6_post_10 : decode cX6_post 10 = .ok (.iadd, 1) := by decide +kernel
theorem dX6_post_11 : decode cX6_post 11 = .ok (.istore 6, 2) := by decide +kernel
theorem dX6_post_13 : decode cX6_post 13 = .ok (.aload_n 0, 1) := by decide +kernel
theorem dX6_post_14 : decode cX6_post 14 = .ok (.getfield 61, 3) := by decide +kernel
theorem dX6_post_17 : decode cX6_post 17 = .ok (.iload 6, 2) := by decide +kernel
theorem dX6_post_19 : decode cX6_post 19 = .ok (.iload_n 2, 1) := by decide +kernel
theorem dX6_post_20 : decode cX6_post 20 = .ok (.iastore, 1) := by decide +kernel
theorem dX6_post_21 : decode cX6_post 21 = .ok (.aload_n 0, 1) := by decide +kernel
theorem dX6_post_22 : decode cX6_post 22 = .ok (.getfield 64, 3) := by decide +kernel
theorem dX6_post_25 : decode cX6_post 25 = .ok (.iload 6, 2) := by decide +kernel
theorem dX6_post_27 : decode cX6_post 27 = .ok (.iload_n 3, 1) := by decide +kernel
theorem dX6_post_28 : decode cX6_post 28 = .ok (.iastore, 1) := by decide +kernel
theorem dX6_post_29 : decode cX6_post 29 = .ok (.aload_n 0, 1) := by decide +kernel
theorem dX6_post_30 : decode cX6_post 30 = .ok (.getfield 67, 3) := by decide +kernel
theorem dX6_post_33 : decode cX6_post 33 = .ok (.iload 6, 2) := by decide +kernel
theorem dX6_post_35 : decode cX6_post 35 = .ok (.lload 4, 2) := by decide +kernel
theorem dX6_post_37 : decode cX6_post 37 = .ok (.lastore, 1) := by decide +kernel
theorem dX6_post_38 : decode cX6_post 38 = .ok (.aload_n 0, 1) := by decide +kernel
theorem dX6_post_39 : decode cX6_post 39 = .ok (.getfield 58, 3) := by decide +kernel
theorem dX6_post_42 : decode cX6_post 42 = .ok (.iload_n 1, 1) := by decide +kernel
theorem dX6_post_43 : decode cX6_post 43 = .ok (.dup2, 1) := by decide +kernel
theorem dX6_post_44 : decode cX6_post 44 = .ok (.iaload, 1) := by decide +kernel
theorem dX6_post_45 : decode cX6_post 45 = .ok (.iconst 1, 1) := by decide +kernel
theorem dX6_post_46 : decode cX6_post 46 = .ok (.iadd, 1) := by decide +kernel
theorem dX6_post_47 : decode cX6_post 47 = .ok (.iastore, 1) := by decide +kernel
theorem dX6_post_48 : decode cX6_post 48 = .ok (.return_, 1) := by decide +kernel
theorem dX6_there_0 : decode cX6_there 0 = .ok (.aload_n 0, 1) := by decide +kernel
theorem dX6_there_1 : decode cX6_there 1 = .ok (.iconst 0, 1) := by decide +kernel
theorem dX6_there_2 : decode cX6_there 2 = .ok (.putfield 91, 3) := by decide +kernel
theorem dX6_there_5 : decode cX6_there 5 = .ok (.iload_n 1, 1) := by decide +kernel
theorem dX6_there_6 : decode cX6_there 6 = .ok (.i2l, 1) := by decide +kernel
theorem dX6_there_7 : decode cX6_there 7 = .ok (.lconst 0, 1) := by decide +kernel
theorem dX6_there_8 : decode cX6_there 8 = .ok (.ldc2_w 135, 3) := by decide +kernel
theorem dX6_there_11 : decode cX6_there 11 = .ok (.invokestatic 137, 3) := by decide +kernel
theorem dX6_there_14 : decode cX6_there 14 = .ok (.ifCond .eq 27, 3) := by decide +kernel
theorem dX6_there_17 : decode cX6_there 17 = .ok (.iload_n 2, 1) := by decide +kernel
theorem dX6_there_18 : decode cX6_there 18 = .ok (.i2l, 1) := by decide +kernel
theorem dX6_there_19 : decode cX6_there 19 = .ok (.lconst 0, 1) := by decide +kernel
theorem dX6_there_20 : decode cX6_there 20 = .ok (.ldc2_w 180, 3) := by decide +kernel
theorem dX6_there_23 : decode cX6_there 23 = .ok (.invokestatic 137, 3) := by decide +kernel
theorem dX6_there_26 : decode cX6_there 26 = .ok (.ifCond .eq 15, 3) := by decide +kernel
theorem dX6_there_29 : decode cX6_there 29 = .ok (.iload_n 3, 1) := by decide +kernel
theorem dX6_there_30 : decode cX6_there 30 = .ok (.i2l, 1) := by decide +kernel
theorem dX6_there_31 : decode cX6_there 31 = .ok (.lconst 0, 1) := by decide +kernel
theorem dX6_there_32 : decode cX6_there 32 = .ok (.ldc2_w 161, 3) := by decide +kernel
theorem dX6_there_35 : decode cX6_there 35 = .ok (.invokestatic 137, 3) := by decide +kernel
theorem dX6_there_38 : decode cX6_there 38 = .ok (.ifCond .ne 11, 3) := by decide +kernel
theorem dX6_there_41 : decode cX6_there 41 = .ok (.aload_n 0, 1) := by decide +kernel
theorem dX6_there_42 : decode cX6_there 42 = .ok (.iconst 1, 1) := by decide +kernel
theorem dX6_there_43 : decode cX6_there 43 = .ok (.putfield 91, 3) := by decide +kernel
theorem dX6_there_46 : decode cX6_there 46 = .ok (.goto 21, 3) := by decide +kernel
theorem dX6_there_49 : decode cX6_there 49 = .ok (.aload_n 0, 1) := by decide +kernel
theorem dX6_there_50 : decode cX6_there 50 = .ok (.getfield 48, 3) := by decide +kernel
theorem dX6_there_53 : decode cX6_there 53 = .ok (.iconst 4, 1) := by decide +kernel
theorem dX6_there_54 : decode cX6_there 54 = .ok (.iload_n 1, 1) := by decide +kernel
theorem dX6_there_55 : decode cX6_there 55 = .ok (.imul, 1) := by decide +kernel
theorem dX6_there_56 : decode cX6_there 56 = .ok (.iload_n 2, 1) := by decide +kernel
theorem dX6_there_57 : decode cX6_there 57 = .ok (.iadd, 1) := by decide +kernel
theorem dX6_there_58 : decode cX6_there 58 = .ok (.baload, 1) := by decide +kernel
theorem dX6_there_59 : decode cX6_there 59 = .ok (.ifCond .ne 8, 3) := by decide +kernel
theorem dX6_there_62 : decode cX6_there 62 = .ok (.aload_n 0, 1) := by decide +kernel
theorem dX6_there_63 : decode cX6_there 63 = .ok (.iconst 2, 1) := by decide +kernel
theorem dX6_there_64 : decode cX6_there 64 = .ok (.putfield 91, 3) := by decide +kernel
theorem dX6_there_67 : decode cX6_there 67 = .ok (.aload_n 0, 1) := by decide +kernel
theorem dX6_there_68 : decode cX6_there 68 = .ok (.getfield 91, 3) := by decide +kernel
theorem dX6_there_71 : decode cX6_there 71 = .ok (.ifCond .ne 7, 3) := by decide +kernel
theorem dX6_there_74 : decode cX6_there 74 = .ok (.iconst 1, 1) := by decide +kernel
theorem dX6_there_75 : decode cX6_there 75 = .ok (.goto 4, 3) := by decide +kernel
theorem dX6_there_78 : decode cX6_there 78 = .ok (.iconst 0, 1) := by decide +kernel
theorem dX6_there_79 : decode cX6_there 79 = .ok (.ireturn, 1) := by decide +kernel
theorem dX6_value_0 : decode cX6_value 0 = .ok (.aload_n 0, 1) := by decide +kernel
theorem dX6_value_1 : decode cX6_value 1 = .ok (.iload_n 1, 1) := by decide +kernel
theorem dX6_value_2 : decode cX6_value 2 = .ok (.iload_n 2, 1) := by decide +kernel
theorem dX6_value_3 : decode cX6_value 3 = .ok (.iload_n 3, 1) := by decide +kernel
theorem dX6_value_4 : decode cX6_value 4 = .ok (.invokevirtual 212, 3) := by decide +kernel
theorem dX6_value_7 : decode cX6_value 7 = .ok (.ifCond .eq 21, 3) := by decide +kernel
theorem dX6_value_10 : decode cX6_value 10 = .ok (.aload_n 0, 1) := by decide +kernel
theorem dX6_value_11 : decode cX6_value 11 = .ok (.getfield 51, 3) := by decide +kernel
theorem dX6_value_14 : decode cX6_value 14 = .ok (.bipush 12, 2) := by decide +kernel
theorem dX6_value_16 : decode cX6_value 16 = .ok (.iconst 4, 1) := by decide +kernel
theorem dX6_value_17 : decode cX6_value 17 = .ok (.iload_n 1, 1) := by decide +kernel
theorem dX6_value_18 : decode cX6_value 18 = .ok (.imul, 1) := by decide +kernel
theorem dX6_value_19 : decode cX6_value 19 = .ok (.iload_n 2, 1) := by decide +kernel
theorem dX6_value_20 : decode cX6_value 20 = .ok (.iadd, 1) := by decide +kernel
theorem dX6_value_21 : decode cX6_value 21 = .ok (.imul, 1) := by decide +kernel
theorem dX6_value_22 : decode cX6_value 22 = .ok (.iload_n 3, 1) := by decide +kernel
theorem dX6_value_23 : decode cX6_value 23 = .ok (.iadd, 1) := by decide +kernel
theorem dX6_value_24 : decode cX6_value 24 = .ok (.laload, 1) := by decide +kernel
theorem dX6_value_25 : decode cX6_value 25 = .ok (.goto 4, 3) := by decide +kernel
theorem dX6_value_28 : decode cX6_value 28 = .ok (.lconst 0, 1) := by decide +kernel
theorem dX6_value_29 : decode cX6_value 29 = .ok (.lreturn, 1) := by decide +kernel
theorem dX6_share_0 : decode cX6_share 0 = .ok (.aload_n 0, 1) := by decide +kernel
theorem dX6_share_1 : decode cX6_share 1 = .ok (.iload_n 1, 1) := by decide +kernel
theorem dX6_share_2 : decode cX6_share 2 = .ok (.iload_n 2, 1) := by decide +kernel
theorem dX6_share_3 : decode cX6_share 3 = .ok (.iload_n 3, 1) := by decide +kernel
theorem dX6_share_4 : decode cX6_share 4 = .ok (.invokevirtual 212, 3) := by decide +kernel
theorem dX6_share_7 : decode cX6_share 7 = .ok (.ifCond .ne 5, 3) := by decide +kernel
theorem dX6_share_10 : decode cX6_share 10 = .ok (.dconst 0, 1) := by decide +kernel
theorem dX6_share_11 : decode cX6_share 11 = .ok (.dreturn, 1) := by decide +kernel
theorem dX6_share_12 : decode cX6_share 12 = .ok (.iconst 4, 1) := by decide +kernel
theorem dX6_share_13 : decode cX6_share 13 = .ok (.iload_n 1, 1) := by decide +kernel
theorem dX6_share_14 : decode cX6_share 14 = .ok (.imul, 1) := by decide +kernel
theorem dX6_share_15 : decode cX6_share 15 = .ok (.iload_n 2, 1) := by decide +kernel
theorem dX6_share_16 : decode cX6_share 16 = .ok (.iadd, 1) := by decide +kernel
theorem dX6_share_17 : decode cX6_share 17 = .ok (.istore 4, 2) := by decide +kernel
theorem dX6_share_19 : decode cX6_share 19 = .ok (.aload_n 0, 1) := by decide +kernel
theorem dX6_share_20 : decode cX6_share 20 = .ok (.getfield 55, 3) := by decide +kernel
theorem dX6_share_23 : decode cX6_share 23 = .ok (.iload 4, 2) := by decide +kernel
theorem dX6_share_25 : decode cX6_share 25 = .ok (.laload, 1) := by decide +kernel
theorem dX6_share_26 : decode cX6_share 26 = .ok (.lconst 0, 1) := by decide +kernel
theorem dX6_share_27 : decode cX6_share 27 = .ok (.lcmp, 1) := by decide +kernel
theorem dX6_share_28 : decode cX6_share 28 = .ok (.ifCond .ne 7, 3) := by decide +kernel
theorem dX6_share_31 : decode cX6_share 31 = .ok (.dconst 0, 1) := by decide +kernel
theorem dX6_share_32 : decode cX6_share 32 = .ok (.goto 25, 3) := by decide +kernel
theorem dX6_share_35 : decode cX6_share 35 = .ok (.aload_n 0, 1) := by decide +kernel
theorem dX6_share_36 : decode cX6_share 36 = .ok (.getfield 51, 3) := by decide +kernel
theorem dX6_share_39 : decode cX6_share 39 = .ok (.bipush 12, 2) := by decide +kernel
theorem dX6_share_41 : decode cX6_share 41 = .ok (.iload 4, 2) := by decide +kernel
theorem dX6_share_43 : decode cX6_share 43 = .ok (.imul, 1) := by decide +kernel
theorem dX6_share_44 : decode cX6_share 44 = .ok (.iload_n 3, 1) := by decide +kernel
theorem dX6_share_45 : decode cX6_share 45 = .ok (.iadd, 1) := by decide +kernel
theorem dX6_share_46 : decode cX6_share 46 = .ok (.laload, 1) := by decide +kernel
theorem dX6_share_47 : decode cX6_share 47 = .ok (.l2d, 1) := by decide +kernel
theorem dX6_share_48 : decode cX6_share 48 = .ok (.aload_n 0, 1) := by decide +kernel
theorem dX6_share_49 : decode cX6_share 49 = .ok (.getfield 55, 3) := by decide +kernel
theorem dX6_share_52 : decode cX6_share 52 = .ok (.iload 4, 2) := by decide +kernel
theorem dX6_share_54 : decode cX6_share 54 = .ok (.laload, 1) := by decide +kernel
theorem dX6_share_55 : decode cX6_share 55 = .ok (.l2d, 1) := by decide +kernel
theorem dX6_share_56 : decode cX6_share 56 = .ok (.ddiv, 1) := by decide +kernel
theorem dX6_share_57 : decode cX6_share 57 = .ok (.dreturn, 1) := by decide +kernel
theorem dX6_sum_0 : decode cX6_sum 0 = .ok (.lconst 0, 1) := by decide +kernel
theorem dX6_sum_1 : decode cX6_sum 1 = .ok (.lstore_n 2, 1) := by decide +kernel
theorem dX6_sum_2 : decode cX6_sum 2 = .ok (.iconst 0, 1) := by decide +kernel
theorem dX6_sum_3 : decode cX6_sum 3 = .ok (.istore 4, 2) := by decide +kernel
theorem dX6_sum_5 : decode cX6_sum 5 = .ok (.iload 4, 2) := by decide +kernel
theorem dX6_sum_7 : decode cX6_sum 7 = .ok (.aload_n 0, 1) := by decide +kernel
theorem dX6_sum_8 : decode cX6_sum 8 = .ok (.getfield 58, 3) := by decide +kernel
theorem dX6_sum_11 : decode cX6_sum 11 = .ok (.iload_n 1, 1) := by decide +kernel
theorem dX6_sum_12 : decode cX6_sum 12 = .ok (.iaload, 1) := by decide +kernel
theorem dX6_sum_13 : decode cX6_sum 13 = .ok (.if_icmp .ge 24, 3) := by decide +kernel
theorem dX6_sum_16 : decode cX6_sum 16 = .ok (.lload_n 2, 1) := by decide +kernel
theorem dX6_sum_17 : decode cX6_sum 17 = .ok (.aload_n 0, 1) := by decide +kernel
theorem dX6_sum_18 : decode cX6_sum 18 = .ok (.getfield 67, 3) := by decide +kernel
theorem dX6_sum_21 : decode cX6_sum 21 = .ok (.bipush 24, 2) := by decide +kernel
theorem dX6_sum_23 : decode cX6_sum 23 = .ok (.iload_n 1, 1) := by decide +kernel
theorem dX6_sum_24 : decode cX6_sum 24 = .ok (.imul, 1) := by decide +kernel
theorem dX6_sum_25 : decode cX6_sum 25 = .ok (.iload 4, 2) := by decide +kernel
theorem dX6_sum_27 : decode cX6_sum 27 = .ok (.iadd, 1) := by decide +kernel
theorem dX6_sum_28 : decode cX6_sum 28 = .ok (.laload, 1) := by decide +kernel
theorem dX6_sum_29 : decode cX6_sum 29 = .ok (.ladd, 1) := by decide +kernel
theorem dX6_sum_30 : decode cX6_sum 30 = .ok (.lstore_n 2, 1) := by decide +kernel
theorem dX6_sum_31 : decode cX6_sum 31 = .ok (.iinc 4 1, 3) := by decide +kernel
theorem dX6_sum_34 : decode cX6_sum 34 = .ok (.goto (-29), 3) := by decide +kernel
theorem dX6_sum_37 : decode cX6_sum 37 = .ok (.lload_n 2, 1) := by decide +kernel
theorem dX6_sum_38 : decode cX6_sum 38 = .ok (.lreturn, 1) := by decide +kernel
theorem dX6_pay_0 : decode cX6_pay 0 = .ok (.aload_n 0, 1) := by decide +kernel
theorem dX6_pay_1 : decode cX6_pay 1 = .ok (.iconst 0, 1) := by decide +kernel
theorem dX6_pay_2 : decode cX6_pay 2 = .ok (.putfield 91, 3) := by decide +kernel
theorem dX6_pay_5 : decode cX6_pay 5 = .ok (.iload_n 1, 1) := by decide +kernel
theorem dX6_pay_6 : decode cX6_pay 6 = .ok (.i2l, 1) := by decide +kernel
theorem dX6_pay_7 : decode cX6_pay 7 = .ok (.lconst 0, 1) := by decide +kernel
theorem dX6_pay_8 : decode cX6_pay 8 = .ok (.ldc2_w 135, 3) := by decide +kernel
theorem dX6_pay_11 : decode cX6_pay 11 = .ok (.invokestatic 137, 3) := by decide +kernel
theorem dX6_pay_14 : decode cX6_pay 14 = .ok (.ifCond .ne 10, 3) := by decide +kernel
theorem dX6_pay_17 : decode cX6_pay 17 = .ok (.aload_n 0, 1) := by decide +kernel
theorem dX6_pay_18 : decode cX6_pay 18 = .ok (.iconst 1, 1) := by decide +kernel
theorem dX6_pay_19 : decode cX6_pay 19 = .ok (.invokevirtual 163, 3) := by decide +kernel
theorem dX6_pay_22 : decode cX6_pay 22 = .ok (.i2l, 1) := by decide +kernel
theorem dX6_pay_23 : decode cX6_pay 23 = .ok (.lreturn, 1) := by decide +kernel
theorem dX6_pay_24 : decode cX6_pay 24 = .ok (.iload_n 2, 1) := by decide +kernel
theorem dX6_pay_25 : decode cX6_pay 25 = .ok (.i2l, 1) := by decide +kernel
theorem dX6_pay_26 : decode cX6_pay 26 = .ok (.lconst 1, 1) := by decide +kernel
theorem dX6_pay_27 : decode cX6_pay 27 = .ok (.ldc2_w 169, 3) := by decide +kernel
theorem dX6_pay_30 : decode cX6_pay 30 = .ok (.invokestatic 137, 3) := by decide +kernel
theorem dX6_pay_33 : decode cX6_pay 33 = .ok (.ifCond .ne 10, 3) := by decide +kernel
theorem dX6_pay_36 : decode cX6_pay 36 = .ok (.aload_n 0, 1) := by decide +kernel
theorem dX6_pay_37 : decode cX6_pay 37 = .ok (.iconst 2, 1) := by decide +kernel
theorem dX6_pay_38 : decode cX6_pay 38 = .ok (.invokevirtual 163, 3) := by decide +kernel
theorem dX6_pay_41 : decode cX6_pay 41 = .ok (.i2l, 1) := by decide +kernel
theorem dX6_pay_42 : decode cX6_pay 42 = .ok (.lreturn, 1) := by decide +kernel
theorem dX6_pay_43 : decode cX6_pay 43 = .ok (.aload_n 0, 1) := by decide +kernel
theorem dX6_pay_44 : decode cX6_pay 44 = .ok (.getfield 58, 3) := by decide +kernel
theorem dX6_pay_47 : decode cX6_pay 47 = .ok (.iload_n 1, 1) := by decide +kernel
theorem dX6_pay_48 : decode cX6_pay 48 = .ok (.iaload, 1) := by decide +kernel
theorem dX6_pay_49 : decode cX6_pay 49 = .ok (.bipush 24, 2) := by decide +kernel
theorem dX6_pay_51 : decode cX6_pay 51 = .ok (.if_icmp .ne 10, 3) := by decide +kernel
theorem dX6_pay_54 : decode cX6_pay 54 = .ok (.aload_n 0, 1) := by decide +kernel
theorem dX6_pay_55 : decode cX6_pay 55 = .ok (.iconst 3, 1) := by decide +kernel
theorem dX6_pay_56 : decode cX6_pay 56 = .ok (.invokevirtual 163, 3) := by decide +kernel
theorem dX6_pay_59 : decode cX6_pay 59 = .ok (.i2l, 1) := by decide +kernel
theorem dX6_pay_60 : decode cX6_pay 60 = .ok (.lreturn, 1) := by decide +kernel
theorem dX6_pay_61 : decode cX6_pay 61 = .ok (.aload_n 0, 1) := by decide +kernel
theorem dX6_pay_62 : decode cX6_pay 62 = .ok (.iload_n 1, 1) := by decide +kernel
theorem dX6_pay_63 : decode cX6_pay 63 = .ok (.iconst 1, 1) := by decide +kernel
theorem dX6_pay_64 : decode cX6_pay 64 = .ok (.iconst (-1), 1) := by decide +kernel
theorem dX6_pay_65 : decode cX6_pay 65 = .ok (.iload_n 2, 1) := by decide +kernel
theorem dX6_pay_66 : decode cX6_pay 66 = .ok (.i2l, 1) := by decide +kernel
theorem dX6_pay_67 : decode cX6_pay 67 = .ok (.lneg, 1) := by decide +kernel
theorem dX6_pay_68 : decode cX6_pay 68 = .ok (.invokevirtual 208, 3) := by decide +kernel
theorem dX6_pay_71 : decode cX6_pay 71 = .ok (.aload_n 0, 1) := by decide +kernel
theorem dX6_pay_72 : decode cX6_pay 72 = .ok (.iload_n 1, 1) := by decide +kernel
theorem dX6_pay_73 : decode cX6_pay 73 = .ok (.invokevirtual 215, 3) := by decide +kernel
theorem dX6_pay_76 : decode cX6_pay 76 = .ok (.lreturn, 1) := by decide +kernel
theorem dX6_interest_0 : decode cX6_interest 0 = .ok (.aload_n 0, 1) := by decide +kernel
theorem dX6_interest_1 : decode cX6_interest 1 = .ok (.iconst 0, 1) := by decide +kernel
theorem dX6_interest_2 : decode cX6_interest 2 = .ok (.putfield 91, 3) := by decide +kernel
theorem dX6_interest_5 : decode cX6_interest 5 = .ok (.iload_n 1, 1) := by decide +kernel
theorem dX6_interest_6 : decode cX6_interest 6 = .ok (.i2l, 1) := by decide +kernel
theorem dX6_interest_7 : decode cX6_interest 7 = .ok (.lconst 0, 1) := by decide +kernel
theorem dX6_interest_8 : decode cX6_interest 8 = .ok (.ldc2_w 219, 3) := by decide +kernel
theorem dX6_interest_11 : decode cX6_interest 11 = .ok (.invokestatic 137, 3) := by decide +kernel
theorem dX6_interest_14 : decode cX6_interest 14 = .ok (.ifCond .ne 9, 3) := by decide +kernel
theorem dX6_interest_17 : decode cX6_interest 17 = .ok (.aload_n 0, 1) := by decide +kernel
theorem dX6_interest_18 : decode cX6_interest 18 = .ok (.iconst 1, 1) := by decide +kernel
theorem dX6_interest_19 : decode cX6_interest 19 = .ok (.invokevirtual 163, 3) := by decide +kernel
theorem dX6_interest_22 : decode cX6_interest 22 = .ok (.ireturn, 1) := by decide +kernel
theorem dX6_interest_23 : decode cX6_interest 23 = .ok (.aload_n 0, 1) := by decide +kernel
theorem dX6_interest_24 : decode cX6_interest 24 = .ok (.getfield 221, 3) := by decide +kernel
theorem dX6_interest_27 : decode cX6_interest 27 = .ok (.istore_n 2, 1) := by decide +kernel
theorem dX6_interest_28 : decode cX6_interest 28 = .ok (.aload_n 0, 1) := by decide +kernel
theorem dX6_interest_29 : decode cX6_interest 29 = .ok (.iload_n 1, 1) := by decide +kernel
theorem dX6_interest_30 : decode cX6_interest 30 = .ok (.putfield 221, 3) := by decide +kernel
theorem dX6_interest_33 : decode cX6_interest 33 = .ok (.iload_n 2, 1) := by decide +kernel
theorem dX6_interest_34 : decode cX6_interest 34 = .ok (.ireturn, 1) := by decide +kernel
theorem dX6_charge_0 : decode cX6_charge 0 = .ok (.aload_n 0, 1) := by decide +kernel
theorem dX6_charge_1 : decode cX6_charge 1 = .ok (.iload_n 1, 1) := by decide +kernel
theorem dX6_charge_2 : decode cX6_charge 2 = .ok (.invokevirtual 215, 3) := by decide +kernel
theorem dX6_charge_5 : decode cX6_charge 5 = .ok (.lstore_n 3, 1) := by decide +kernel
theorem dX6_charge_6 : decode cX6_charge 6 = .ok (.aload_n 0, 1) := by decide +kernel
theorem dX6_charge_7 : decode cX6_charge 7 = .ok (.getfield 221, 3) := by decide +kernel
theorem dX6_charge_10 : decode cX6_charge 10 = .ok (.i2l, 1) := by decide +kernel
theorem dX6_charge_11 : decode cX6_charge 11 = .ok (.iload_n 2, 1) := by decide +kernel
theorem dX6_charge_12 : decode cX6_charge 12 = .ok (.i2l, 1) := by decide +kernel
theorem dX6_charge_13 : decode cX6_charge 13 = .ok (.lmul, 1) := by decide +kernel
theorem dX6_charge_14 : decode cX6_charge 14 = .ok (.lstore 5, 2) := by decide +kernel
theorem dX6_charge_16 : decode cX6_charge 16 = .ok (.lload_n 3, 1) := by decide +kernel
theorem dX6_charge_17 : decode cX6_charge 17 = .ok (.lconst 0, 1) := by decide +kernel
theorem dX6_charge_18 : decode cX6_charge 18 = .ok (.lcmp, 1) := by decide +kernel
theorem dX6_charge_19 : decode cX6_charge 19 = .ok (.ifCond .le 27, 3) := by decide +kernel
theorem dX6_charge_22 : decode cX6_charge 22 = .ok (.lload_n 3, 1) := by decide +kernel
theorem dX6_charge_23 : decode cX6_charge 23 = .ok (.ldc2_w 224, 3) := by decide +kernel
theorem dX6_charge_26 : decode cX6_charge 26 = .ok (.ldiv, 1) := by decide +kernel
theorem dX6_charge_27 : decode cX6_charge 27 = .ok (.lload 5, 2) := by decide +kernel
theorem dX6_charge_29 : decode cX6_charge 29 = .ok (.lmul, 1) := by decide +kernel
theorem dX6_charge_30 : decode cX6_charge 30 = .ok (.lload_n 3, 1) := by decide +kernel
theorem dX6_charge_31 : decode cX6_charge 31 = .ok (.ldc2_w 224, 3) := by decide +kernel
theorem dX6_charge_34 : decode cX6_charge 34 = .ok (.lrem, 1) := by decide +kernel
theorem dX6_charge_35 : decode cX6_charge 35 = .ok (.lload 5, 2) := by decide +kernel
theorem dX6_charge_37 : decode cX6_charge 37 = .ok (.lmul, 1) := by decide +kernel
theorem dX6_charge_38 : decode cX6_charge 38 = .ok (.ldc2_w 224, 3) := by decide +kernel
theorem dX6_charge_41 : decode cX6_charge 41 = .ok (.ldiv, 1) := by decide +kernel
theorem dX6_charge_42 : decode cX6_charge 42 = .ok (.ladd, 1) := by decide +kernel
theorem dX6_charge_43 : decode cX6_charge 43 = .ok (.goto 4, 3) := by decide +kernel
theorem dX6_charge_46 : decode cX6_charge 46 = .ok (.lconst 0, 1) := by decide +kernel
theorem dX6_charge_47 : decode cX6_charge 47 = .ok (.lreturn, 1) := by decide +kernel
theorem dX6_pass_0 : decode cX6_pass 0 = .ok (.aload_n 0, 1) := by decide +kernel
theorem dX6_pass_1 : decode cX6_pass 1 = .ok (.iconst 0, 1) := by decide +kernel
theorem dX6_pass_2 : decode cX6_pass 2 = .ok (.putfield 91, 3) := by decide +kernel
theorem dX6_pass_5 : decode cX6_pass 5 = .ok (.iload_n 1, 1) := by decide +kernel
theorem dX6_pass_6 : decode cX6_pass 6 = .ok (.i2l, 1) := by decide +kernel
theorem dX6_pass_7 : decode cX6_pass 7 = .ok (.lconst 1, 1) := by decide +kernel
theorem dX6_pass_8 : decode cX6_pass 8 = .ok (.ldc2_w 171, 3) := by decide +kernel
theorem dX6_pass_11 : decode cX6_pass 11 = .ok (.invokestatic 137, 3) := by decide +kernel
theorem dX6_pass_14 : decode cX6_pass 14 = .ok (.ifCond .ne 9, 3) := by decide +kernel
theorem dX6_pass_17 : decode cX6_pass 17 = .ok (.aload_n 0, 1) := by decide +kernel
theorem dX6_pass_18 : decode cX6_pass 18 = .ok (.iconst 1, 1) := by decide +kernel
theorem dX6_pass_19 : decode cX6_pass 19 = .ok (.invokevirtual 163, 3) := by decide +kernel
theorem dX6_pass_22 : decode cX6_pass 22 = .ok (.ireturn, 1) := by decide +kernel
theorem dX6_pass_23 : decode cX6_pass 23 = .ok (.iconst 0, 1) := by decide +kernel
theorem dX6_pass_24 : decode cX6_pass 24 = .ok (.istore_n 2, 1) := by decide +kernel
theorem dX6_pass_25 : decode cX6_pass 25 = .ok (.iload_n 2, 1) := by decide +kernel
theorem dX6_pass_26 : decode cX6_pass 26 = .ok (.iconst 3, 1) := by decide +kernel
theorem dX6_pass_27 : decode cX6_pass 27 = .ok (.if_icmp .ge 37, 3) := by decide +kernel
theorem dX6_pass_30 : decode cX6_pass 30 = .ok (.aload_n 0, 1) := by decide +kernel
theorem dX6_pass_31 : decode cX6_pass 31 = .ok (.iload_n 2, 1) := by decide +kernel
theorem dX6_pass_32 : decode cX6_pass 32 = .ok (.iload_n 1, 1) := by decide +kernel
theorem dX6_pass_33 : decode cX6_pass 33 = .ok (.invokevirtual 226, 3) := by decide +kernel
theorem dX6_pass_36 : decode cX6_pass 36 = .ok (.lconst 0, 1) := by decide +kernel
theorem dX6_pass_37 : decode cX6_pass 37 = .ok (.lcmp, 1) := by decide +kernel
theorem dX6_pass_38 : decode cX6_pass 38 = .ok (.ifCond .eq 20, 3) := by decide +kernel
theorem dX6_pass_41 : decode cX6_pass 41 = .ok (.aload_n 0, 1) := by decide +kernel
theorem dX6_pass_42 : decode cX6_pass 42 = .ok (.getfield 58, 3) := by decide +kernel
theorem dX6_pass_45 : decode cX6_pass 45 = .ok (.iload_n 2, 1) := by decide +kernel
theorem dX6_pass_46 : decode cX6_pass 46 = .ok (.iaload, 1) := by decide +kernel
theorem dX6_pass_47 : decode cX6_pass 47 = .ok (.bipush 24, 2) := by decide +kernel
theorem dX6_pass_49 : decode cX6_pass 49 = .ok (.if_icmp .ne 9, 3) := by decide +kernel
theorem dX6_pass_52 : decode cX6_pass 52 = .ok (.aload_n 0, 1) := by decide +kernel
theorem dX6_pass_53 : decode cX6_pass 53 = .ok (.iconst 2, 1) := by decide +kernel
theorem dX6_pass_54 : decode cX6_pass 54 = .ok (.invokevirtual 163, 3) := by decide +kernel
theorem dX6_pass_57 : decode cX6_pass 57 = .ok (.ireturn, 1) := by decide +kernel
theorem dX6_pass_58 : decode cX6_pass 58 = .ok (.iinc 2 1, 3) := by decide +kernel
