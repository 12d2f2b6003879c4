theorem dX9_run_10 : decode cX9_run 10 = .ok (.iconst 1, 1) := by decide +kernel
theorem dX9_run_11 : decode cX9_run 11 = .ok (.iadd, 1) := by decide +kernel
theorem dX9_run_12 : decode cX9_run 12 = .ok (.putfield 290, 3) := by decide +kernel
theorem dX9_run_15 : decode cX9_run 15 = .ok (.aload_n 0, 1) := by decide +kernel
theorem dX9_run_16 : decode cX9_run 16 = .ok (.iconst 0, 1) := by decide +kernel
theorem dX9_run_17 : decode cX9_run 17 = .ok (.putfield 293, 3) := by decide +kernel
theorem dX9_run_20 : decode cX9_run 20 = .ok (.aload_n 0, 1) := by decide +kernel
theorem dX9_run_21 : decode cX9_run 21 = .ok (.aload_n 0, 1) := by decide +kernel
theorem dX9_run_22 : decode cX9_run 22 = .ok (.getfield 230, 3) := by decide +kernel
theorem dX9_run_25 : decode cX9_run 25 = .ok (.aload_n 0, 1) := by decide +kernel
theorem dX9_run_26 : decode cX9_run 26 = .ok (.getfield 230, 3) := by decide +kernel
theorem dX9_run_29 : decode cX9_run 29 = .ok (.iconst 1, 1) := by decide +kernel
theorem dX9_run_30 : decode cX9_run 30 = .ok (.isub, 1) := by decide +kernel
theorem dX9_run_31 : decode cX9_run 31 = .ok (.invokevirtual 285, 3) := by decide +kernel
theorem dX9_run_34 : decode cX9_run 34 = .ok (.iconst 0, 1) := by decide +kernel
theorem dX9_run_35 : decode cX9_run 35 = .ok (.istore_n 1, 1) := by decide +kernel
theorem dX9_run_36 : decode cX9_run 36 = .ok (.iload_n 1, 1) := by decide +kernel
theorem dX9_run_37 : decode cX9_run 37 = .ok (.aload_n 0, 1) := by decide +kernel
theorem dX9_run_38 : decode cX9_run 38 = .ok (.getfield 233, 3) := by decide +kernel
theorem dX9_run_41 : decode cX9_run 41 = .ok (.if_icmp .ge 116, 3) := by decide +kernel
theorem dX9_run_44 : decode cX9_run 44 = .ok (.iconst 0, 1) := by decide +kernel
theorem dX9_run_45 : decode cX9_run 45 = .ok (.istore_n 2, 1) := by decide +kernel
theorem dX9_run_46 : decode cX9_run 46 = .ok (.iload_n 2, 1) := by decide +kernel
theorem dX9_run_47 : decode cX9_run 47 = .ok (.aload_n 0, 1) := by decide +kernel
theorem dX9_run_48 : decode cX9_run 48 = .ok (.getfield 230, 3) := by decide +kernel
theorem dX9_run_51 : decode cX9_run 51 = .ok (.bipush 30, 2) := by decide +kernel
theorem dX9_run_53 : decode cX9_run 53 = .ok (.idiv, 1) := by decide +kernel
theorem dX9_run_54 : decode cX9_run 54 = .ok (.if_icmp .ge 97, 3) := by decide +kernel
theorem dX9_run_57 : decode cX9_run 57 = .ok (.aload_n 0, 1) := by decide +kernel
theorem dX9_run_58 : decode cX9_run 58 = .ok (.getfield 114, 3) := by decide +kernel
theorem dX9_run_61 : decode cX9_run 61 = .ok (.bipush 40, 2) := by decide +kernel
theorem dX9_run_63 : decode cX9_run 63 = .ok (.iload_n 1, 1) := by decide +kernel
theorem dX9_run_64 : decode cX9_run 64 = .ok (.imul, 1) := by decide +kernel
theorem dX9_run_65 : decode cX9_run 65 = .ok (.iload_n 2, 1) := by decide +kernel
theorem dX9_run_66 : decode cX9_run 66 = .ok (.iadd, 1) := by decide +kernel
theorem dX9_run_67 : decode cX9_run 67 = .ok (.laload, 1) := by decide +kernel
theorem dX9_run_68 : decode cX9_run 68 = .ok (.aload_n 0, 1) := by decide +kernel
theorem dX9_run_69 : decode cX9_run 69 = .ok (.getfield 118, 3) := by decide +kernel
theorem dX9_run_72 : decode cX9_run 72 = .ok (.bipush 40, 2) := by decide +kernel
theorem dX9_run_74 : decode cX9_run 74 = .ok (.iload_n 1, 1) := by decide +kernel
theorem dX9_run_75 : decode cX9_run 75 = .ok (.imul, 1) := by decide +kernel
theorem dX9_run_76 : decode cX9_run 76 = .ok (.iload_n 2, 1) := by decide +kernel
theorem dX9_run_77 : decode cX9_run 77 = .ok (.iadd, 1) := by decide +kernel
theorem dX9_run_78 : decode cX9_run 78 = .ok (.laload, 1) := by decide +kernel
theorem dX9_run_79 : decode cX9_run 79 = .ok (.lsub, 1) := by decide +kernel
theorem dX9_run_80 : decode cX9_run 80 = .ok (.lstore_n 3, 1) := by decide +kernel
theorem dX9_run_81 : decode cX9_run 81 = .ok (.lload_n 3, 1) := by decide +kernel
theorem dX9_run_82 : decode cX9_run 82 = .ok (.lconst 0, 1) := by decide +kernel
theorem dX9_run_83 : decode cX9_run 83 = .ok (.lcmp, 1) := by decide +kernel
theorem dX9_run_84 : decode cX9_run 84 = .ok (.ifCond .ne 6, 3) := by decide +kernel
theorem dX9_run_87 : decode cX9_run 87 = .ok (.goto 58, 3) := by decide +kernel
theorem dX9_run_90 : decode cX9_run 90 = .ok (.aload_n 0, 1) := by decide +kernel
theorem dX9_run_91 : decode cX9_run 91 = .ok (.getfield 118, 3) := by decide +kernel
theorem dX9_run_94 : decode cX9_run 94 = .ok (.bipush 40, 2) := by decide +kernel
theorem dX9_run_96 : decode cX9_run 96 = .ok (.iload_n 1, 1) := by decide +kernel
theorem dX9_run_97 : decode cX9_run 97 = .ok (.imul, 1) := by decide +kernel
theorem dX9_run_98 : decode cX9_run 98 = .ok (.iload_n 2, 1) := by decide +kernel
theorem dX9_run_99 : decode cX9_run 99 = .ok (.iadd, 1) := by decide +kernel
theorem dX9_run_100 : decode cX9_run 100 = .ok (.dup2, 1) := by decide +kernel
theorem dX9_run_101 : decode cX9_run 101 = .ok (.laload, 1) := by decide +kernel
theorem dX9_run_102 : decode cX9_run 102 = .ok (.lload_n 3, 1) := by decide +kernel
theorem dX9_run_103 : decode cX9_run 103 = .ok (.ladd, 1) := by decide +kernel
theorem dX9_run_104 : decode cX9_run 104 = .ok (.lastore, 1) := by decide +kernel
theorem dX9_run_105 : decode cX9_run 105 = .ok (.aload_n 0, 1) := by decide +kernel
theorem dX9_run_106 : decode cX9_run 106 = .ok (.getfield 121, 3) := by decide +kernel
theorem dX9_run_109 : decode cX9_run 109 = .ok (.aload_n 0, 1) := by decide +kernel
theorem dX9_run_110 : decode cX9_run 110 = .ok (.getfield 293, 3) := by decide +kernel
theorem dX9_run_113 : decode cX9_run 113 = .ok (.iload_n 1, 1) := by decide +kernel
theorem dX9_run_114 : decode cX9_run 114 = .ok (.iastore, 1) := by decide +kernel
theorem dX9_run_115 : decode cX9_run 115 = .ok (.aload_n 0, 1) := by decide +kernel
theorem dX9_run_116 : decode cX9_run 116 = .ok (.getfield 124, 3) := by decide +kernel
theorem dX9_run_119 : decode cX9_run 119 = .ok (.aload_n 0, 1) := by decide +kernel
theorem dX9_run_120 : decode cX9_run 120 = .ok (.getfield 293, 3) := by decide +kernel
theorem dX9_run_123 : decode cX9_run 123 = .ok (.iload_n 2, 1) := by decide +kernel
theorem dX9_run_124 : decode cX9_run 124 = .ok (.iastore, 1) := by decide +kernel
theorem dX9_run_125 : decode cX9_run 125 = .ok (.aload_n 0, 1) := by decide +kernel
theorem dX9_run_126 : decode cX9_run 126 = .ok (.getfield 127, 3) := by decide +kernel
theorem dX9_run_129 : decode cX9_run 129 = .ok (.aload_n 0, 1) := by decide +kernel
theorem dX9_run_130 : decode cX9_run 130 = .ok (.getfield 293, 3) := by decide +kernel
theorem dX9_run_133 : decode cX9_run 133 = .ok (.lload_n 3, 1) := by decide +kernel
theorem dX9_run_134 : decode cX9_run 134 = .ok (.lastore, 1) := by decide +kernel
theorem dX9_run_135 : decode cX9_run 135 = .ok (.aload_n 0, 1) := by decide +kernel
theorem dX9_run_136 : decode cX9_run 136 = .ok (.dup, 1) := by decide +kernel
theorem dX9_run_137 : decode cX9_run 137 = .ok (.getfield 293, 3) := by decide +kernel
theorem dX9_run_140 : decode cX9_run 140 = .ok (.iconst 1, 1) := by decide +kernel
theorem dX9_run_141 : decode cX9_run 141 = .ok (.iadd, 1) := by decide +kernel
theorem dX9_run_142 : decode cX9_run 142 = .ok (.putfield 293, 3) := by decide +kernel
theorem dX9_run_145 : decode cX9_run 145 = .ok (.iinc 2 1, 3) := by decide +kernel
theorem dX9_run_148 : decode cX9_run 148 = .ok (.goto (-102), 3) := by decide +kernel
theorem dX9_run_151 : decode cX9_run 151 = .ok (.iinc 1 1, 3) := by decide +kernel
theorem dX9_run_154 : decode cX9_run 154 = .ok (.goto (-118), 3) := by decide +kernel
theorem dX9_run_157 : decode cX9_run 157 = .ok (.aload_n 0, 1) := by decide +kernel
theorem dX9_run_158 : decode cX9_run 158 = .ok (.getfield 293, 3) := by decide +kernel
theorem dX9_run_161 : decode cX9_run 161 = .ok (.ireturn, 1) := by decide +kernel
theorem dX9_payment_0 : decode cX9_payment 0 = .ok (.aload_n 0, 1) := by decide +kernel
theorem dX9_payment_1 : decode cX9_payment 1 = .ok (.iconst 0, 1) := by decide +kernel
theorem dX9_payment_2 : decode cX9_payment 2 = .ok (.putfield 136, 3) := by decide +kernel
theorem dX9_payment_5 : decode cX9_payment 5 = .ok (.iload_n 1, 1) := by decide +kernel
theorem dX9_payment_6 : decode cX9_payment 6 = .ok (.ifCond .lt 11, 3) := by decide +kernel
theorem dX9_payment_9 : decode cX9_payment 9 = .ok (.iload_n 1, 1) := by decide +kernel
theorem dX9_payment_10 : decode cX9_payment 10 = .ok (.aload_n 0, 1) := by decide +kernel
theorem dX9_payment_11 : decode cX9_payment 11 = .ok (.getfield 293, 3) := by decide +kernel
theorem dX9_payment_14 : decode cX9_payment 14 = .ok (.if_icmp .lt 7, 3) := by decide +kernel
theorem dX9_payment_17 : decode cX9_payment 17 = .ok (.ldc2_w 288, 3) := by decide +kernel
theorem dX9_payment_20 : decode cX9_payment 20 = .ok (.lreturn, 1) := by decide +kernel
theorem dX9_payment_21 : decode cX9_payment 21 = .ok (.iload_n 2, 1) := by decide +kernel
theorem dX9_payment_22 : decode cX9_payment 22 = .ok (.ifCond .ne 13, 3) := by decide +kernel
theorem dX9_payment_25 : decode cX9_payment 25 = .ok (.aload_n 0, 1) := by decide +kernel
theorem dX9_payment_26 : decode cX9_payment 26 = .ok (.getfield 121, 3) := by decide +kernel
theorem dX9_payment_29 : decode cX9_payment 29 = .ok (.iload_n 1, 1) := by decide +kernel
theorem dX9_payment_30 : decode cX9_payment 30 = .ok (.iaload, 1) := by decide +kernel
theorem dX9_payment_31 : decode cX9_payment 31 = .ok (.i2l, 1) := by decide +kernel
theorem dX9_payment_32 : decode cX9_payment 32 = .ok (.goto 35, 3) := by decide +kernel
theorem dX9_payment_35 : decode cX9_payment 35 = .ok (.iload_n 2, 1) := by decide +kernel
theorem dX9_payment_36 : decode cX9_payment 36 = .ok (.iconst 1, 1) := by decide +kernel
theorem dX9_payment_37 : decode cX9_payment 37 = .ok (.if_icmp .ne 13, 3) := by decide +kernel
theorem dX9_payment_40 : decode cX9_payment 40 = .ok (.aload_n 0, 1) := by decide +kernel
theorem dX9_payment_41 : decode cX9_payment 41 = .ok (.getfield 124, 3) := by decide +kernel
theorem dX9_payment_44 : decode cX9_payment 44 = .ok (.iload_n 1, 1) := by decide +kernel
theorem dX9_payment_45 : decode cX9_payment 45 = .ok (.iaload, 1) := by decide +kernel
theorem dX9_payment_46 : decode cX9_payment 46 = .ok (.i2l, 1) := by decide +kernel
theorem dX9_payment_47 : decode cX9_payment 47 = .ok (.goto 20, 3) := by decide +kernel
theorem dX9_payment_50 : decode cX9_payment 50 = .ok (.iload_n 2, 1) := by decide +kernel
theorem dX9_payment_51 : decode cX9_payment 51 = .ok (.iconst 2, 1) := by decide +kernel
theorem dX9_payment_52 : decode cX9_payment 52 = .ok (.if_icmp .ne 12, 3) := by decide +kernel
theorem dX9_payment_55 : decode cX9_payment 55 = .ok (.aload_n 0, 1) := by decide +kernel
theorem dX9_payment_56 : decode cX9_payment 56 = .ok (.getfield 127, 3) := by decide +kernel
theorem dX9_payment_59 : decode cX9_payment 59 = .ok (.iload_n 1, 1) := by decide +kernel
theorem dX9_payment_60 : decode cX9_payment 60 = .ok (.laload, 1) := by decide +kernel
theorem dX9_payment_61 : decode cX9_payment 61 = .ok (.goto 6, 3) := by decide +kernel
theorem dX9_payment_64 : decode cX9_payment 64 = .ok (.ldc2_w 288, 3) := by decide +kernel
theorem dX9_payment_67 : decode cX9_payment 67 = .ok (.lreturn, 1) := by decide +kernel
theorem dX9_paid_0 : decode cX9_paid 0 = .ok (.aload_n 0, 1) := by decide +kernel
theorem dX9_paid_1 : decode cX9_paid 1 = .ok (.iconst 0, 1) := by decide +kernel
theorem dX9_paid_2 : decode cX9_paid 2 = .ok (.putfield 136, 3) := by decide +kernel
theorem dX9_paid_5 : decode cX9_paid 5 = .ok (.aload_n 0, 1) := by decide +kernel
theorem dX9_paid_6 : decode cX9_paid 6 = .ok (.iload_n 1, 1) := by decide +kernel
theorem dX9_paid_7 : decode cX9_paid 7 = .ok (.invokevirtual 275, 3) := by decide +kernel
theorem dX9_paid_10 : decode cX9_paid 10 = .ok (.ifCond .eq 27, 3) := by decide +kernel
theorem dX9_paid_13 : decode cX9_paid 13 = .ok (.iload_n 2, 1) := by decide +kernel
theorem dX9_paid_14 : decode cX9_paid 14 = .ok (.ifCond .lt 23, 3) := by decide +kernel
theorem dX9_paid_17 : decode cX9_paid 17 = .ok (.iload_n 2, 1) := by decide +kernel
theorem dX9_paid_18 : decode cX9_paid 18 = .ok (.bipush 39, 2) := by decide +kernel
theorem dX9_paid_20 : decode cX9_paid 20 = .ok (.if_icmp .gt 17, 3) := by decide +kernel
theorem dX9_paid_23 : decode cX9_paid 23 = .ok (.aload_n 0, 1) := by decide +kernel
theorem dX9_paid_24 : decode cX9_paid 24 = .ok (.getfield 118, 3) := by decide +kernel
theorem dX9_paid_27 : decode cX9_paid 27 = .ok (.bipush 40, 2) := by decide +kernel
theorem dX9_paid_29 : decode cX9_paid 29 = .ok (.iload_n 1, 1) := by decide +kernel
theorem dX9_paid_30 : decode cX9_paid 30 = .ok (.imul, 1) := by decide +kernel
theorem dX9_paid_31 : decode cX9_paid 31 = .ok (.iload_n 2, 1) := by decide +kernel
theorem dX9_paid_32 : decode cX9_paid 32 = .ok (.iadd, 1) := by decide +kernel
theorem dX9_paid_33 : decode cX9_paid 33 = .ok (.laload, 1) := by decide +kernel
theorem dX9_paid_34 : decode cX9_paid 34 = .ok (.goto 6, 3) := by decide +kernel
theorem dX9_paid_37 : decode cX9_paid 37 = .ok (.ldc2_w 288, 3) := by decide +kernel
theorem dX9_paid_40 : decode cX9_paid 40 = .ok (.lreturn, 1) := by decide +kernel
theorem dX9_cost_0 : decode cX9_cost 0 = .ok (.aload_n 0, 1) := by decide +kernel
theorem dX9_cost_1 : decode cX9_cost 1 = .ok (.iconst 0, 1) := by decide +kernel
theorem dX9_cost_2 : decode cX9_cost 2 = .ok (.putfield 136, 3) := by decide +kernel
theorem dX9_cost_5 : decode cX9_cost 5 = .ok (.iload_n 1, 1) := by decide +kernel
theorem dX9_cost_6 : decode cX9_cost 6 = .ok (.ifCond .lt 22, 3) := by decide +kernel
theorem dX9_cost_9 : decode cX9_cost 9 = .ok (.iload_n 2, 1) := by decide +kernel
theorem dX9_cost_10 : decode cX9_cost 10 = .ok (.bipush 39, 2) := by decide +kernel
theorem dX9_cost_12 : decode cX9_cost 12 = .ok (.if_icmp .gt 16, 3) := by decide +kernel
theorem dX9_cost_15 : decode cX9_cost 15 = .ok (.iload_n 2, 1) := by decide +kernel
theorem dX9_cost_16 : decode cX9_cost 16 = .ok (.iload_n 1, 1) := by decide +kernel
theorem dX9_cost_17 : decode cX9_cost 17 = .ok (.if_icmp .lt 11, 3) := by decide +kernel
theorem dX9_cost_20 : decode cX9_cost 20 = .ok (.aload_n 0, 1) := by decide +kernel
theorem dX9_cost_21 : decode cX9_cost 21 = .ok (.iload_n 3, 1) := by decide +kernel
theorem dX9_cost_22 : decode cX9_cost 22 = .ok (.invokevirtual 281, 3) := by decide +kernel
theorem dX9_cost_25 : decode cX9_cost 25 = .ok (.ifCond .ne 7, 3) := by decide +kernel
theorem dX9_cost_28 : decode cX9_cost 28 = .ok (.ldc2_w 288, 3) := by decide +kernel
theorem dX9_cost_31 : decode cX9_cost 31 = .ok (.lreturn, 1) := by decide +kernel
theorem dX9_cost_32 : decode cX9_cost 32 = .ok (.aload_n 0, 1) := by decide +kernel
theorem dX9_cost_33 : decode cX9_cost 33 = .ok (.iload_n 3, 1) := by decide +kernel
theorem dX9_cost_34 : decode cX9_cost 34 = .ok (.bipush 30, 2) := by decide +kernel
theorem dX9_cost_36 : decode cX9_cost 36 = .ok (.iload_n 2, 1) := by decide +kernel
theorem dX9_cost_37 : decode cX9_cost 37 = .ok (.imul, 1) := by decide +kernel
theorem dX9_cost_38 : decode cX9_cost 38 = .ok (.bipush 29, 2) := by decide +kernel
theorem dX9_cost_40 : decode cX9_cost 40 = .ok (.iadd, 1) := by decide +kernel
theorem dX9_cost_41 : decode cX9_cost 41 = .ok (.invokevirtual 285, 3) := by decide +kernel
theorem dX9_cost_44 : decode cX9_cost 44 = .ok (.lconst 0, 1) := by decide +kernel
theorem dX9_cost_45 : decode cX9_cost 45 = .ok (.lstore 4, 2) := by decide +kernel
theorem dX9_cost_47 : decode cX9_cost 47 = .ok (.iconst 0, 1) := by decide +kernel
theorem dX9_cost_48 : decode cX9_cost 48 = .ok (.istore 6, 2) := by decide +kernel
theorem dX9_cost_50 : decode cX9_cost 50 = .ok (.iload 6, 2) := by decide +kernel
theorem dX9_cost_52 : decode cX9_cost 52 = .ok (.aload_n 0, 1) := by decide +kernel
theorem dX9_cost_53 : decode cX9_cost 53 = .ok (.getfield 233, 3) := by decide +kernel
theorem dX9_cost_56 : decode cX9_cost 56 = .ok (.if_icmp .ge 42, 3) := by decide +kernel
theorem dX9_cost_59 : decode cX9_cost 59 = .ok (.iload_n 1, 1) := by decide +kernel
theorem dX9_cost_60 : decode cX9_cost 60 = .ok (.istore 7, 2) := by decide +kernel
theorem dX9_cost_62 : decode cX9_cost 62 = .ok (.iload 7, 2) := by decide +kernel
theorem dX9_cost_64 : decode cX9_cost 64 = .ok (.iload_n 2, 1) := by decide +kernel
theorem dX9_cost_65 : decode cX9_cost 65 = .ok (.if_icmp .gt 27, 3) := by decide +kernel
theorem dX9_cost_68 : decode cX9_cost 68 = .ok (.lload 4, 2) := by decide +kernel
theorem dX9_cost_70 : decode cX9_cost 70 = .ok (.aload_n 0, 1) := by decide +kernel
theorem dX9_cost_71 : decode cX9_cost 71 = .ok (.getfield 114, 3) := by decide +kernel
theorem dX9_cost_74 : decode cX9_cost 74 = .ok (.bipush 40, 2) := by decide +kernel
theorem dX9_cost_76 : decode cX9_cost 76 = .ok (.iload 6, 2) := by decide +kernel
theorem dX9_cost_78 : decode cX9_cost 78 = .ok (.imul, 1) := by decide +kernel
theorem dX9_cost_79 : decode cX9_cost 79 = .ok (.iload 7, 2) := by decide +kernel
theorem dX9_cost_81 : decode cX9_cost 81 = .ok (.iadd, 1) := by decide +kernel
theorem dX9_cost_82 : decode cX9_cost 82 = .ok (.laload, 1) := by decide +kernel
theorem dX9_cost_83 : decode cX9_cost 83 = .ok (.ladd, 1) := by decide +kernel
theorem dX9_cost_84 : decode cX9_cost 84 = .ok (.lstore 4, 2) := by decide +kernel
theorem dX9_cost_86 : decode cX9_cost 86 = .ok (.iinc 7 1, 3) := by decide +kernel
theorem dX9_cost_89 : decode cX9_cost 89 = .ok (.goto (-27), 3) := by decide +kernel
theorem dX9_cost_92 : decode cX9_cost 92 = .ok (.iinc 6 1, 3) := by decide +kernel
theorem dX9_cost_95 : decode cX9_cost 95 = .ok (.goto (-45), 3) := by decide +kernel
theorem dX9_cost_98 : decode cX9_cost 98 = .ok (.lload 4, 2) := by decide +kernel
theorem dX9_cost_100 : decode cX9_cost 100 = .ok (.lreturn, 1) := by decide +kernel
theorem dX9_common_0 : decode cX9_common 0 = .ok (.iload_n 0, 1) := by decide +kernel
theorem dX9_common_1 : decode cX9_common 1 = .ok (.istore_n 2, 1) := by decide +kernel
theorem dX9_common_2 : decode cX9_common 2 = .ok (.iload_n 1, 1) := by decide +kernel
theorem dX9_common_3 : decode cX9_common 3 = .ok (.istore_n 3, 1) := by decide +kernel
theorem dX9_common_4 : decode cX9_common 4 = .ok (.iload_n 3, 1) := by decide +kernel
theorem dX9_common_5 : decode cX9_common 5 = .ok (.ifCond .le 16, 3) := by decide +kernel
theorem dX9_common_8 : decode cX9_common 8 = .ok (.iload_n 2, 1) := by decide +kernel
theorem dX9_common_9 : decode cX9_common 9 = .ok (.iload_n 3, 1) := by decide +kernel
theorem dX9_common_10 : decode cX9_common 10 = .ok (.irem, 1) := by decide +kernel
theorem dX9_common_11 : decode cX9_common 11 = .ok (.istore 4, 2) := by decide +kernel
theorem dX9_common_13 : decode cX9_common 13 = .ok (.iload_n 3, 1) := by decide +kernel
theorem dX9_common_14 : decode cX9_common 14 = .ok (.istore_n 2, 1) := by decide +kernel
theorem dX9_common_15 : decode cX9_common 15 = .ok (.iload 4, 2) := by decide +kernel
theorem dX9_common_17 : decode cX9_common 17 = .ok (.istore_n 3, 1) := by decide +kernel
theorem dX9_common_18 : decode cX9_common 18 = .ok (.goto (-14), 3) := by decide +kernel
theorem dX9_common_21 : decode cX9_common 21 = .ok (.iload_n 2, 1) := by decide +kernel
theorem dX9_common_22 : decode cX9_common 22 = .ok (.ireturn, 1) := by decide +kernel
theorem dX9_like_0 : decode cX9_like 0 = .ok (.aload_n 0, 1) := by decide +kernel
theorem dX9_like_1 : decode cX9_like 1 = .ok (.iconst 0, 1) := by decide +kernel
theorem dX9_like_2 : decode cX9_like 2 = .ok (.putfield 136, 3) := by decide +kernel
theorem dX9_like_5 : decode cX9_like 5 = .ok (.aload_n 0, 1) := by decide +kernel
theorem dX9_like_6 : decode cX9_like 6 = .ok (.iload_n 1, 1) := by decide +kernel
theorem dX9_like_7 : decode cX9_like 7 = .ok (.invokevirtual 278, 3) := by decide +kernel
theorem dX9_like_10 : decode cX9_like 10 = .ok (.ifCond .eq 22, 3) := by decide +kernel
theorem dX9_like_13 : decode cX9_like 13 = .ok (.aload_n 0, 1) := by decide +kernel
theorem dX9_like_14 : decode cX9_like 14 = .ok (.iload_n 2, 1) := by decide +kernel
theorem dX9_like_15 : decode cX9_like 15 = .ok (.invokevirtual 281, 3) := by decide +kernel
theorem dX9_like_18 : decode cX9_like 18 = .ok (.ifCond .eq 14, 3) := by decide +kernel
theorem dX9_like_21 : decode cX9_like 21 = .ok (.iload_n 3, 1) := by decide +kernel
theorem dX9_like_22 : decode cX9_like 22 = .ok (.ifCond .lt 10, 3) := by decide +kernel
theorem dX9_like_25 : decode cX9_like 25 = .ok (.iload_n 3, 1) := by decide +kernel
theorem dX9_like_26 : decode cX9_like 26 = .ok (.ldc_w 296, 3) := by decide +kernel
theorem dX9_like_29 : decode cX9_like 29 = .ok (.if_icmp .le 5, 3) := by decide +kernel
theorem dX9_like_32 : decode cX9_like 32 = .ok (.iconst (-1), 1) := by decide +kernel
theorem dX9_like_33 : decode cX9_like 33 = .ok (.ireturn, 1) := by decide +kernel
theorem dX9_like_34 : decode cX9_like 34 = .ok (.aload_n 0, 1) := by decide +kernel
theorem dX9_like_35 : decode cX9_like 35 = .ok (.iload_n 2, 1) := by decide +kernel
theorem dX9_like_36 : decode cX9_like 36 = .ok (.iload_n 1, 1) := by decide +kernel
theorem dX9_like_37 : decode cX9_like 37 = .ok (.invokevirtual 285, 3) := by decide +kernel
theorem dX9_like_40 : decode cX9_like 40 = .ok (.aload_n 0, 1) := by decide +kernel
theorem dX9_like_41 : decode cX9_like 41 = .ok (.iconst 0, 1) := by decide +kernel
theorem dX9_like_42 : decode cX9_like 42 = .ok (.putfield 297, 3) := by decide +kernel
theorem dX9_like_45 : decode cX9_like 45 = .ok (.iconst 0, 1) := by decide +kernel
theorem dX9_like_46 : decode cX9_like 46 = .ok (.istore 4, 2) := by decide +kernel
theorem dX9_like_48 : decode cX9_like 48 = .ok (.iload 4, 2) := by decide +kernel
theorem dX9_like_50 : decode cX9_like 50 = .ok (.aload_n 0, 1) := by decide +kernel
theorem dX9_like_51 : decode cX9_like 51 = .ok (.getfield 233, 3) := by decide +kernel
theorem dX9_like_54 : decode cX9_like 54 = .ok (.if_icmp .ge 221, 3) := by decide +kernel
theorem dX9_like_57 : decode cX9_like 57 = .ok (.iload 4, 2) := by decide +kernel
theorem dX9_like_59 : decode cX9_like 59 = .ok (.iconst 1, 1) := by decide +kernel
theorem dX9_like_60 : decode cX9_like 60 = .ok (.iadd, 1) := by decide +kernel
theorem dX9_like_61 : decode cX9_like 61 = .ok (.istore 5, 2) := by decide +kernel
theorem dX9_like_63 : decode cX9_like 63 = .ok (.iload 5, 2) := by decide +kernel
theorem dX9_like_65 : decode cX9_like 65 = .ok (.aload_n 0, 1) := by decide +kernel
theorem dX9_like_66 : decode cX9_like 66 = .ok (.getfield 233, 3) := by decide +kernel
theorem dX9_like_69 : decode cX9_like 69 = .ok (.if_icmp .ge 200, 3) := by decide +kernel
theorem dX9_like_72 : decode cX9_like 72 = .ok (.aload_n 0, 1) := by decide +kernel
theorem dX9_like_73 : decode cX9_like 73 = .ok (.getfield 81, 3) := by decide +kernel
theorem dX9_like_76 : decode cX9_like 76 = .ok (.bipush 9, 2) := by decide +kernel
theorem dX9_like_78 : decode cX9_like 78 = .ok (.iload 4, 2) := by decide +kernel
theorem dX9_like_80 : decode cX9_like 80 = .ok (.imul, 1) := by decide +kernel
theorem dX9_like_81 : decode cX9_like 81 = .ok (.bipush 6, 2) := by decide +kernel
theorem dX9_like_83 : decode cX9_like 83 = .ok (.iadd, 1) := by decide +kernel
theorem dX9_like_84 : decode cX9_like 84 = .ok (.iaload, 1) := by decide +kernel
theorem dX9_like_85 : decode cX9_like 85 = .ok (.iconst 1, 1) := by decide +kernel
theorem dX9_like_86 : decode cX9_like 86 = .ok (.if_icmp .ne 24, 3) := by decide +kernel
theorem dX9_like_89 : decode cX9_like 89 = .ok (.aload_n 0, 1) := by decide +kernel
theorem dX9_like_90 : decode cX9_like 90 = .ok (.getfield 81, 3) := by decide +kernel
theorem dX9_like_93 : decode cX9_like 93 = .ok (.bipush 9, 2) := by decide +kernel
theorem dX9_like_95 : decode cX9_like 95 = .ok (.iload 5, 2) := by decide +kernel
theorem dX9_like_97 : decode cX9_like 97 = .ok (.imul, 1) := by decide +kernel
theorem dX9_like_98 : decode cX9_like 98 = .ok (.bipush 6, 2) := by decide +kernel
theorem dX9_like_100 : decode cX9_like 100 = .ok (.iadd, 1) := by decide +kernel
theorem dX9_like_101 : decode cX9_like 101 = .ok (.iaload, 1) := by decide +kernel
theorem dX9_like_102 : decode cX9_like 102 = .ok (.iconst 1, 1) := by decide +kernel
theorem dX9_like_103 : decode cX9_like 103 = .ok (.if_icmp .ne 7, 3) := by decide +kernel
theorem dX9_like_106 : decode cX9_like 106 = .ok (.iconst 1, 1) := by decide +kernel
theorem dX9_like_107 : decode cX9_like 107 = .ok (.goto 4, 3) := by decide +kernel
theorem dX9_like_110 : decode cX9_like 110 = .ok (.iconst 0, 1) := by decide +kernel
theorem dX9_like_111 : decode cX9_like 111 = .ok (.istore 6, 2) := by decide +kernel
theorem dX9_like_113 : decode cX9_like 113 = .ok (.iload 6, 2) := by decide +kernel
theorem dX9_like_115 : decode cX9_like 115 = .ok (.ifCond .eq 148, 3) := by decide +kernel
theorem dX9_like_118 : decode cX9_like 118 = .ok (.aload_n 0, 1) := by decide +kernel
theorem dX9_like_119 : decode cX9_like 119 = .ok (.getfield 90, 3) := by decide +kernel
theorem dX9_like_122 : decode cX9_like 122 = .ok (.iload 4, 2) := by decide +kernel
theorem dX9_like_124 : decode cX9_like 124 = .ok (.iaload, 1) := by decide +kernel
theorem dX9_like_125 : decode cX9_like 125 = .ok (.aload_n 0, 1) := by decide +kernel
theorem dX9_like_126 : decode cX9_like 126 = .ok (.getfield 90, 3) := by decide +kernel
theorem dX9_like_129 : decode cX9_like 129 = .ok (.iload 5, 2) := by decide +kernel
theorem dX9_like_131 : decode cX9_like 131 = .ok (.iaload, 1) := by decide +kernel
theorem dX9_like_132 : decode cX9_like 132 = .ok (.isub, 1) := by decide +kernel
theorem dX9_like_133 : decode cX9_like 133 = .ok (.invokestatic 300, 3) := by decide +kernel
theorem dX9_like_136 : decode cX9_like 136 = .ok (.iload_n 3, 1) := by decide +kernel
theorem dX9_like_137 : decode cX9_like 137 = .ok (.if_icmp .gt 126, 3) := by decide +kernel
theorem dX9_like_140 : decode cX9_like 140 = .ok (.aload_n 0, 1) := by decide +kernel
theorem dX9_like_141 : decode cX9_like 141 = .ok (.getfield 102, 3) := by decide +kernel
theorem dX9_like_144 : decode cX9_like 144 = .ok (.iload 4, 2) := by decide +kernel
theorem dX9_like_146 : decode cX9_like 146 = .ok (.iaload, 1) := by decide +kernel
theorem dX9_like_147 : decode cX9_like 147 = .ok (.aload_n 0, 1) := by decide +kernel
theorem dX9_like_148 : decode cX9_like 148 = .ok (.getfield 102, 3) := by decide +kernel
theorem dX9_like_151 : decode cX9_like 151 = .ok (.iload 5, 2) := by decide +kernel
theorem dX9_like_153 : decode cX9_like 153 = .ok (.iaload, 1) := by decide +kernel
theorem dX9_like_154 : decode cX9_like 154 = .ok (.if_icmp .ne 6, 3) := by decide +kernel
theorem dX9_like_157 : decode cX9_like 157 = .ok (.goto 106, 3) := by decide +kernel
theorem dX9_like_160 : decode cX9_like 160 = .ok (.aload_n 0, 1) := by decide +kernel
theorem dX9_like_161 : decode cX9_like 161 = .ok (.getfield 102, 3) := by decide +kernel
theorem dX9_like_164 : decode cX9_like 164 = .ok (.iload 4, 2) := by decide +kernel
theorem dX9_like_166 : decode cX9_like 166 = .ok (.iaload, 1) := by decide +kernel
theorem dX9_like_167 : decode cX9_like 167 = .ok (.aload_n 0, 1) := by decide +kernel
theorem dX9_like_168 : decode cX9_like 168 = .ok (.getfield 102, 3) := by decide +kernel
theorem dX9_like_171 : decode cX9_like 171 = .ok (.iload 5, 2) := by decide +kernel
theorem dX9_like_173 : decode cX9_like 173 = .ok (.iaload, 1) := by decide +kernel
theorem dX9_like_174 : decode cX9_like 174 = .ok (.invokestatic 303, 3) := by decide +kernel
theorem dX9_like_177 : decode cX9_like 177 = .ok (.istore 7, 2) := by decide +kernel
theorem dX9_like_179 : decode cX9_like 179 = .ok (.aload_n 0, 1) := by decide +kernel
theorem dX9_like_180 : decode cX9_like 180 = .ok (.getfield 130, 3) := by decide +kernel
theorem dX9_like_183 : decode cX9_like 183 = .ok (.iconst 4, 1) := by decide +kernel
theorem dX9_like_184 : decode cX9_like 184 = .ok (.aload_n 0, 1) := by decide +kernel
theorem dX9_like_185 : decode cX9_like 185 = .ok (.getfield 297, 3) := by decide +kernel
theorem dX9_like_188 : decode cX9_like 188 = .ok (.imul, 1) := by decide +kernel
theorem dX9_like_189 : decode cX9_like 189 = .ok (.iload 4, 2) := by decide +kernel
theorem dX9_like_191 : decode cX9_like 191 = .ok (.iastore, 1) := by decide +kernel
theorem dX9_like_192 : decode cX9_like 192 = .ok (.aload_n 0, 1) := by decide +kernel
theorem dX9_like_193 : decode cX9_like 193 = .ok (.getfield 130, 3) := by decide +kernel
theorem dX9_like_196 : decode cX9_like 196 = .ok (.iconst 4, 1) := by decide +kernel
theorem dX9_like_197 : decode cX9_like 197 = .ok (.aload_n 0, 1) := by decide +kernel
theorem dX9_like_198 : decode cX9_like 198 = .ok (.getfield 297, 3) := by decide +kernel
theorem dX9_like_201 : decode cX9_like 201 = .ok (.imul, 1) := by decide +kernel
theorem dX9_like_202 : decode cX9_like 202 = .ok (.iconst 1, 1) := by decide +kernel
theorem dX9_like_203 : decode cX9_like 203 = .ok (.iadd, 1) := by decide +kernel
theorem dX9_like_204 : decode cX9_like 204 = .ok (.iload 5, 2) := by decide +kernel
theorem dX9_like_206 : decode cX9_like 206 = .ok (.iastore, 1) := by decide +kernel
theorem dX9_like_207 : decode cX9_like 207 = .ok (.aload_n 0, 1) := by decide +kernel
theorem dX9_like_208 : decode cX9_like 208 = .ok (.getfield 130, 3) := by decide +kernel
theorem dX9_like_211 : decode cX9_like 211 = .ok (.iconst 4, 1) := by decide +kernel
theorem dX9_like_212 : decode cX9_like 212 = .ok (.aload_n 0, 1) := by decide +kernel
theorem dX9_like_213 : decode cX9_like 213 = .ok (.getfield 297, 3) := by decide +kernel
theorem dX9_like_216 : decode cX9_like 216 = .ok (.imul, 1) := by decide +kernel
theorem dX9_like_217 : decode cX9_like 217 = .ok (.iconst 2, 1) := by decide +kernel
theorem dX9_like_218 : decode cX9_like 218 = .ok (.iadd, 1) := by decide +kernel
theorem dX9_like_219 : decode cX9_like 219 = .ok (.aload_n 0, 1) := by decide +kernel
theorem dX9_like_220 : decode cX9_like 220 = .ok (.getfield 102, 3) := by decide +kernel
theorem dX9_like_223 : decode cX9_like 223 = .ok (.iload 4, 2) := by decide +kernel
theorem dX9_like_225 : decode cX9_like 225 = .ok (.iaload, 1) := by decide +kernel
theorem dX9_like_226 : decode cX9_like 226 = .ok (.iload 7, 2) := by decide +kernel
theorem dX9_like_228 : decode cX9_like 228 = .ok (.idiv, 1) := by decide +kernel
theorem dX9_like_229 : decode cX9_like 229 = .ok (.iastore, 1) := by decide +kernel
theorem dX9_like_230 : decode cX9_like 230 = .ok (.aload_n 0, 1) := by decide +kernel
theorem dX9_like_231 : decode cX9_like 231 = .ok (.getfield 130, 3) := by decide +kernel
theorem dX9_like_234 : decode cX9_like 234 = .ok (.iconst 4, 1) := by decide +kernel
theorem dX9_like_235 : decode cX9_like 235 = .ok (.aload_n 0, 1) := by decide +kernel
theorem dX9_like_236 : decode cX9_like 236 = .ok (.getfield 297, 3) := by decide +kernel
theorem dX9_like_239 : decode cX9_like 239 = .ok (.imul, 1) := by decide +kernel
theorem dX9_like_240 : decode cX9_like 240 = .ok (.iconst 3, 1) := by decide +kernel
theorem dX9_like_241 : decode cX9_like 241 = .ok (.iadd, 1) := by decide +kernel
theorem dX9_like_242 : decode cX9_like 242 = .ok (.aload_n 0, 1) := by decide +kernel
theorem dX9_like_243 : decode cX9_like 243 = .ok (.getfield 102, 3) := by decide +kernel
theorem dX9_like_246 : decode cX9_like 246 = .ok (.iload 5, 2) := by decide +kernel
theorem dX9_like_248 : decode cX9_like 248 = .ok (.iaload, 1) := by decide +kernel
theorem dX9_like_249 : decode cX9_like 249 = .ok (.iload 7, 2) := by decide +kernel
theorem dX9_like_251 : decode cX9_like 251 = .ok (.idiv, 1) := by decide +kernel
theorem dX9_like_252 : decode cX9_like 252 = .ok (.iastore, 1) := by decide +kernel
theorem dX9_like_253 : decode cX9_like 253 = .ok (.aload_n 0, 1) := by decide +kernel
theorem dX9_like_254 : decode cX9_like 254 = .ok (.dup, 1) := by decide +kernel
theorem dX9_like_255 : decode cX9_like 255 = .ok (.getfield 297, 3) := by decide +kernel
theorem dX9_like_258 : decode cX9_like 258 = .ok (.iconst 1, 1) := by decide +kernel
theorem dX9_like_259 : decode cX9_like 259 = .ok (.iadd, 1) := by decide +kernel
theorem dX9_like_260 : decode cX9_like 260 = .ok (.putfield 297, 3) := by decide +kernel
theorem dX9_like_263 : decode cX9_like 263 = .ok (.iinc 5 1, 3) := by decide +kernel
theorem dX9_like_266 : decode cX9_like 266 = .ok (.goto (-203), 3) := by decide +kernel
theorem dX9_like_269 : decode cX9_like 269 = .ok (.iinc 4 1, 3) := by decide +kernel
theorem dX9_like_272 : decode cX9_like 272 = .ok (.goto (-224), 3) := by decide +kernel
theorem dX9_like_275 : decode cX9_like 275 = .ok (.aload_n 0, 1) := by decide +kernel
theorem dX9_like_276 : decode cX9_like 276 = .ok (.getfield 297, 3) := by decide +kernel
theorem dX9_like_279 : decode cX9_like 279 = .ok (.ireturn, 1) := by decide +kernel
theorem dX9_pair_0 : decode cX9_pair 0 = .ok (.aload_n 0, 1) := by decide +kernel
theorem dX9_pair_1 : decode cX9_pair 1 = .ok (.iconst 0, 1) := by decide +kernel
theorem dX9_pair_2 : decode cX9_pair 2 = .ok (.putfield 136, 3) := by decide +kernel
theorem dX9_pair_5 : decode cX9_pair 5 = .ok (.iload_n 1, 1) := by decide +kernel
theorem dX9_pair_6 : decode cX9_pair 6 = .ok (.ifCond .lt 20, 3) := by decide +kernel
theorem dX9_pair_9 : decode cX9_pair 9 = .ok (.iload_n 1, 1) := by decide +kernel
theorem dX9_pair_10 : decode cX9_pair 10 = .ok (.aload_n 0, 1) := by decide +kernel
theorem dX9_pair_11 : decode cX9_pair 11 = .ok (.getfield 297, 3) := by decide +kernel
theorem dX9_pair_14 : decode cX9_pair 14 = .ok (.if_icmp .ge 12, 3) := by decide +kernel
theorem dX9_pair_17 : decode cX9_pair 17 = .ok (.iload_n 2, 1) := by decide +kernel
theorem dX9_pair_18 : decode cX9_pair 18 = .ok (.ifCond .lt 8, 3) := by decide +kernel
theorem dX9_pair_21 : decode cX9_pair 21 = .ok (.iload_n 2, 1) := by decide +kernel
theorem dX9_pair_22 : decode cX9_pair 22 = .ok (.iconst 3, 1) := by decide +kernel
theorem dX9_pair_23 : decode cX9_pair 23 = .ok (.if_icmp .le 7, 3) := by decide +kernel
theorem dX9_pair_26 : decode cX9_pair 26 = .ok (.iconst (-1), 1) := by decide +kernel
theorem dX9_pair_27 : decode cX9_pair 27 = .ok (.goto 13, 3) := by decide +kernel
theorem dX9_pair_30 : decode cX9_pair 30 = .ok (.aload_n 0, 1) := by decide +kernel
theorem dX9_pair_31 : decode cX9_pair 31 = .ok (.getfield 130, 3) := by decide +kernel
theorem dX9_pair_34 : decode cX9_pair 34 = .ok (.iconst 4, 1) := by decide +kernel
theorem dX9_pair_35 : decode cX9_pair 35 = .ok (.iload_n 1, 1) := by decide +kernel
theorem dX9_pair_36 : decode cX9_pair 36 = .ok (.imul, 1) := by decide +kernel
theorem dX9_pair_37 : decode cX9_pair 37 = .ok (.iload_n 2, 1) := by decide +kernel
theorem dX9_pair_38 : decode cX9_pair 38 = .ok (.iadd, 1) := by decide +kernel
theorem dX9_pair_39 : decode cX9_pair 39 = .ok (.iaload, 1) := by decide +kernel
theorem dX9_pair_40 : decode cX9_pair 40 = .ok (.ireturn, 1) := by decide +kernel
theorem dX9_meet_0 : decode cX9_meet 0 = .ok (.aload_n 0, 1) := by decide +kernel
theorem dX9_meet_1 : decode cX9_meet 1 = .ok (.iconst 0, 1) := by decide +kernel
theorem dX9_meet_2 : decode cX9_meet 2 = .ok (.putfield 136, 3) := by decide +kernel
theorem dX9_meet_5 : decode cX9_meet 5 = .ok (.aload_n 0, 1) := by decide +kernel
theorem dX9_meet_6 : decode cX9_meet 6 = .ok (.iload_n 1, 1) := by decide +kernel
theorem dX9_meet_7 : decode cX9_meet 7 = .ok (.invokevirtual 278, 3) := by decide +kernel
theorem dX9_meet_10 : decode cX9_meet 10 = .ok (.ifCond .eq 11, 3) := by decide +kernel
theorem dX9_meet_13 : decode cX9_meet 13 = .ok (.aload_n 0, 1) := by decide +kernel
theorem dX9_meet_14 : decode cX9_meet 14 = .ok (.iload_n 2, 1) := by decide +kernel
theorem dX9_meet_15 : decode cX9_meet 15 = .ok (.invokevirtual 281, 3) := by decide +kernel
theorem dX9_meet_18 : decode cX9_meet 18 = .ok (.ifCond .ne 5, 3) := by decide +kernel
theorem dX9_meet_21 : decode cX9_meet 21 = .ok (.iconst (-1), 1) := by decide +kernel
theorem dX9_meet_22 : decode cX9_meet 22 = .ok (.ireturn, 1) := by decide +kernel
theorem dX9_meet_23 : decode cX9_meet 23 = .ok (.aload_n 0, 1) := by decide +kernel
theorem dX9_meet_24 : decode cX9_meet 24 = .ok (.iload_n 1, 1) := by decide +kernel
theorem dX9_meet_25 : decode cX9_meet 25 = .ok (.iload_n 2, 1) := by decide +kernel
theorem dX9_meet_26 : decode cX9_meet 26 = .ok (.invokevirtual 249, 3) := by decide +kernel
theorem dX9_meet_29 : decode cX9_meet 29 = .ok (.aload_n 0, 1) := by decide +kernel
theorem dX9_meet_30 : decode cX9_meet 30 = .ok (.iconst 0, 1) := by decide +kernel
theorem dX9_meet_31 : decode cX9_meet 31 = .ok (.putfield 306, 3) := by decide +kernel
theorem dX9_meet_34 : decode cX9_meet 34 = .ok (.iconst 0, 1) := by decide +kernel
theorem dX9_meet_35 : decode cX9_meet 35 = .ok (.istore_n 3, 1) := by decide +kernel
theorem dX9_meet_36 : decode cX9_meet 36 = .ok (.iload_n 3, 1) := by decide +kernel
theorem dX9_meet_37 : decode cX9_meet 37 = .ok (.sipush 156, 3) := by decide +kernel
theorem dX9_meet_40 : decode cX9_meet 40 = .ok (.if_icmp .ge 102, 3) := by decide +kernel
theorem dX9_meet_43 : decode cX9_meet 43 = .ok (.aload_n 0, 1) := by decide +kernel
theorem dX9_meet_44 : decode cX9_meet 44 = .ok (.getfield 78, 3) := by decide +kernel
theorem dX9_meet_47 : decode cX9_meet 47 = .ok (.iload_n 3, 1) := by decide +kernel
theorem dX9_meet_48 : decode cX9_meet 48 = .ok (.iaload, 1) := by decide +kernel
theorem dX9_meet_49 : decode cX9_meet 49 = .ok (.iconst 2, 1) := by decide +kernel
theorem dX9_meet_50 : decode cX9_meet 50 = .ok (.if_icmp .ge 6, 3) := by decide +kernel
theorem dX9_meet_53 : decode cX9_meet 53 = .ok (.goto 83, 3) := by decide +kernel
theorem dX9_meet_56 : decode cX9_meet 56 = .ok (.aload_n 0, 1) := by decide +kernel
theorem dX9_meet_57 : decode cX9_meet 57 = .ok (.getfield 133, 3) := by decide +kernel
theorem dX9_meet_60 : decode cX9_meet 60 = .ok (.iconst 4, 1) := by decide +kernel
theorem dX9_meet_61 : decode cX9_meet 61 = .ok (.aload_n 0, 1) := by decide +kernel
theorem dX9_meet_62 : decode cX9_meet 62 = .ok (.getfield 306, 3) := by decide +kernel
theorem dX9_meet_65 : decode cX9_meet 65 = .ok (.imul, 1) := by decide +kernel
theorem dX9_meet_66 : decode cX9_meet 66 = .ok (.iload_n 3, 1) := by decide +kernel
theorem dX9_meet_67 : decode cX9_meet 67 = .ok (.bipush 26, 2) := by decide +kernel
theorem dX9_meet_69 : decode cX9_meet 69 = .ok (.idiv, 1) := by decide +kernel
theorem dX9_meet_70 : decode cX9_meet 70 = .ok (.iastore, 1) := by decide +kernel
theorem dX9_meet_71 : decode cX9_meet 71 = .ok (.aload_n 0, 1) := by decide +kernel
theorem dX9_meet_72 : decode cX9_meet 72 = .ok (.getfield 133, 3) := by decide +kernel
theorem dX9_meet_75 : decode cX9_meet 75 = .ok (.iconst 4, 1) := by decide +kernel
theorem dX9_meet_76 : decode cX9_meet 76 = .ok (.aload_n 0, 1) := by decide +kernel
theorem dX9_meet_77 : decode cX9_meet 77 = .ok (.getfield 306, 3) := by decide +kernel
theorem dX9_meet_80 : decode cX9_meet 80 = .ok (.imul, 1) := by decide +kernel
theorem dX9_meet_81 : decode cX9_meet 81 = .ok (.iconst 1, 1) := by decide +kernel
theorem dX9_meet_82 : decode cX9_meet 82 = .ok (.iadd, 1) := by decide +kernel
theorem dX9_meet_83 : decode cX9_meet 83 = .ok (.iload_n 3, 1) := by decide +kernel
theorem dX9_meet_84 : decode cX9_meet 84 = .ok (.bipush 26, 2) := by decide +kernel
theorem dX9_meet_86 : decode cX9_meet 86 = .ok (.irem, 1) := by decide +kernel
theorem dX9_meet_87 : decode cX9_meet 87 = .ok (.iastore, 1) := by decide +kernel
theorem dX9_meet_88 : decode cX9_meet 88 = .ok (.aload_n 0, 1) := by decide +kernel
theorem dX9_meet_89 : decode cX9_meet 89 = .ok (.getfield 133, 3) := by decide +kernel
theorem dX9_meet_92 : decode cX9_meet 92 = .ok (.iconst 4, 1) := by decide +kernel
theorem dX9_meet_93 : decode cX9_meet 93 = .ok (.aload_n 0, 1) := by decide +kernel
theorem dX9_meet_94 : decode cX9_meet 94 = .ok (.getfield 306, 3) := by decide +kernel
theorem dX9_meet_97 : decode cX9_meet 97 = .ok (.imul, 1) := by decide +kernel
theorem dX9_meet_98 : decode cX9_meet 98 = .ok (.iconst 2, 1) := by decide +kernel
theorem dX9_meet_99 : decode cX9_meet 99 = .ok (.iadd, 1) := by decide +kernel
theorem dX9_meet_100 : decode cX9_meet 100 = .ok (.aload_n 0, 1) := by decide +kernel
theorem dX9_meet_101 : decode cX9_meet 101 = .ok (.getfield 75, 3) := by decide +kernel
theorem dX9_meet_104 : decode cX9_meet 104 = .ok (.iload_n 3, 1) := by decide +kernel
theorem dX9_meet_105 : decode cX9_meet 105 = .ok (.iaload, 1) := by decide +kernel
theorem dX9_meet_106 : decode cX9_meet 106 = .ok (.iastore, 1) := by decide +kernel
theorem dX9_meet_107 : decode cX9_meet 107 = .ok (.aload_n 0, 1) := by decide +kernel
theorem dX9_meet_108 : decode cX9_meet 108 = .ok (.getfield 133, 3) := by decide +kernel
theorem dX9_meet_111 : decode cX9_meet 111 = .ok (.iconst 4, 1) := by decide +kernel
theorem dX9_meet_112 : decode cX9_meet 112 = .ok (.aload_n 0, 1) := by decide +kernel
theorem dX9_meet_113 : decode cX9_meet 113 = .ok (.getfield 306, 3) := by decide +kernel
theorem dX9_meet_116 : decode cX9_meet 116 = .ok (.imul, 1) := by decide +kernel
theorem dX9_meet_117 : decode cX9_meet 117 = .ok (.iconst 3, 1) := by decide +kernel
theorem dX9_meet_118 : decode cX9_meet 118 = .ok (.iadd, 1) := by decide +kernel
theorem dX9_meet_119 : decode cX9_meet 119 = .ok (.aload_n 0, 1) := by decide +kernel
theorem dX9_meet_120 : decode cX9_meet 120 = .ok (.getfield 78, 3) := by decide +kernel
theorem dX9_meet_123 : decode cX9_meet 123 = .ok (.iload_n 3, 1) := by decide +kernel
theorem dX9_meet_124 : decode cX9_meet 124 = .ok (.iaload, 1) := by decide +kernel
theorem dX9_meet_125 : decode cX9_meet 125 = .ok (.iastore, 1) := by decide +kernel
theorem dX9_meet_126 : decode cX9_meet 126 = .ok (.aload_n 0, 1) := by decide +kernel
theorem dX9_meet_127 : decode cX9_meet 127 = .ok (.dup, 1) := by decide +kernel
theorem dX9_meet_128 : decode cX9_meet 128 = .ok (.getfield 306, 3) := by decide +kernel
theorem dX9_meet_131 : decode cX9_meet 131 = .ok (.iconst 1, 1) := by decide +kernel
theorem dX9_meet_132 : decode cX9_meet 132 = .ok (.iadd, 1) := by decide +kernel
theorem dX9_meet_133 : decode cX9_meet 133 = .ok (.putfield 306, 3) := by decide +kernel
theorem dX9_meet_136 : decode cX9_meet 136 = .ok (.iinc 3 1, 3) := by decide +kernel
theorem dX9_meet_139 : decode cX9_meet 139 = .ok (.goto (-103), 3) := by decide +kernel
theorem dX9_meet_142 : decode cX9_meet 142 = .ok (.aload_n 0, 1) := by decide +kernel
theorem dX9_meet_143 : decode cX9_meet 143 = .ok (.getfield 306, 3) := by decide +kernel
theorem dX9_meet_146 : decode cX9_meet 146 = .ok (.ireturn, 1) := by decide +kernel
theorem dX9_met_0 : decode cX9_met 0 = .ok (.aload_n 0, 1) := by decide +kernel
theorem dX9_met_1 : decode cX9_met 1 = .ok (.iconst 0, 1) := by decide +kernel
theorem dX9_met_2 : decode cX9_met 2 = .ok (.putfield 136, 3) := by decide +kernel
theorem dX9_met_5 : decode cX9_met 5 = .ok (.iload_n 1, 1) := by decide +kernel
theorem dX9_met_6 : decode cX9_met 6 = .ok (.ifCond .lt 20, 3) := by decide +kernel
theorem dX9_met_9 : decode cX9_met 9 = .ok (.iload_n 1, 1) := by decide +kernel
theorem dX9_met_10 : decode cX9_met 10 = .ok (.aload_n 0, 1) := by decide +kernel
theorem dX9_met_11 : decode cX9_met 11 = .ok (.getfield 306, 3) := by decide +kernel
theorem dX9_met_14 : decode cX9_met 14 = .ok (.if_icmp .ge 12, 3) := by decide +kernel
theorem dX9_met_17 : decode cX9_met 17 = .ok (.iload_n 2, 1) := by decide +kernel
theorem dX9_met_18 : decode cX9_met 18 = .ok (.ifCond .lt 8, 3) := by decide +kernel
theorem dX9_met_21 : decode cX9_met 21 = .ok (.iload_n 2, 1) := by decide +kernel
theorem dX9_met_22 : decode cX9_met 22 = .ok (.iconst 3, 1) := by decide +kernel
theorem dX9_met_23 : decode cX9_met 23 = .ok (.if_icmp .le 7, 3) := by decide +kernel
theorem dX9_met_26 : decode cX9_met 26 = .ok (.iconst (-1), 1) := by decide +kernel
theorem dX9_met_27 : decode cX9_met 27 = .ok (.goto 13, 3) := by decide +kernel
theorem dX9_met_30 : decode cX9_met 30 = .ok (.aload_n 0, 1) := by decide +kernel
theorem dX9_met_31 : decode cX9_met 31 = .ok (.getfield 133, 3) := by decide +kernel
theorem dX9_met_34 : decode cX9_met 34 = .ok (.iconst 4, 1) := by decide +kernel
theorem dX9_met_35 : decode cX9_met 35 = .ok (.iload_n 1, 1) := by decide +kernel
theorem dX9_met_36 : decode cX9_met 36 = .ok (.imul, 1) := by decide +kernel
theorem dX9_met_37 : decode cX9_met 37 = .ok (.iload_n 2, 1) := by decide +kernel
theorem dX9_met_38 : decode cX9_met 38 = .ok (.iadd, 1) := by decide +kernel
theorem dX9_met_39 : decode cX9_met 39 = .ok (.iaload, 1) := by decide +kernel
theorem dX9_met_40 : decode cX9_met 40 = .ok (.ireturn, 1) := by decide +kernel
theorem dX9_count_0 : decode cX9_count 0 = .ok (.aload_n 0, 1) := by decide +kernel
theorem dX9_count_1 : decode cX9_count 1 = .ok (.iconst 0, 1) := by decide +kernel
theorem dX9_count_2 : decode cX9_count 2 = .ok (.putfield 136, 3) := by decide +kernel
theorem dX9_count_5 : decode cX9_count 5 = .ok (.iload_n 1, 1) := by decide +kernel
theorem dX9_count_6 : decode cX9_count 6 = .ok (.tableswitch 82 0 6 #[42, 47, 52, 57, 62, 72, 77], 42) := by decide +kernel
theorem dX9_count_48 : decode cX9_count 48 = .ok (.aload_n 0, 1) := by decide +kernel
theorem dX9_count_49 : decode cX9_count 49 = .ok (.getfield 230, 3) := by decide +kernel
theorem dX9_count_52 : decode cX9_count 52 = .ok (.ireturn, 1) := by decide +kernel
theorem dX9_count_53 : decode cX9_count 53 = .ok (.aload_n 0, 1) := by decide +kernel
theorem dX9_count_54 : decode cX9_count 54 = .ok (.getfield 199, 3) := by decide +kernel
theorem dX9_count_57 : decode cX9_count 57 = .ok (.ireturn, 1) := by decide +kernel
theorem dX9_count_58 : decode cX9_count 58 = .ok (.aload_n 0, 1) := by decide +kernel
theorem dX9_count_59 : decode cX9_count 59 = .ok (.getfield 233, 3) := by decide +kernel
theorem dX9_count_62 : decode cX9_count 62 = .ok (.ireturn, 1) := by decide +kernel
theorem dX9_count_63 : decode cX9_count 63 = .ok (.aload_n 0, 1) := by decide +kernel
theorem dX9_count_64 : decode cX9_count 64 = .ok (.getfield 240, 3) := by decide +kernel
theorem dX9_count_67 : decode cX9_count 67 = .ok (.ireturn, 1) := by decide +kernel
theorem dX9_count_68 : decode cX9_count 68 = .ok (.aload_n 0, 1) := by decide +kernel
theorem dX9_count_69 : decode cX9_count 69 = .ok (.getfield 19, 3) := by decide +kernel
theorem dX9_count_72 : decode cX9_count 72 = .ok (.aload_n 0, 1) := by decide +kernel
theorem dX9_count_73 : decode cX9_count 73 = .ok (.getfield 199, 3) := by decide +kernel
theorem dX9_count_76 : decode cX9_count 76 = .ok (.iaload, 1) := by decide +kernel
theorem dX9_count_77 : decode cX9_count 77 = .ok (.ireturn, 1) := by decide +kernel
theorem dX9_count_78 : decode cX9_count 78 = .ok (.aload_n 0, 1) := by decide +kernel
theorem dX9_count_79 : decode cX9_count 79 = .ok (.getfield 293, 3) := by decide +kernel
theorem dX9_count_82 : decode cX9_count 82 = .ok (.ireturn, 1) := by decide +kernel
theorem dX9_count_83 : decode cX9_count 83 = .ok (.aload_n 0, 1) := by decide +kernel
theorem dX9_count_84 : decode cX9_count 84 = .ok (.getfield 290, 3) := by decide +kernel
theorem dX9_count_87 : decode cX9_count 87 = .ok (.ireturn, 1) := by decide +kernel
theorem dX9_count_88 : decode cX9_count 88 = .ok (.iconst (-1), 1) := by decide +kernel
theorem dX9_count_89 : decode cX9_count 89 = .ok (.ireturn, 1) := by decide +kernel
theorem dJ9_abs_0f7a4_0 : decode cJ9_abs_0f7a4 0 = .ok (.iload_n 0, 1) := by decide +kernel
theorem dJ9_abs_0f7a4_1 : decode cJ9_abs_0f7a4 1 = .ok (.ifCond .ge 8, 3) := by decide +kernel
theorem dJ9_abs_0f7a4_4 : decode cJ9_abs_0f7a4 4 = .ok (.iload_n 0, 1) := by decide +kernel
theorem dJ9_abs_0f7a4_5 : decode cJ9_abs_0f7a4 5 = .ok (.ineg, 1) := by decide +kernel
theorem dJ9_abs_0f7a4_6 : decode cJ9_abs_0f7a4 6 = .ok (.goto 4, 3) := by decide +kernel
theorem dJ9_abs_0f7a4_9 : decode cJ9_abs_0f7a4 9 = .ok (.iload_n 0, 1) := by decide +kernel
theorem dJ9_abs_0f7a4_10 : decode cJ9_abs_0f7a4 10 = .ok (.ireturn, 1) := by decide +kernel
theorem dJ9_max_7cf53_0 : decode cJ9_max_7cf53 0 = .ok (.iload_n 0, 1) := by decide +kernel
theorem dJ9_max_7cf53_1 : decode cJ9_max_7cf53 1 = .ok (.iload_n 1, 1) := by decide +kernel
theorem dJ9_max_7cf53_2 : decode cJ9_max_7cf53 2 = .ok (.if_icmp .lt 7, 3) := by decide +kernel
theorem dJ9_max_7cf53_5 : decode cJ9_max_7cf53 5 = .ok (.iload_n 0, 1) := by decide +kernel
theorem dJ9_max_7cf53_6 : decode cJ9_max_7cf53 6 = .ok (.goto 4, 3) := by decide +kernel
theorem dJ9_max_7cf53_9 : decode cJ9_max_7cf53 9 = .ok (.iload_n 1, 1) := by decide +kernel
theorem dJ9_max_7cf53_10 : decode cJ9_max_7cf53 10 = .ok (.ireturn, 1) := by decide +kernel
theorem dJ9_min_7cf53_0 : decode cJ9_min_7cf53 0 = .ok (.iload_n 0, 1) := by decide +kernel
theorem dJ9_min_7cf53_1 : decode cJ9_min_7cf53 1 = .ok (.iload_n 1, 1) := by decide +kernel
theorem dJ9_min_7cf53_2 : decode cJ9_min_7cf53 2 = .ok (.if_icmp .gt 7, 3) := by decide +kernel
theorem dJ9_min_7cf53_5 : decode cJ9_min_7cf53 5 = .ok (.iload_n 0, 1) := by decide +kernel
theorem dJ9_min_7cf53_6 : decode cJ9_min_7cf53 6 = .ok (.goto 4, 3) := by decide +kernel
theorem dJ9_min_7cf53_9 : decode cJ9_min_7cf53 9 = .ok (.iload_n 1, 1) := by decide +kernel
theorem dJ9_min_7cf53_10 : decode cJ9_min_7cf53 10 = .ok (.ireturn, 1) := by decide +kernel
theorem dJ0_length_8abf5_0 : decode cJ0_length_8abf5 0 = .ok (.aload_n 0, 1) := by decide +kernel
theorem dJ0_length_8abf5_1 : decode cJ0_length_8abf5 1 = .ok (.getfield 9, 3) := by decide +kernel
theorem dJ0_length_8abf5_4 : decode cJ0_length_8abf5 4 = .ok (.arraylength, 1) := by decide +kernel
theorem dJ0_length_8abf5_5 : decode cJ0_length_8abf5 5 = .ok (.aload_n 0, 1) := by decide +kernel
theorem dJ0_length_8abf5_6 : decode cJ0_length_8abf5 6 = .ok (.invokevirtual 335, 3) := by decide +kernel
theorem dJ0_length_8abf5_9 : decode cJ0_length_8abf5 9 = .ok (.ishr, 1) := by decide +kernel
theorem dJ0_length_8abf5_10 : decode cJ0_length_8abf5 10 = .ok (.ireturn, 1) := by decide +kernel
theorem dJ0_charAt_5068e_0 : decode cJ0_charAt_5068e 0 = .ok (.aload_n 0, 1) := by decide +kernel
theorem dJ0_charAt_5068e_1 : decode cJ0_charAt_5068e 1 = .ok (.invokevirtual 492, 3) := by decide +kernel
theorem dJ0_charAt_5068e_4 : decode cJ0_charAt_5068e 4 = .ok (.ifCond .eq 12, 3) := by decide +kernel
theorem dJ0_charAt_5068e_7 : decode cJ0_charAt_5068e 7 = .ok (.aload_n 0, 1) := by decide +kernel
theorem dJ0_charAt_5068e_8 : decode cJ0_charAt_5068e 8 = .ok (.getfield 9, 3) := by decide +kernel
theorem dJ0_charAt_5068e_11 : decode cJ0_charAt_5068e 11 = .ok (.iload_n 1, 1) := by decide +kernel
theorem dJ0_charAt_5068e_12 : decode cJ0_charAt_5068e 12 = .ok (.invokestatic 495, 3) := by decide +kernel
theorem dJ0_charAt_5068e_15 : decode cJ0_charAt_5068e 15 = .ok (.ireturn, 1) := by decide +kernel
theorem dJ0_charAt_5068e_16 : decode cJ0_charAt_5068e 16 = .ok (.aload_n 0, 1) := by decide +kernel
theorem dJ0_charAt_5068e_17 : decode cJ0_charAt_5068e 17 = .ok (.getfield 9, 3) := by decide +kernel
theorem dJ0_charAt_5068e_20 : decode cJ0_charAt_5068e 20 = .ok (.iload_n 1, 1) := by decide +kernel
theorem dJ0_charAt_5068e_21 : decode cJ0_charAt_5068e 21 = .ok (.invokestatic 498, 3) := by decide +kernel
theorem dJ0_charAt_5068e_24 : decode cJ0_charAt_5068e 24 = .ok (.ireturn, 1) := by decide +kernel
theorem dJ0_coder_7d493_0 : decode cJ0_coder_7d493 0 = .ok (.getstatic 38, 3) := by decide +kernel
theorem dJ0_coder_7d493_3 : decode cJ0_coder_7d493 3 = .ok (.ifCond .eq 10, 3) := by decide +kernel
theorem dJ0_coder_7d493_6 : decode cJ0_coder_7d493 6 = .ok (.aload_n 0, 1) := by decide +kernel
theorem dJ0_coder_7d493_7 : decode cJ0_coder_7d493 7 = .ok (.getfield 15, 3) := by decide +kernel
theorem dJ0_coder_7d493_10 : decode cJ0_coder_7d493 10 = .ok (.goto 4, 3) := by decide +kernel
theorem dJ0_coder_7d493_13 : decode cJ0_coder_7d493 13 = .ok (.iconst 1, 1) := by decide +kernel
theorem dJ0_coder_7d493_14 : decode cJ0_coder_7d493 14 = .ok (.ireturn, 1) := by decide +kernel
theorem dJ0_isLatin1_aae02_0 : decode cJ0_isLatin1_aae02 0 = .ok (.getstatic 38, 3) := by decide +kernel
theorem dJ0_isLatin1_aae02_3 : decode cJ0_isLatin1_aae02 3 = .ok (.ifCond .eq 14, 3) := by decide +kernel
theorem dJ0_isLatin1_aae02_6 : decode cJ0_isLatin1_aae02 6 = .ok (.aload_n 0, 1) := by decide +kernel
theorem dJ0_isLatin1_aae02_7 : decode cJ0_isLatin1_aae02 7 = .ok (.getfield 15, 3) := by decide +kernel
theorem dJ0_isLatin1_aae02_10 : decode cJ0_isLatin1_aae02 10 = .ok (.ifCond .ne 7, 3) := by decide +kernel
theorem dJ0_isLatin1_aae02_13 : decode cJ0_isLatin1_aae02 13 = .ok (.iconst 1, 1) := by decide +kernel
theorem dJ0_isLatin1_aae02_14 : decode cJ0_isLatin1_aae02 14 = .ok (.goto 4, 3) := by decide +kernel
theorem dJ0_isLatin1_aae02_17 : decode cJ0_isLatin1_aae02 17 = .ok (.iconst 0, 1) := by decide +kernel
theorem dJ0_isLatin1_aae02_18 : decode cJ0_isLatin1_aae02 18 = .ok (.ireturn, 1) := by decide +kernel
theorem dJ0_checkIndex_df160_0 : decode cJ0_checkIndex_df160 0 = .ok (.iload_n 0, 1) := by decide +kernel
theorem dJ0_checkIndex_df160_1 : decode cJ0_checkIndex_df160 1 = .ok (.iload_n 1, 1) := by decide +kernel
theorem dJ0_checkIndex_df160_2 : decode cJ0_checkIndex_df160 2 = .ok (.getstatic 1053, 3) := by decide +kernel
theorem dJ0_checkIndex_df160_5 : decode cJ0_checkIndex_df160 5 = .ok (.invokestatic 1059, 3) := by decide +kernel
theorem dJ0_checkIndex_df160_8 : decode cJ0_checkIndex_df160 8 = .ok (.pop, 1) := by decide +kernel
theorem dJ0_checkIndex_df160_9 : decode cJ0_checkIndex_df160 9 = .ok (.return_, 1) := by decide +kernel
theorem dJ1_charAt_3b067_0 : decode cJ1_charAt_3b067 0 = .ok (.iload_n 1, 1) := by decide +kernel
theorem dJ1_charAt_3b067_1 : decode cJ1_charAt_3b067 1 = .ok (.aload_n 0, 1) := by decide +kernel
theorem dJ1_charAt_3b067_2 : decode cJ1_charAt_3b067 2 = .ok (.arraylength, 1) := by decide +kernel
theorem dJ1_charAt_3b067_3 : decode cJ1_charAt_3b067 3 = .ok (.invokestatic 9, 3) := by decide +kernel
theorem dJ1_charAt_3b067_6 : decode cJ1_charAt_3b067 6 = .ok (.aload_n 0, 1) := by decide +kernel
theorem dJ1_charAt_3b067_7 : decode cJ1_charAt_3b067 7 = .ok (.iload_n 1, 1) := by decide +kernel
theorem dJ1_charAt_3b067_8 : decode cJ1_charAt_3b067 8 = .ok (.baload, 1) := by decide +kernel
theorem dJ1_charAt_3b067_9 : decode cJ1_charAt_3b067 9 = .ok (.sipush 255, 3) := by decide +kernel
theorem dJ1_charAt_3b067_12 : decode cJ1_charAt_3b067 12 = .ok (.iand, 1) := by decide +kernel
theorem dJ1_charAt_3b067_13 : decode cJ1_charAt_3b067 13 = .ok (.i2c, 1) := by decide +kernel
theorem dJ1_charAt_3b067_14 : decode cJ1_charAt_3b067 14 = .ok (.ireturn, 1) := by decide +kernel
theorem dJ2_getChar_3b067_0 : decode cJ2_getChar_3b067 0 = .ok (.getstatic 44, 3) := by decide +kernel
theorem dJ2_getChar_3b067_3 : decode cJ2_getChar_3b067 3 = .ok (.ifCond .ne 25, 3) := by decide +kernel
theorem dJ2_getChar_3b067_6 : decode cJ2_getChar_3b067 6 = .ok (.iload_n 1, 1) := by decide +kernel
theorem dJ2_getChar_3b067_7 : decode cJ2_getChar_3b067 7 = .ok (.ifCond .lt 11, 3) := by decide +kernel
theorem dJ2_getChar_3b067_10 : decode cJ2_getChar_3b067 10 = .ok (.iload_n 1, 1) := by decide +kernel
theorem dJ2_getChar_3b067_11 : decode cJ2_getChar_3b067 11 = .ok (.aload_n 0, 1) := by decide +kernel
theorem dJ2_getChar_3b067_12 : decode cJ2_getChar_3b067 12 = .ok (.invokestatic 48, 3) := by decide +kernel
theorem dJ2_getChar_3b067_15 : decode cJ2_getChar_3b067 15 = .ok (.if_icmp .lt 13, 3) := by decide +kernel
theorem dJ2_getChar_3b067_18 : decode cJ2_getChar_3b067 18 = .ok (.new 52, 3) := by decide +kernel
theorem dJ2_getChar_3b067_21 : decode cJ2_getChar_3b067 21 = .ok (.dup, 1) := by decide +kernel
theorem dJ2_getChar_3b067_22 : decode cJ2_getChar_3b067 22 = .ok (.ldc 54, 2) := by decide +kernel
theorem dJ2_getChar_3b067_24 : decode cJ2_getChar_3b067 24 = .ok (.invokespecial 56, 3) := by decide +kernel
theorem dJ2_getChar_3b067_27 : decode cJ2_getChar_3b067 27 = .ok (.athrow, 1) := by decide +kernel
theorem dJ2_getChar_3b067_28 : decode cJ2_getChar_3b067 28 = .ok (.iload_n 1, 1) := by decide +kernel
theorem dJ2_getChar_3b067_29 : decode cJ2_getChar_3b067 29 = .ok (.iconst 1, 1) := by decide +kernel
theorem dJ2_getChar_3b067_30 : decode cJ2_getChar_3b067 30 = .ok (.ishl, 1) := by decide +kernel
theorem dJ2_getChar_3b067_31 : decode cJ2_getChar_3b067 31 = .ok (.istore_n 1, 1) := by decide +kernel
theorem dJ2_getChar_3b067_32 : decode cJ2_getChar_3b067 32 = .ok (.aload_n 0, 1) := by decide +kernel
theorem dJ2_getChar_3b067_33 : decode cJ2_getChar_3b067 33 = .ok (.iload_n 1, 1) := by decide +kernel
theorem dJ2_getChar_3b067_34 : decode cJ2_getChar_3b067 34 = .ok (.iinc 1 1, 3) := by decide +kernel
theorem dJ2_getChar_3b067_37 : decode cJ2_getChar_3b067 37 = .ok (.baload, 1) := by decide +kernel
theorem dJ2_getChar_3b067_38 : decode cJ2_getChar_3b067 38 = .ok (.sipush 255, 3) := by decide +kernel
theorem dJ2_getChar_3b067_41 : decode cJ2_getChar_3b067 41 = .ok (.iand, 1) := by decide +kernel
theorem dJ2_getChar_3b067_42 : decode cJ2_getChar_3b067 42 = .ok (.getstatic 59, 3) := by decide +kernel
theorem dJ2_getChar_3b067_45 : decode cJ2_getChar_3b067 45 = .ok (.ishl, 1) := by decide +kernel
theorem dJ2_getChar_3b067_46 : decode cJ2_getChar_3b067 46 = .ok (.aload_n 0, 1) := by decide +kernel
theorem dJ2_getChar_3b067_47 : decode cJ2_getChar_3b067 47 = .ok (.iload_n 1, 1) := by decide +kernel
theorem dJ2_getChar_3b067_48 : decode cJ2_getChar_3b067 48 = .ok (.baload, 1) := by decide +kernel
theorem dJ2_getChar_3b067_49 : decode cJ2_getChar_3b067 49 = .ok (.sipush 255, 3) := by decide +kernel
theorem dJ2_getChar_3b067_52 : decode cJ2_getChar_3b067 52 = .ok (.iand, 1) := by decide +kernel
theorem dJ2_getChar_3b067_53 : decode cJ2_getChar_3b067 53 = .ok (.getstatic 63, 3) := by decide +kernel
theorem dJ2_getChar_3b067_56 : decode cJ2_getChar_3b067 56 = .ok (.ishl, 1) := by decide +kernel
theorem dJ2_getChar_3b067_57 : decode cJ2_getChar_3b067 57 = .ok (.ior, 1) := by decide +kernel
theorem dJ2_getChar_3b067_58 : decode cJ2_getChar_3b067 58 = .ok (.i2c, 1) := by decide +kernel
theorem dJ2_getChar_3b067_59 : decode cJ2_getChar_3b067 59 = .ok (.ireturn, 1) := by decide +kernel
theorem dJ2_length_9d52b_0 : decode cJ2_length_9d52b 0 = .ok (.aload_n 0, 1) := by decide +kernel
theorem dJ2_length_9d52b_1 : decode cJ2_length_9d52b 1 = .ok (.arraylength, 1) := by decide +kernel
theorem dJ2_length_9d52b_2 : decode cJ2_length_9d52b 2 = .ok (.iconst 1, 1) := by decide +kernel
theorem dJ2_length_9d52b_3 : decode cJ2_length_9d52b 3 = .ok (.ishr, 1) := by decide +kernel
theorem dJ2_length_9d52b_4 : decode cJ2_length_9d52b 4 = .ok (.ireturn, 1) := by decide +kernel
theorem dJ2_charAt_3b067_0 : decode cJ2_charAt_3b067 0 = .ok (.iload_n 1, 1) := by decide +kernel
theorem dJ2_charAt_3b067_1 : decode cJ2_charAt_3b067 1 = .ok (.aload_n 0, 1) := by decide +kernel
theorem dJ2_charAt_3b067_2 : decode cJ2_charAt_3b067 2 = .ok (.invokestatic 67, 3) := by decide +kernel
theorem dJ2_charAt_3b067_5 : decode cJ2_charAt_3b067 5 = .ok (.aload_n 0, 1) := by decide +kernel
theorem dJ2_charAt_3b067_6 : decode cJ2_charAt_3b067 6 = .ok (.iload_n 1, 1) := by decide +kernel
theorem dJ2_charAt_3b067_7 : decode cJ2_charAt_3b067 7 = .ok (.invokestatic 71, 3) := by decide +kernel
theorem dJ2_charAt_3b067_10 : decode cJ2_charAt_3b067 10 = .ok (.ireturn, 1) := by decide +kernel
theorem dJ2_checkIndex_2214a_0 : decode cJ2_checkIndex_2214a 0 = .ok (.iload_n 0, 1) := by decide +kernel
theorem dJ2_checkIndex_2214a_1 : decode cJ2_checkIndex_2214a 1 = .ok (.aload_n 1, 1) := by decide +kernel
theorem dJ2_checkIndex_2214a_2 : decode cJ2_checkIndex_2214a 2 = .ok (.invokestatic 48, 3) := by decide +kernel
theorem dJ2_checkIndex_2214a_5 : decode cJ2_checkIndex_2214a 5 = .ok (.invokestatic 414, 3) := by decide +kernel
theorem dJ2_checkIndex_2214a_8 : decode cJ2_checkIndex_2214a 8 = .ok (.return_, 1) := by decide +kernel
theorem dJxa1e45_init_da8c8_0 : decode cJxa1e45_init_da8c8 0 = .ok (.aload_n 0, 1) := by decide +kernel
theorem dJxa1e45_init_da8c8_1 : decode cJxa1e45_init_da8c8 1 = .ok (.invokespecial 1, 3) := by decide +kernel
theorem dJxa1e45_init_da8c8_4 : decode cJxa1e45_init_da8c8 4 = .ok (.return_, 1) := by decide +kernel
theorem dJxc12de_init_da8c8_0 : decode cJxc12de_init_da8c8 0 = .ok (.aload_n 0, 1) := by decide +kernel
theorem dJxc12de_init_da8c8_1 : decode cJxc12de_init_da8c8 1 = .ok (.invokespecial 1, 3) := by decide +kernel
theorem dJxc12de_init_da8c8_4 : decode cJxc12de_init_da8c8 4 = .ok (.aload_n 0, 1) := by decide +kernel
theorem dJxc12de_init_da8c8_5 : decode cJxc12de_init_da8c8 5 = .ok (.iconst 0, 1) := by decide +kernel
theorem dJxc12de_init_da8c8_6 : decode cJxc12de_init_da8c8 6 = .ok (.putfield 7, 3) := by decide +kernel
theorem dJxc12de_init_da8c8_9 : decode cJxc12de_init_da8c8 9 = .ok (.return_, 1) := by decide +kernel
theorem dJx4a65c_init_da8c8_0 : decode cJx4a65c_init_da8c8 0 = .ok (.aload_n 0, 1) := by decide +kernel
theorem dJx4a65c_init_da8c8_1 : decode cJx4a65c_init_da8c8 1 = .ok (.invokespecial 1, 3) := by decide +kernel
theorem dJx4a65c_init_da8c8_4 : decode cJx4a65c_init_da8c8 4 = .ok (.aload_n 0, 1) := by decide +kernel
theorem dJx4a65c_init_da8c8_5 : decode cJx4a65c_init_da8c8 5 = .ok (.getstatic 39, 3) := by decide +kernel
theorem dJx4a65c_init_da8c8_8 : decode cJx4a65c_init_da8c8 8 = .ok (.putfield 9, 3) := by decide +kernel
theorem dJx4a65c_init_da8c8_11 : decode cJx4a65c_init_da8c8 11 = .ok (.return_, 1) := by decide +kernel
theorem dJx4a65c_grow_92f84_0 : decode cJx4a65c_grow_92f84 0 = .ok (.aload_n 0, 1) := by decide +kernel
theorem dJx4a65c_grow_92f84_1 : decode cJx4a65c_grow_92f84 1 = .ok (.getfield 9, 3) := by decide +kernel
theorem dJx4a65c_grow_92f84_4 : decode cJx4a65c_grow_92f84 4 = .ok (.arraylength, 1) := by decide +kernel
theorem dJx4a65c_grow_92f84_5 : decode cJx4a65c_grow_92f84 5 = .ok (.istore_n 2, 1) := by decide +kernel
theorem dJx4a65c_grow_92f84_6 : decode cJx4a65c_grow_92f84 6 = .ok (.iload_n 2, 1) := by decide +kernel
theorem dJx4a65c_grow_92f84_7 : decode cJx4a65c_grow_92f84 7 = .ok (.ifCond .gt 13, 3) := by decide +kernel
theorem dJx4a65c_grow_92f84_10 : decode cJx4a65c_grow_92f84 10 = .ok (.aload_n 0, 1) := by decide +kernel
theorem dJx4a65c_grow_92f84_11 : decode cJx4a65c_grow_92f84 11 = .ok (.getfield 9, 3) := by decide +kernel
theorem dJx4a65c_grow_92f84_14 : decode cJx4a65c_grow_92f84 14 = .ok (.getstatic 39, 3) := by decide +kernel
theorem dJx4a65c_grow_92f84_17 : decode cJx4a65c_grow_92f84 17 = .ok (.if_acmp .eq 28, 3) := by decide +kernel
theorem dJx4a65c_grow_92f84_20 : decode cJx4a65c_grow_92f84 20 = .ok (.iload_n 2, 1) := by decide +kernel
theorem dJx4a65c_grow_92f84_21 : decode cJx4a65c_grow_92f84 21 = .ok (.iload_n 1, 1) := by decide +kernel
theorem dJx4a65c_grow_92f84_22 : decode cJx4a65c_grow_92f84 22 = .ok (.iload_n 2, 1) := by decide +kernel
theorem dJx4a65c_grow_92f84_23 : decode cJx4a65c_grow_92f84 23 = .ok (.isub, 1) := by decide +kernel
theorem dJx4a65c_grow_92f84_24 : decode cJx4a65c_grow_92f84 24 = .ok (.iload_n 2, 1) := by decide +kernel
theorem dJx4a65c_grow_92f84_25 : decode cJx4a65c_grow_92f84 25 = .ok (.iconst 1, 1) := by decide +kernel
theorem dJx4a65c_grow_92f84_26 : decode cJx4a65c_grow_92f84 26 = .ok (.ishr, 1) := by decide +kernel
theorem dJx4a65c_grow_92f84_27 : decode cJx4a65c_grow_92f84 27 = .ok (.invokestatic 73, 3) := by decide +kernel
theorem dJx4a65c_grow_92f84_30 : decode cJx4a65c_grow_92f84 30 = .ok (.istore_n 3, 1) := by decide +kernel
theorem dJx4a65c_grow_92f84_31 : decode cJx4a65c_grow_92f84 31 = .ok (.aload_n 0, 1) := by decide +kernel
theorem dJx4a65c_grow_92f84_32 : decode cJx4a65c_grow_92f84 32 = .ok (.aload_n 0, 1) := by decide +kernel
theorem dJx4a65c_grow_92f84_33 : decode cJx4a65c_grow_92f84 33 = .ok (.getfield 9, 3) := by decide +kernel
theorem dJx4a65c_grow_92f84_36 : decode cJx4a65c_grow_92f84 36 = .ok (.iload_n 3, 1) := by decide +kernel
theorem dJx4a65c_grow_92f84_37 : decode cJx4a65c_grow_92f84 37 = .ok (.invokestatic 66, 3) := by decide +kernel
theorem dJx4a65c_grow_92f84_40 : decode cJx4a65c_grow_92f84 40 = .ok (.dup_x1, 1) := by decide +kernel
theorem dJx4a65c_grow_92f84_41 : decode cJx4a65c_grow_92f84 41 = .ok (.putfield 9, 3) := by decide +kernel
theorem dJx4a65c_grow_92f84_44 : decode cJx4a65c_grow_92f84 44 = .ok (.areturn, 1) := by decide +kernel
theorem dJx4a65c_grow_92f84_45 : decode cJx4a65c_grow_92f84 45 = .ok (.aload_n 0, 1) := by decide +kernel
theorem dJx4a65c_grow_92f84_46 : decode cJx4a65c_grow_92f84 46 = .ok (.bipush 10, 2) := by decide +kernel
theorem dJx4a65c_grow_92f84_48 : decode cJx4a65c_grow_92f84 48 = .ok (.iload_n 1, 1) := by decide +kernel
theorem dJx4a65c_grow_92f84_49 : decode cJx4a65c_grow_92f84 49 = .ok (.invokestatic 79, 3) := by decide +kernel
theorem dJx4a65c_grow_92f84_52 : decode cJx4a65c_grow_92f84 52 = .ok (.anewarray 7, 3) := by decide +kernel
theorem dJx4a65c_grow_92f84_55 : decode cJx4a65c_grow_92f84 55 = .ok (.dup_x1, 1) := by decide +kernel
theorem dJx4a65c_grow_92f84_56 : decode cJx4a65c_grow_92f84 56 = .ok (.putfield 9, 3) := by decide +kernel
theorem dJx4a65c_grow_92f84_59 : decode cJx4a65c_grow_92f84 59 = .ok (.areturn, 1) := by decide +kernel
theorem dJx4a65c_grow_d5877_0 : decode cJx4a65c_grow_d5877 0 = .ok (.aload_n 0, 1) := by decide +kernel
theorem dJx4a65c_grow_d5877_1 : decode cJx4a65c_grow_d5877 1 = .ok (.aload_n 0, 1) := by decide +kernel
theorem dJx4a65c_grow_d5877_2 : decode cJx4a65c_grow_d5877 2 = .ok (.getfield 48, 3) := by decide +kernel
theorem dJx4a65c_grow_d5877_5 : decode cJx4a65c_grow_d5877 5 = .ok (.iconst 1, 1) := by decide +kernel
theorem dJx4a65c_grow_d5877_6 : decode cJx4a65c_grow_d5877 6 = .ok (.iadd, 1) := by decide +kernel
theorem dJx4a65c_grow_d5877_7 : decode cJx4a65c_grow_d5877 7 = .ok (.invokevirtual 69, 3) := by decide +kernel
theorem dJx4a65c_grow_d5877_10 : decode cJx4a65c_grow_d5877 10 = .ok (.areturn, 1) := by decide +kernel
theorem dJx4a65c_size_8abf5_0 : decode cJx4a65c_size_8abf5 0 = .ok (.aload_n 0, 1) := by decide +kernel
theorem dJx4a65c_size_8abf5_1 : decode cJx4a65c_size_8abf5 1 = .ok (.getfield 48, 3) := by decide +kernel
theorem dJx4a65c_size_8abf5_4 : decode cJx4a65c_size_8abf5 4 = .ok (.ireturn, 1) := by decide +kernel
theorem dJx4a65c_elementData_915e3_0 : decode cJx4a65c_elementData_915e3 0 = .ok (.aload_n 0, 1) := by decide +kernel
theorem dJx4a65c_elementData_915e3_1 : decode cJx4a65c_elementData_915e3 1 = .ok (.getfield 9, 3) := by decide +kernel
theorem dJx4a65c_elementData_915e3_4 : decode cJx4a65c_elementData_915e3 4 = .ok (.iload_n 1, 1) := by decide +kernel
theorem dJx4a65c_elementData_915e3_5 : decode cJx4a65c_elementData_915e3 5 = .ok (.aaload, 1) := by decide +kernel
theorem dJx4a65c_elementData_915e3_6 : decode cJx4a65c_elementData_915e3 6 = .ok (.areturn, 1) := by decide +kernel
theorem dJx4a65c_get_915e3_0 : decode cJx4a65c_get_915e3 0 = .ok (.iload_n 1, 1) := by decide +kernel
theorem dJx4a65c_get_915e3_1 : decode cJx4a65c_get_915e3 1 = .ok (.aload_n 0, 1) := by decide +kernel
theorem dJx4a65c_get_915e3_2 : decode cJx4a65c_get_915e3 2 = .ok (.getfield 48, 3) := by decide +kernel
theorem dJx4a65c_get_915e3_5 : decode cJx4a65c_get_915e3 5 = .ok (.invokestatic 118, 3) := by decide +kernel
theorem dJx4a65c_get_915e3_8 : decode cJx4a65c_get_915e3 8 = .ok (.pop, 1) := by decide +kernel
theorem dJx4a65c_get_915e3_9 : decode cJx4a65c_get_915e3 9 = .ok (.aload_n 0, 1) := by decide +kernel
theorem dJx4a65c_get_915e3_10 : decode cJx4a65c_get_915e3 10 = .ok (.iload_n 1, 1) := by decide +kernel
theorem dJx4a65c_get_915e3_11 : decode cJx4a65c_get_915e3 11 = .ok (.invokevirtual 123, 3) := by decide +kernel
theorem dJx4a65c_get_915e3_14 : decode cJx4a65c_get_915e3 14 = .ok (.areturn, 1) := by decide +kernel
theorem dJx4a65c_add_72be8_0 : decode cJx4a65c_add_72be8 0 = .ok (.iload_n 3, 1) := by decide +kernel
theorem dJx4a65c_add_72be8_1 : decode cJx4a65c_add_72be8 1 = .ok (.aload_n 2, 1) := by decide +kernel
theorem dJx4a65c_add_72be8_2 : decode cJx4a65c_add_72be8 2 = .ok (.arraylength, 1) := by decide +kernel
theorem dJx4a65c_add_72be8_3 : decode cJx4a65c_add_72be8 3 = .ok (.if_icmp .ne 8, 3) := by decide +kernel
theorem dJx4a65c_add_72be8_6 : decode cJx4a65c_add_72be8 6 = .ok (.aload_n 0, 1) := by decide +kernel
theorem dJx4a65c_add_72be8_7 : decode cJx4a65c_add_72be8 7 = .ok (.invokevirtual 129, 3) := by decide +kernel
theorem dJx4a65c_add_72be8_10 : decode cJx4a65c_add_72be8 10 = .ok (.astore_n 2, 1) := by decide +kernel
theorem dJx4a65c_add_72be8_11 : decode cJx4a65c_add_72be8 11 = .ok (.aload_n 2, 1) := by decide +kernel
theorem dJx4a65c_add_72be8_12 : decode cJx4a65c_add_72be8 12 = .ok (.iload_n 3, 1) := by decide +kernel
theorem dJx4a65c_add_72be8_13 : decode cJx4a65c_add_72be8 13 = .ok (.aload_n 1, 1) := by decide +kernel
theorem dJx4a65c_add_72be8_14 : decode cJx4a65c_add_72be8 14 = .ok (.aastore, 1) := by decide +kernel
theorem dJx4a65c_add_72be8_15 : decode cJx4a65c_add_72be8 15 = .ok (.aload_n 0, 1) := by decide +kernel
theorem dJx4a65c_add_72be8_16 : decode cJx4a65c_add_72be8 16 = .ok (.iload_n 3, 1) := by decide +kernel
theorem dJx4a65c_add_72be8_17 : decode cJx4a65c_add_72be8 17 = .ok (.iconst 1, 1) := by decide +kernel
theorem dJx4a65c_add_72be8_18 : decode cJx4a65c_add_72be8 18 = .ok (.iadd, 1) := by decide +kernel
theorem dJx4a65c_add_72be8_19 : decode cJx4a65c_add_72be8 19 = .ok (.putfield 48, 3) := by decide +kernel
theorem dJx4a65c_add_72be8_22 : decode cJx4a65c_add_72be8 22 = .ok (.return_, 1) := by decide +kernel
theorem dJx4a65c_add_9ea2d_0 : decode cJx4a65c_add_9ea2d 0 = .ok (.aload_n 0, 1) := by decide +kernel
theorem dJx4a65c_add_9ea2d_1 : decode cJx4a65c_add_9ea2d 1 = .ok (.dup, 1) := by decide +kernel
theorem dJx4a65c_add_9ea2d_2 : decode cJx4a65c_add_9ea2d 2 = .ok (.getfield 63, 3) := by decide +kernel
theorem dJx4a65c_add_9ea2d_5 : decode cJx4a65c_add_9ea2d 5 = .ok (.iconst 1, 1) := by decide +kernel
theorem dJx4a65c_add_9ea2d_6 : decode cJx4a65c_add_9ea2d 6 = .ok (.iadd, 1) := by decide +kernel
theorem dJx4a65c_add_9ea2d_7 : decode cJx4a65c_add_9ea2d 7 = .ok (.putfield 63, 3) := by decide +kernel
theorem dJx4a65c_add_9ea2d_10 : decode cJx4a65c_add_9ea2d 10 = .ok (.aload_n 0, 1) := by decide +kernel
theorem dJx4a65c_add_9ea2d_11 : decode cJx4a65c_add_9ea2d 11 = .ok (.aload_n 1, 1) := by decide +kernel
theorem dJx4a65c_add_9ea2d_12 : decode cJx4a65c_add_9ea2d 12 = .ok (.aload_n 0, 1) := by decide +kernel
theorem dJx4a65c_add_9ea2d_13 : decode cJx4a65c_add_9ea2d 13 = .ok (.getfield 9, 3) := by decide +kernel
theorem dJx4a65c_add_9ea2d_16 : decode cJx4a65c_add_9ea2d 16 = .ok (.aload_n 0, 1) := by decide +kernel
theorem dJx4a65c_add_9ea2d_17 : decode cJx4a65c_add_9ea2d 17 = .ok (.getfield 48, 3) := by decide +kernel
theorem dJx4a65c_add_9ea2d_20 : decode cJx4a65c_add_9ea2d 20 = .ok (.invokevirtual 131, 3) := by decide +kernel
theorem dJx4a65c_add_9ea2d_23 : decode cJx4a65c_add_9ea2d 23 = .ok (.iconst 1, 1) := by decide +kernel
theorem dJx4a65c_add_9ea2d_24 : decode cJx4a65c_add_9ea2d 24 = .ok (.ireturn, 1) := by decide +kernel
theorem dJx4a65c_add_7a177_0 : decode cJx4a65c_add_7a177 0 = .ok (.aload_n 0, 1) := by decide +kernel
theorem dJx4a65c_add_7a177_1 : decode cJx4a65c_add_7a177 1 = .ok (.iload_n 1, 1) := by decide +kernel
theorem dJx4a65c_add_7a177_2 : decode cJx4a65c_add_7a177 2 = .ok (.invokevirtual 135, 3) := by decide +kernel
theorem dJx4a65c_add_7a177_5 : decode cJx4a65c_add_7a177 5 = .ok (.aload_n 0, 1) := by decide +kernel
theorem dJx4a65c_add_7a177_6 : decode cJx4a65c_add_7a177 6 = .ok (.dup, 1) := by decide +kernel
theorem dJx4a65c_add_7a177_7 : decode cJx4a65c_add_7a177 7 = .ok (.getfield 63, 3) := by decide +kernel
theorem dJx4a65c_add_7a177_10 : decode cJx4a65c_add_7a177 10 = .ok (.iconst 1, 1) := by decide +kernel
theorem dJx4a65c_add_7a177_11 : decode cJx4a65c_add_7a177 11 = .ok (.iadd, 1) := by decide +kernel
theorem dJx4a65c_add_7a177_12 : decode cJx4a65c_add_7a177 12 = .ok (.putfield 63, 3) := by decide +kernel
theorem dJx4a65c_add_7a177_15 : decode cJx4a65c_add_7a177 15 = .ok (.aload_n 0, 1) := by decide +kernel
theorem dJx4a65c_add_7a177_16 : decode cJx4a65c_add_7a177 16 = .ok (.getfield 48, 3) := by decide +kernel
theorem dJx4a65c_add_7a177_19 : decode cJx4a65c_add_7a177 19 = .ok (.dup, 1) := by decide +kernel
theorem dJx4a65c_add_7a177_20 : decode cJx4a65c_add_7a177 20 = .ok (.istore_n 3, 1) := by decide +kernel
theorem dJx4a65c_add_7a177_21 : decode cJx4a65c_add_7a177 21 = .ok (.aload_n 0, 1) := by decide +kernel
theorem dJx4a65c_add_7a177_22 : decode cJx4a65c_add_7a177 22 = .ok (.getfield 9, 3) := by decide +kernel
theorem dJx4a65c_add_7a177_25 : decode cJx4a65c_add_7a177 25 = .ok (.dup, 1) := by decide +kernel
theorem dJx4a65c_add_7a177_26 : decode cJx4a65c_add_7a177 26 = .ok (.astore 4, 2) := by decide +kernel
theorem dJx4a65c_add_7a177_28 : decode cJx4a65c_add_7a177 28 = .ok (.arraylength, 1) := by decide +kernel
theorem dJx4a65c_add_7a177_29 : decode cJx4a65c_add_7a177 29 = .ok (.if_icmp .ne 9, 3) := by decide +kernel
theorem dJx4a65c_add_7a177_32 : decode cJx4a65c_add_7a177 32 = .ok (.aload_n 0, 1) := by decide +kernel
theorem dJx4a65c_add_7a177_33 : decode cJx4a65c_add_7a177 33 = .ok (.invokevirtual 129, 3) := by decide +kernel
theorem dJx4a65c_add_7a177_36 : decode cJx4a65c_add_7a177 36 = .ok (.astore 4, 2) := by decide +kernel
theorem dJx4a65c_add_7a177_38 : decode cJx4a65c_add_7a177 38 = .ok (.aload 4, 2) := by decide +kernel
theorem dJx4a65c_add_7a177_40 : decode cJx4a65c_add_7a177 40 = .ok (.iload_n 1, 1) := by decide +kernel
theorem dJx4a65c_add_7a177_41 : decode cJx4a65c_add_7a177 41 = .ok (.aload 4, 2) := by decide +kernel
theorem dJx4a65c_add_7a177_43 : decode cJx4a65c_add_7a177 43 = .ok (.iload_n 1, 1) := by decide +kernel
theorem dJx4a65c_add_7a177_44 : decode cJx4a65c_add_7a177 44 = .ok (.iconst 1, 1) := by decide +kernel
theorem dJx4a65c_add_7a177_45 : decode cJx4a65c_add_7a177 45 = .ok (.iadd, 1) := by decide +kernel
theorem dJx4a65c_add_7a177_46 : decode cJx4a65c_add_7a177 46 = .ok (.iload_n 3, 1) := by decide +kernel
theorem dJx4a65c_add_7a177_47 : decode cJx4a65c_add_7a177 47 = .ok (.iload_n 1, 1) := by decide +kernel
theorem dJx4a65c_add_7a177_48 : decode cJx4a65c_add_7a177 48 = .ok (.isub, 1) := by decide +kernel
theorem dJx4a65c_add_7a177_49 : decode cJx4a65c_add_7a177 49 = .ok (.invokestatic 112, 3) := by decide +kernel
theorem dJx4a65c_add_7a177_52 : decode cJx4a65c_add_7a177 52 = .ok (.aload 4, 2) := by decide +kernel
theorem dJx4a65c_add_7a177_54 : decode cJx4a65c_add_7a177 54 = .ok (.iload_n 1, 1) := by decide +kernel
theorem dJx4a65c_add_7a177_55 : decode cJx4a65c_add_7a177 55 = .ok (.aload_n 2, 1) := by decide +kernel
theorem dJx4a65c_add_7a177_56 : decode cJx4a65c_add_7a177 56 = .ok (.aastore, 1) := by decide +kernel
theorem dJx4a65c_add_7a177_57 : decode cJx4a65c_add_7a177 57 = .ok (.aload_n 0, 1) := by decide +kernel
theorem dJx4a65c_add_7a177_58 : decode cJx4a65c_add_7a177 58 = .ok (.iload_n 3, 1) := by decide +kernel
theorem dJx4a65c_add_7a177_59 : decode cJx4a65c_add_7a177 59 = .ok (.iconst 1, 1) := by decide +kernel
theorem dJx4a65c_add_7a177_60 : decode cJx4a65c_add_7a177 60 = .ok (.iadd, 1) := by decide +kernel
theorem dJx4a65c_add_7a177_61 : decode cJx4a65c_add_7a177 61 = .ok (.putfield 48, 3) := by decide +kernel
theorem dJx4a65c_add_7a177_64 : decode cJx4a65c_add_7a177 64 = .ok (.return_, 1) := by decide +kernel
theorem dJx4a65c_rangeCheckForAdd_d00df_0 : decode cJx4a65c_rangeCheckForAdd_d00df 0 = .ok (.iload_n 1, 1) := by decide +kernel
theorem dJx4a65c_rangeCheckForAdd_d00df_1 : decode cJx4a65c_rangeCheckForAdd_d00df 1 = .ok (.aload_n 0, 1) := by decide +kernel
theorem dJx4a65c_rangeCheckForAdd_d00df_2 : decode cJx4a65c_rangeCheckForAdd_d00df 2 = .ok (.getfield 48, 3) := by decide +kernel
theorem dJx4a65c_rangeCheckForAdd_d00df_5 : decode cJx4a65c_rangeCheckForAdd_d00df 5 = .ok (.if_icmp .gt 7, 3) := by decide +kernel
theorem dJx4a65c_rangeCheckForAdd_d00df_8 : decode cJx4a65c_rangeCheckForAdd_d00df 8 = .ok (.iload_n 1, 1) := by decide +kernel
theorem dJx4a65c_rangeCheckForAdd_d00df_9 : decode cJx4a65c_rangeCheckForAdd_d00df 9 = .ok (.ifCond .ge 16, 3) := by decide +kernel
theorem dJx4a65c_rangeCheckForAdd_d00df_12 : decode cJx4a65c_rangeCheckForAdd_d00df 12 = .ok (.new 187, 3) := by decide +kernel
theorem dJx4a65c_rangeCheckForAdd_d00df_15 : decode cJx4a65c_rangeCheckForAdd_d00df 15 = .ok (.dup, 1) := by decide +kernel
theorem dJx4a65c_rangeCheckForAdd_d00df_16 : decode cJx4a65c_rangeCheckForAdd_d00df 16 = .ok (.aload_n 0, 1) := by decide +kernel
theorem dJx4a65c_rangeCheckForAdd_d00df_17 : decode cJx4a65c_rangeCheckForAdd_d00df 17 = .ok (.iload_n 1, 1) := by decide +kernel
theorem dJx4a65c_rangeCheckForAdd_d00df_18 : decode cJx4a65c_rangeCheckForAdd_d00df 18 = .ok (.invokevirtual 198, 3) := by decide +kernel
theorem dJx4a65c_rangeCheckForAdd_d00df_21 : decode cJx4a65c_rangeCheckForAdd_d00df 21 = .ok (.invokespecial 193, 3) := by decide +kernel
theorem dJx4a65c_rangeCheckForAdd_d00df_24 : decode cJx4a65c_rangeCheckForAdd_d00df 24 = .ok (.athrow, 1) := by decide +kernel
theorem dJx4a65c_rangeCheckForAdd_d00df_25 : decode cJx4a65c_rangeCheckForAdd_d00df 25 = .ok (.return_, 1) := by decide +kernel
theorem dJ7_fill_53178_0 : decode cJ7_fill_53178 0 = .ok (.iconst 0, 1) := by decide +kernel
theorem dJ7_fill_53178_1 : decode cJ7_fill_53178 1 = .ok (.istore_n 2, 1) := by decide +kernel
theorem dJ7_fill_53178_2 : decode cJ7_fill_53178 2 = .ok (.aload_n 0, 1) := by decide +kernel
theorem dJ7_fill_53178_3 : decode cJ7_fill_53178 3 = .ok (.arraylength, 1) := by decide +kernel
theorem dJ7_fill_53178_4 : decode cJ7_fill_53178 4 = .ok (.istore_n 3, 1) := by decide +kernel
theorem dJ7_fill_53178_5 : decode cJ7_fill_53178 5 = .ok (.iload_n 2, 1) := by decide +kernel
theorem dJ7_fill_53178_6 : decode cJ7_fill_53178 6 = .ok (.iload_n 3, 1) := by decide +kernel
theorem dJ7_fill_53178_7 : decode cJ7_fill_53178 7 = .ok (.if_icmp .ge 13, 3) := by decide +kernel
theorem dJ7_fill_53178_10 : decode cJ7_fill_53178 10 = .ok (.aload_n 0, 1) := by decide +kernel
theorem dJ7_fill_53178_11 : decode cJ7_fill_53178 11 = .ok (.iload_n 2, 1) := by decide +kernel
theorem dJ7_fill_53178_12 : decode cJ7_fill_53178 12 = .ok (.iload_n 1, 1) := by decide +kernel
theorem dJ7_fill_53178_13 : decode cJ7_fill_53178 13 = .ok (.iastore, 1) := by decide +kernel
theorem dJ7_fill_53178_14 : decode cJ7_fill_53178 14 = .ok (.iinc 2 1, 3) := by decide +kernel
theorem dJ7_fill_53178_17 : decode cJ7_fill_53178 17 = .ok (.goto (-12), 3) := by decide +kernel
theorem dJ7_fill_53178_20 : decode cJ7_fill_53178 20 = .ok (.return_, 1) := by decide +kernel
theorem dJ7_copyOf_1904c_0 : decode cJ7_copyOf_1904c 0 = .ok (.aload_n 0, 1) := by decide +kernel
theorem dJ7_copyOf_1904c_1 : decode cJ7_copyOf_1904c 1 = .ok (.iload_n 1, 1) := by decide +kernel
theorem dJ7_copyOf_1904c_2 : decode cJ7_copyOf_1904c 2 = .ok (.aload_n 0, 1) := by decide +kernel
theorem dJ7_copyOf_1904c_3 : decode cJ7_copyOf_1904c 3 = .ok (.invokevirtual 86, 3) := by decide +kernel
theorem dJ7_copyOf_1904c_6 : decode cJ7_copyOf_1904c 6 = .ok (.invokestatic 300, 3) := by decide +kernel
theorem dJ7_copyOf_1904c_9 : decode cJ7_copyOf_1904c 9 = .ok (.areturn, 1) := by decide +kernel
theorem dJ7_copyOf_6403c_0 : decode cJ7_copyOf_6403c 0 = .ok (.aload_n 2, 1) := by decide +kernel
theorem dJ7_copyOf_6403c_1 : decode cJ7_copyOf_6403c 1 = .ok (.ldc 110, 2) := by decide +kernel
theorem dJ7_copyOf_6403c_3 : decode cJ7_copyOf_6403c 3 = .ok (.if_acmp .ne 10, 3) := by decide +kernel
theorem dJ7_copyOf_6403c_6 : decode cJ7_copyOf_6403c 6 = .ok (.iload_n 1, 1) := by decide +kernel
theorem dJ7_copyOf_6403c_7 : decode cJ7_copyOf_6403c 7 = .ok (.anewarray 2, 3) := by decide +kernel
theorem dJ7_copyOf_6403c_10 : decode cJ7_copyOf_6403c 10 = .ok (.goto 14, 3) := by decide +kernel
theorem dJ7_copyOf_6403c_13 : decode cJ7_copyOf_6403c 13 = .ok (.aload_n 2, 1) := by decide +kernel
theorem dJ7_copyOf_6403c_14 : decode cJ7_copyOf_6403c 14 = .ok (.invokevirtual 90, 3) := by decide +kernel
theorem dJ7_copyOf_6403c_17 : decode cJ7_copyOf_6403c 17 = .ok (.iload_n 1, 1) := by decide +kernel
theorem dJ7_copyOf_6403c_18 : decode cJ7_copyOf_6403c 18 = .ok (.invokestatic 95, 3) := by decide +kernel
theorem dJ7_copyOf_6403c_21 : decode cJ7_copyOf_6403c 21 = .ok (.checkcast 110, 3) := by decide +kernel
theorem dJ7_copyOf_6403c_24 : decode cJ7_copyOf_6403c 24 = .ok (.astore_n 3, 1) := by decide +kernel
theorem dJ7_copyOf_6403c_25 : decode cJ7_copyOf_6403c 25 = .ok (.aload_n 0, 1) := by decide +kernel
theorem dJ7_copyOf_6403c_26 : decode cJ7_copyOf_6403c 26 = .ok (.iconst 0, 1) := by decide +kernel
theorem dJ7_copyOf_6403c_27 : decode cJ7_copyOf_6403c 27 = .ok (.aload_n 3, 1) := by decide +kernel
theorem dJ7_copyOf_6403c_28 : decode cJ7_copyOf_6403c 28 = .ok (.iconst 0, 1) := by decide +kernel
theorem dJ7_copyOf_6403c_29 : decode cJ7_copyOf_6403c 29 = .ok (.aload_n 0, 1) := by decide +kernel
theorem dJ7_copyOf_6403c_30 : decode cJ7_copyOf_6403c 30 = .ok (.arraylength, 1) := by decide +kernel
theorem dJ7_copyOf_6403c_31 : decode cJ7_copyOf_6403c 31 = .ok (.iload_n 1, 1) := by decide +kernel
theorem dJ7_copyOf_6403c_32 : decode cJ7_copyOf_6403c 32 = .ok (.invokestatic 304, 3) := by decide +kernel
theorem dJ7_copyOf_6403c_35 : decode cJ7_copyOf_6403c 35 = .ok (.invokestatic 150, 3) := by decide +kernel
theorem dJ7_copyOf_6403c_38 : decode cJ7_copyOf_6403c 38 = .ok (.aload_n 3, 1) := by decide +kernel
theorem dJ7_copyOf_6403c_39 : decode cJ7_copyOf_6403c 39 = .ok (.areturn, 1) := by decide +kernel
theorem dJ15_checkIndex_7cf53_0 : decode cJ15_checkIndex_7cf53 0 = .ok (.iload_n 0, 1) := by decide +kernel
theorem dJ15_checkIndex_7cf53_1 : decode cJ15_checkIndex_7cf53 1 = .ok (.iload_n 1, 1) := by decide +kernel
theorem dJ15_checkIndex_7cf53_2 : decode cJ15_checkIndex_7cf53 2 = .ok (.aconst_null, 1) := by decide +kernel
theorem dJ15_checkIndex_7cf53_3 : decode cJ15_checkIndex_7cf53 3 = .ok (.invokestatic 105, 3) := by decide +kernel
theorem dJ15_checkIndex_7cf53_6 : decode cJ15_checkIndex_7cf53 6 = .ok (.ireturn, 1) := by decide +kernel
theorem dJ8_newLength_cabcc_0 : decode cJ8_newLength_cabcc 0 = .ok (.iload_n 0, 1) := by decide +kernel
theorem dJ8_newLength_cabcc_1 : decode cJ8_newLength_cabcc 1 = .ok (.iload_n 1, 1) := by decide +kernel
theorem dJ8_newLength_cabcc_2 : decode cJ8_newLength_cabcc 2 = .ok (.iload_n 2, 1) := by decide +kernel
theorem dJ8_newLength_cabcc_3 : decode cJ8_newLength_cabcc 3 = .ok (.invokestatic 194, 3) := by decide +kernel
theorem dJ8_newLength_cabcc_6 : decode cJ8_newLength_cabcc 6 = .ok (.iadd, 1) := by decide +kernel
theorem dJ8_newLength_cabcc_7 : decode cJ8_newLength_cabcc 7 = .ok (.istore_n 3, 1) := by decide +kernel
theorem dJ8_newLength_cabcc_8 : decode cJ8_newLength_cabcc 8 = .ok (.iconst 0, 1) := by decide +kernel
theorem dJ8_newLength_cabcc_9 : decode cJ8_newLength_cabcc 9 = .ok (.iload_n 3, 1) := by decide +kernel
theorem dJ8_newLength_cabcc_10 : decode cJ8_newLength_cabcc 10 = .ok (.if_icmp .ge 11, 3) := by decide +kernel
theorem dJ8_newLength_cabcc_13 : decode cJ8_newLength_cabcc 13 = .ok (.iload_n 3, 1) := by decide +kernel
theorem dJ8_newLength_cabcc_14 : decode cJ8_newLength_cabcc 14 = .ok (.ldc 200, 2) := by decide +kernel
theorem dJ8_newLength_cabcc_16 : decode cJ8_newLength_cabcc 16 = .ok (.if_icmp .gt 5, 3) := by decide +kernel
theorem dJ8_newLength_cabcc_19 : decode cJ8_newLength_cabcc 19 = .ok (.iload_n 3, 1) := by decide +kernel
theorem dJ8_newLength_cabcc_20 : decode cJ8_newLength_cabcc 20 = .ok (.ireturn, 1) := by decide +kernel
theorem dJ8_newLength_cabcc_21 : decode cJ8_newLength_cabcc 21 = .ok (.iload_n 0, 1) := by decide +kernel
theorem dJ8_newLength_cabcc_22 : decode cJ8_newLength_cabcc 22 = .ok (.iload_n 1, 1) := by decide +kernel
theorem dJ8_newLength_cabcc_23 : decode cJ8_newLength_cabcc 23 = .ok (.invokestatic 201, 3) := by decide +kernel
theorem dJ8_newLength_cabcc_26 : decode cJ8_newLength_cabcc 26 = .ok (.ireturn, 1) := by decide +kernel
theorem dJ8_hugeLength_7cf53_0 : decode cJ8_hugeLength_7cf53 0 = .ok (.iload_n 0, 1) := by decide +kernel
theorem dJ8_hugeLength_7cf53_1 : decode cJ8_hugeLength_7cf53 1 = .ok (.iload_n 1, 1) := by decide +kernel
theorem dJ8_hugeLength_7cf53_2 : decode cJ8_hugeLength_7cf53 2 = .ok (.iadd, 1) := by decide +kernel
theorem dJ8_hugeLength_7cf53_3 : decode cJ8_hugeLength_7cf53 3 = .ok (.istore_n 2, 1) := by decide +kernel
theorem dJ8_hugeLength_7cf53_4 : decode cJ8_hugeLength_7cf53 4 = .ok (.iload_n 2, 1) := by decide +kernel
theorem dJ8_hugeLength_7cf53_5 : decode cJ8_hugeLength_7cf53 5 = .ok (.ifCond .ge 44, 3) := by decide +kernel
theorem dJ8_hugeLength_7cf53_8 : decode cJ8_hugeLength_7cf53 8 = .ok (.new 204, 3) := by decide +kernel
theorem dJ8_hugeLength_7cf53_11 : decode cJ8_hugeLength_7cf53 11 = .ok (.dup, 1) := by decide +kernel
theorem dJ8_hugeLength_7cf53_12 : decode cJ8_hugeLength_7cf53 12 = .ok (.new 89, 3) := by decide +kernel
theorem dJ8_hugeLength_7cf53_15 : decode cJ8_hugeLength_7cf53 15 = .ok (.dup, 1) := by decide +kernel
theorem dJ8_hugeLength_7cf53_16 : decode cJ8_hugeLength_7cf53 16 = .ok (.invokespecial 91, 3) := by decide +kernel
theorem dJ8_hugeLength_7cf53_19 : decode cJ8_hugeLength_7cf53 19 = .ok (.ldc 206, 2) := by decide +kernel
theorem dJ8_hugeLength_7cf53_21 : decode cJ8_hugeLength_7cf53 21 = .ok (.invokevirtual 94, 3) := by decide +kernel
theorem dJ8_hugeLength_7cf53_24 : decode cJ8_hugeLength_7cf53 24 = .ok (.iload_n 0, 1) := by decide +kernel
theorem dJ8_hugeLength_7cf53_25 : decode cJ8_hugeLength_7cf53 25 = .ok (.invokevirtual 98, 3) := by decide +kernel
theorem dJ8_hugeLength_7cf53_28 : decode cJ8_hugeLength_7cf53 28 = .ok (.ldc 208, 2) := by decide +kernel
theorem dJ8_hugeLength_7cf53_30 : decode cJ8_hugeLength_7cf53 30 = .ok (.invokevirtual 94, 3) := by decide +kernel
theorem dJ8_hugeLength_7cf53_33 : decode cJ8_hugeLength_7cf53 33 = .ok (.iload_n 1, 1) := by decide +kernel
theorem dJ8_hugeLength_7cf53_34 : decode cJ8_hugeLength_7cf53 34 = .ok (.invokevirtual 98, 3) := by decide +kernel
theorem dJ8_hugeLength_7cf53_37 : decode cJ8_hugeLength_7cf53 37 = .ok (.ldc 210, 2) := by decide +kernel
theorem dJ8_hugeLength_7cf53_39 : decode cJ8_hugeLength_7cf53 39 = .ok (.invokevirtual 94, 3) := by decide +kernel
theorem dJ8_hugeLength_7cf53_42 : decode cJ8_hugeLength_7cf53 42 = .ok (.invokevirtual 101, 3) := by decide +kernel
theorem dJ8_hugeLength_7cf53_45 : decode cJ8_hugeLength_7cf53 45 = .ok (.invokespecial 212, 3) := by decide +kernel
theorem dJ8_hugeLength_7cf53_48 : decode cJ8_hugeLength_7cf53 48 = .ok (.athrow, 1) := by decide +kernel
theorem dJ8_hugeLength_7cf53_49 : decode cJ8_hugeLength_7cf53 49 = .ok (.iload_n 2, 1) := by decide +kernel
theorem dJ8_hugeLength_7cf53_50 : decode cJ8_hugeLength_7cf53 50 = .ok (.ldc 200, 2) := by decide +kernel
theorem dJ8_hugeLength_7cf53_52 : decode cJ8_hugeLength_7cf53 52 = .ok (.if_icmp .gt 6, 3) := by decide +kernel
theorem dJ8_hugeLength_7cf53_55 : decode cJ8_hugeLength_7cf53 55 = .ok (.ldc 200, 2) := by decide +kernel
theorem dJ8_hugeLength_7cf53_57 : decode cJ8_hugeLength_7cf53 57 = .ok (.ireturn, 1) := by decide +kernel
theorem dJ8_hugeLength_7cf53_58 : decode cJ8_hugeLength_7cf53 58 = .ok (.iload_n 2, 1) := by decide +kernel
theorem dJ8_hugeLength_7cf53_59 : decode cJ8_hugeLength_7cf53 59 = .ok (.ireturn, 1) := by decide +kernel
theorem dJ3_checkIndex_8e157_0 : decode cJ3_checkIndex_8e157 0 = .ok (.iload_n 0, 1) := by decide +kernel
theorem dJ3_checkIndex_8e157_1 : decode cJ3_checkIndex_8e157 1 = .ok (.ifCond .lt 8, 3) := by decide +kernel
theorem dJ3_checkIndex_8e157_4 : decode cJ3_checkIndex_8e157 4 = .ok (.iload_n 0, 1) := by decide +kernel
theorem dJ3_checkIndex_8e157_5 : decode cJ3_checkIndex_8e157 5 = .ok (.iload_n 1, 1) := by decide +kernel
theorem dJ3_checkIndex_8e157_6 : decode cJ3_checkIndex_8e157 6 = .ok (.if_icmp .lt 10, 3) := by decide +kernel
theorem dJ3_checkIndex_8e157_9 : decode cJ3_checkIndex_8e157 9 = .ok (.aload_n 2, 1) := by decide +kernel
theorem dJ3_checkIndex_8e157_10 : decode cJ3_checkIndex_8e157 10 = .ok (.iload_n 0, 1) := by decide +kernel
theorem dJ3_checkIndex_8e157_11 : decode cJ3_checkIndex_8e157 11 = .ok (.iload_n 1, 1) := by decide +kernel
theorem dJ3_checkIndex_8e157_12 : decode cJ3_checkIndex_8e157 12 = .ok (.invokestatic 95, 3) := by decide +kernel
theorem dJ3_checkIndex_8e157_15 : decode cJ3_checkIndex_8e157 15 = .ok (.athrow, 1) := by decide +kernel
theorem dJ3_checkIndex_8e157_16 : decode cJ3_checkIndex_8e157 16 = .ok (.iload_n 0, 1) := by decide +kernel
theorem dJ3_checkIndex_8e157_17 : decode cJ3_checkIndex_8e157 17 = .ok (.ireturn, 1) := by decide +kernel
theorem dL_law_0 : decode cL_law 0 = .ok (.new 7, 3) := by decide +kernel
theorem dL_law_3 : decode cL_law 3 = .ok (.dup, 1) := by decide +kernel
theorem dL_law_4 : decode cL_law 4 = .ok (.invokespecial 9, 3) := by decide +kernel
theorem dL_law_7 : decode cL_law 7 = .ok (.astore_n 1, 1) := by decide +kernel
theorem dL_law_8 : decode cL_law 8 = .ok (.new 10, 3) := by decide +kernel
theorem dL_law_11 : decode cL_law 11 = .ok (.dup, 1) := by decide +kernel
theorem dL_law_12 : decode cL_law 12 = .ok (.invokespecial 12, 3) := by decide +kernel
theorem dL_law_15 : decode cL_law 15 = .ok (.astore_n 2, 1) := by decide +kernel
theorem dL_law_16 : decode cL_law 16 = .ok (.iconst 0, 1) := by decide +kernel
theorem dL_law_17 : decode cL_law 17 = .ok (.istore_n 3, 1) := by decide +kernel
theorem dL_law_18 : decode cL_law 18 = .ok (.iload_n 3, 1) := by decide +kernel
theorem dL_law_19 : decode cL_law 19 = .ok (.aload_n 0, 1) := by decide +kernel
theorem dL_law_20 : decode cL_law 20 = .ok (.arraylength, 1) := by decide +kernel
theorem dL_law_21 : decode cL_law 21 = .ok (.bipush 6, 2) := by decide +kernel
theorem dL_law_23 : decode cL_law 23 = .ok (.isub, 1) := by decide +kernel
theorem dL_law_24 : decode cL_law 24 = .ok (.if_icmp .gt 751, 3) := by decide +kernel
theorem dL_law_27 : decode cL_law 27 = .ok (.aload_n 0, 1) := by decide +kernel
theorem dL_law_28 : decode cL_law 28 = .ok (.iload_n 3, 1) := by decide +kernel
theorem dL_law_29 : decode cL_law 29 = .ok (.iaload, 1) := by decide +kernel
theorem dL_law_30 : decode cL_law 30 = .ok (.bipush 31, 2) := by decide +kernel
theorem dL_law_32 : decode cL_law 32 = .ok (.iand, 1) := by decide +kernel
theorem dL_law_33 : decode cL_law 33 = .ok (.tableswitch 736 0 17 #[87, 150, 183, 206, 229, 252, 305, 358, 402, 446, 459, 493, 527, 571, 614, 647, 680, 713], 87) := by decide +kernel
theorem dL_law_120 : decode cL_law 120 = .ok (.aload_n 1, 1) := by decide +kernel
theorem dL_law_121 : decode cL_law 121 = .ok (.aload_n 0, 1) := by decide +kernel
theorem dL_law_122 : decode cL_law 122 = .ok (.iload_n 3, 1) := by decide +kernel
theorem dL_law_123 : decode cL_law 123 = .ok (.iconst 1, 1) := by decide +kernel
theorem dL_law_124 : decode cL_law 124 = .ok (.iadd, 1) := by decide +kernel
theorem dL_law_125 : decode cL_law 125 = .ok (.iaload, 1) := by decide +kernel
theorem dL_law_126 : decode cL_law 126 = .ok (.aload_n 0, 1) := by decide +kernel
theorem dL_law_127 : decode cL_law 127 = .ok (.iload_n 3, 1) := by decide +kernel
theorem dL_law_128 : decode cL_law 128 = .ok (.iconst 2, 1) := by decide +kernel
theorem dL_law_129 : decode cL_law 129 = .ok (.iadd, 1) := by decide +kernel
theorem dL_law_130 : decode cL_law 130 = .ok (.iaload, 1) := by decide +kernel
theorem dL_law_131 : decode cL_law 131 = .ok (.aload_n 0, 1) := by decide +kernel
theorem dL_law_132 : decode cL_law 132 = .ok (.iload_n 3, 1) := by decide +kernel
theorem dL_law_133 : decode cL_law 133 = .ok (.iconst 3, 1) := by decide +kernel
theorem dL_law_134 : decode cL_law 134 = .ok (.iadd, 1) := by decide +kernel
theorem dL_law_135 : decode cL_law 135 = .ok (.iaload, 1) := by decide +kernel
theorem dL_law_136 : decode cL_law 136 = .ok (.aload_n 0, 1) := by decide +kernel
theorem dL_law_137 : decode cL_law 137 = .ok (.iload_n 3, 1) := by decide +kernel
theorem dL_law_138 : decode cL_law 138 = .ok (.iconst 4, 1) := by decide +kernel
theorem dL_law_139 : decode cL_law 139 = .ok (.iadd, 1) := by decide +kernel
theorem dL_law_140 : decode cL_law 140 = .ok (.iaload, 1) := by decide +kernel
theorem dL_law_141 : decode cL_law 141 = .ok (.aload_n 0, 1) := by decide +kernel
theorem dL_law_142 : decode cL_law 142 = .ok (.iload_n 3, 1) := by decide +kernel
theorem dL_law_143 : decode cL_law 143 = .ok (.iconst 5, 1) := by decide +kernel
theorem dL_law_144 : decode cL_law 144 = .ok (.iadd, 1) := by decide +kernel
theorem dL_law_145 : decode cL_law 145 = .ok (.iaload, 1) := by decide +kernel
theorem dL_law_146 : decode cL_law 146 = .ok (.invokevirtual 13, 3) := by decide +kernel
theorem dL_law_149 : decode cL_law 149 = .ok (.aload_n 2, 1) := by decide +kernel
theorem dL_law_150 : decode cL_law 150 = .ok (.aload_n 0, 1) := by decide +kernel
theorem dL_law_151 : decode cL_law 151 = .ok (.iload_n 3, 1) := by decide +kernel
theorem dL_law_152 : decode cL_law 152 = .ok (.iconst 1, 1) := by decide +kernel
theorem dL_law_153 : decode cL_law 153 = .ok (.iadd, 1) := by decide +kernel
theorem dL_law_154 : decode cL_law 154 = .ok (.iaload, 1) := by decide +kernel
theorem dL_law_155 : decode cL_law 155 = .ok (.aload_n 0, 1) := by decide +kernel
theorem dL_law_156 : decode cL_law 156 = .ok (.iload_n 3, 1) := by decide +kernel
theorem dL_law_157 : decode cL_law 157 = .ok (.iconst 2, 1) := by decide +kernel
theorem dL_law_158 : decode cL_law 158 = .ok (.iadd, 1) := by decide +kernel
theorem dL_law_159 : decode cL_law 159 = .ok (.iaload, 1) := by decide +kernel
theorem dL_law_160 : decode cL_law 160 = .ok (.aload_n 0, 1) := by decide +kernel
theorem dL_law_161 : decode cL_law 161 = .ok (.iload_n 3, 1) := by decide +kernel
theorem dL_law_162 : decode cL_law 162 = .ok (.iconst 3, 1) := by decide +kernel
theorem dL_law_163 : decode cL_law 163 = .ok (.iadd, 1) := by decide +kernel
theorem dL_law_164 : decode cL_law 164 = .ok (.iaload, 1) := by decide +kernel
theorem dL_law_165 : decode cL_law 165 = .ok (.aload_n 0, 1) := by decide +kernel
theorem dL_law_166 : decode cL_law 166 = .ok (.iload_n 3, 1) := by decide +kernel
theorem dL_law_167 : decode cL_law 167 = .ok (.iconst 4, 1) := by decide +kernel
theorem dL_law_168 : decode cL_law 168 = .ok (.iadd, 1) := by decide +kernel
theorem dL_law_169 : decode cL_law 169 = .ok (.iaload, 1) := by decide +kernel
theorem dL_law_170 : decode cL_law 170 = .ok (.aload_n 0, 1) := by decide +kernel
theorem dL_law_171 : decode cL_law 171 = .ok (.iload_n 3, 1) := by decide +kernel
theorem dL_law_172 : decode cL_law 172 = .ok (.iconst 5, 1) := by decide +kernel
theorem dL_law_173 : decode cL_law 173 = .ok (.iadd, 1) := by decide +kernel
theorem dL_law_174 : decode cL_law 174 = .ok (.iaload, 1) := by decide +kernel
theorem dL_law_175 : decode cL_law 175 = .ok (.invokevirtual 17, 3) := by decide +kernel
theorem dL_law_178 : decode cL_law 178 = .ok (.if_icmp .eq 591, 3) := by decide +kernel
theorem dL_law_181 : decode cL_law 181 = .ok (.iconst 0, 1) := by decide +kernel
theorem dL_law_182 : decode cL_law 182 = .ok (.ireturn, 1) := by decide +kernel
theorem dL_law_183 : decode cL_law 183 = .ok (.aload_n 1, 1) := by decide +kernel
theorem dL_law_184 : decode cL_law 184 = .ok (.aload_n 0, 1) := by decide +kernel
theorem dL_law_185 : decode cL_law 185 = .ok (.iload_n 3, 1) := by decide +kernel
theorem dL_law_186 : decode cL_law 186 = .ok (.iconst 1, 1) := by decide +kernel
theorem dL_law_187 : decode cL_law 187 = .ok (.iadd, 1) := by decide +kernel
theorem dL_law_188 : decode cL_law 188 = .ok (.iaload, 1) := by decide +kernel
theorem dL_law_189 : decode cL_law 189 = .ok (.aload_n 0, 1) := by decide +kernel
theorem dL_law_190 : decode cL_law 190 = .ok (.iload_n 3, 1) := by decide +kernel
theorem dL_law_191 : decode cL_law 191 = .ok (.iconst 2, 1) := by decide +kernel
theorem dL_law_192 : decode cL_law 192 = .ok (.iadd, 1) := by decide +kernel
theorem dL_law_193 : decode cL_law 193 = .ok (.iaload, 1) := by decide +kernel
theorem dL_law_194 : decode cL_law 194 = .ok (.invokevirtual 18, 3) := by decide +kernel
theorem dL_law_197 : decode cL_law 197 = .ok (.aload_n 2, 1) := by decide +kernel
theorem dL_law_198 : decode cL_law 198 = .ok (.aload_n 0, 1) := by decide +kernel
theorem dL_law_199 : decode cL_law 199 = .ok (.iload_n 3, 1) := by decide +kernel
theorem dL_law_200 : decode cL_law 200 = .ok (.iconst 1, 1) := by decide +kernel
theorem dL_law_201 : decode cL_law 201 = .ok (.iadd, 1) := by decide +kernel
theorem dL_law_202 : decode cL_law 202 = .ok (.iaload, 1) := by decide +kernel
theorem dL_law_203 : decode cL_law 203 = .ok (.aload_n 0, 1) := by decide +kernel
theorem dL_law_204 : decode cL_law 204 = .ok (.iload_n 3, 1) := by decide +kernel
theorem dL_law_205 : decode cL_law 205 = .ok (.iconst 2, 1) := by decide +kernel
theorem dL_law_206 : decode cL_law 206 = .ok (.iadd, 1) := by decide +kernel
theorem dL_law_207 : decode cL_law 207 = .ok (.iaload, 1) := by decide +kernel
theorem dL_law_208 : decode cL_law 208 = .ok (.invokevirtual 22, 3) := by decide +kernel
theorem dL_law_211 : decode cL_law 211 = .ok (.if_icmp .eq 558, 3) := by decide +kernel
theorem dL_law_214 : decode cL_law 214 = .ok (.iconst 0, 1) := by decide +kernel
theorem dL_law_215 : decode cL_law 215 = .ok (.ireturn, 1) := by decide +kernel
theorem dL_law_216 : decode cL_law 216 = .ok (.aload_n 1, 1) := by decide +kernel
theorem dL_law_217 : decode cL_law 217 = .ok (.aload_n 0, 1) := by decide +kernel
theorem dL_law_218 : decode cL_law 218 = .ok (.iload_n 3, 1) := by decide +kernel
theorem dL_law_219 : decode cL_law 219 = .ok (.iconst 1, 1) := by decide +kernel
theorem dL_law_220 : decode cL_law 220 = .ok (.iadd, 1) := by decide +kernel
theorem dL_law_221 : decode cL_law 221 = .ok (.iaload, 1) := by decide +kernel
theorem dL_law_222 : decode cL_law 222 = .ok (.invokevirtual 23, 3) := by decide +kernel
theorem dL_law_225 : decode cL_law 225 = .ok (.aload_n 2, 1) := by decide +kernel
theorem dL_law_226 : decode cL_law 226 = .ok (.aload_n 0, 1) := by decide +kernel
theorem dL_law_227 : decode cL_law 227 = .ok (.iload_n 3, 1) := by decide +kernel
theorem dL_law_228 : decode cL_law 228 = .ok (.iconst 1, 1) := by decide +kernel
theorem dL_law_229 : decode cL_law 229 = .ok (.iadd, 1) := by decide +kernel
theorem dL_law_230 : decode cL_law 230 = .ok (.iaload, 1) := by decide +kernel
theorem dL_law_231 : decode cL_law 231 = .ok (.invokevirtual 27, 3) := by decide +kernel
theorem dL_law_234 : decode cL_law 234 = .ok (.if_icmp .eq 535, 3) := by decide +kernel
theorem dL_law_237 : decode cL_law 237 = .ok (.iconst 0, 1) := by decide +kernel
theorem dL_law_238 : decode cL_law 238 = .ok (.ireturn, 1) := by decide +kernel
theorem dL_law_239 : decode cL_law 239 = .ok (.aload_n 1, 1) := by decide +kernel
theorem dL_law_240 : decode cL_law 240 = .ok (.aload_n 0, 1) := by decide +kernel
theorem dL_law_241 : decode cL_law 241 = .ok (.iload_n 3, 1) := by decide +kernel
theorem dL_law_242 : decode cL_law 242 = .ok (.iconst 1, 1) := by decide +kernel
theorem dL_law_243 : decode cL_law 243 = .ok (.iadd, 1) := by decide +kernel
theorem dL_law_244 : decode cL_law 244 = .ok (.iaload, 1) := by decide +kernel
theorem dL_law_245 : decode cL_law 245 = .ok (.invokevirtual 28, 3) := by decide +kernel
theorem dL_law_248 : decode cL_law 248 = .ok (.aload_n 2, 1) := by decide +kernel
theorem dL_law_249 : decode cL_law 249 = .ok (.aload_n 0, 1) := by decide +kernel
theorem dL_law_250 : decode cL_law 250 = .ok (.iload_n 3, 1) := by decide +kernel
theorem dL_law_251 : decode cL_law 251 = .ok (.iconst 1, 1) := by decide +kernel
theorem dL_law_252 : decode cL_law 252 = .ok (.iadd, 1) := by decide +kernel
theorem dL_law_253 : decode cL_law 253 = .ok (.iaload, 1) := by decide +kernel
theorem dL_law_254 : decode cL_law 254 = .ok (.invokevirtual 31, 3) := by decide +kernel
theorem dL_law_257 : decode cL_law 257 = .ok (.if_icmp .eq 512, 3) := by decide +kernel
theorem dL_law_260 : decode cL_law 260 = .ok (.iconst 0, 1) := by decide +kernel
theorem dL_law_261 : decode cL_law 261 = .ok (.ireturn, 1) := by decide +kernel
theorem dL_law_262 : decode cL_law 262 = .ok (.aload_n 1, 1) := by decide +kernel
theorem dL_law_263 : decode cL_law 263 = .ok (.aload_n 0, 1) := by decide +kernel
theorem dL_law_264 : decode cL_law 264 = .ok (.iload_n 3, 1) := by decide +kernel
theorem dL_law_265 : decode cL_law 265 = .ok (.iconst 1, 1) := by decide +kernel
theorem dL_law_266 : decode cL_law 266 = .ok (.iadd, 1) := by decide +kernel
theorem dL_law_267 : decode cL_law 267 = .ok (.iaload, 1) := by decide +kernel
theorem dL_law_268 : decode cL_law 268 = .ok (.invokevirtual 32, 3) := by decide +kernel
theorem dL_law_271 : decode cL_law 271 = .ok (.aload_n 2, 1) := by decide +kernel
theorem dL_law_272 : decode cL_law 272 = .ok (.aload_n 0, 1) := by decide +kernel
theorem dL_law_273 : decode cL_law 273 = .ok (.iload_n 3, 1) := by decide +kernel
theorem dL_law_274 : decode cL_law 274 = .ok (.iconst 1, 1) := by decide +kernel
theorem dL_law_275 : decode cL_law 275 = .ok (.iadd, 1) := by decide +kernel
theorem dL_law_276 : decode cL_law 276 = .ok (.iaload, 1) := by decide +kernel
theorem dL_law_277 : decode cL_law 277 = .ok (.invokevirtual 35, 3) := by decide +kernel
theorem dL_law_280 : decode cL_law 280 = .ok (.if_icmp .eq 489, 3) := by decide +kernel
theorem dL_law_283 : decode cL_law 283 = .ok (.iconst 0, 1) := by decide +kernel
theorem dL_law_284 : decode cL_law 284 = .ok (.ireturn, 1) := by decide +kernel
theorem dL_law_285 : decode cL_law 285 = .ok (.aload_n 1, 1) := by decide +kernel
theorem dL_law_286 : decode cL_law 286 = .ok (.aload_n 0, 1) := by decide +kernel
theorem dL_law_287 : decode cL_law 287 = .ok (.iload_n 3, 1) := by decide +kernel
theorem dL_law_288 : decode cL_law 288 = .ok (.iconst 1, 1) := by decide +kernel
theorem dL_law_289 : decode cL_law 289 = .ok (.iadd, 1) := by decide +kernel
theorem dL_law_290 : decode cL_law 290 = .ok (.iaload, 1) := by decide +kernel
theorem dL_law_291 : decode cL_law 291 = .ok (.aload_n 0, 1) := by decide +kernel
theorem dL_law_292 : decode cL_law 292 = .ok (.iload_n 3, 1) := by decide +kernel
theorem dL_law_293 : decode cL_law 293 = .ok (.iconst 2, 1) := by decide +kernel
theorem dL_law_294 : decode cL_law 294 = .ok (.iadd, 1) := by decide +kernel
theorem dL_law_295 : decode cL_law 295 = .ok (.iaload, 1) := by decide +kernel
theorem dL_law_296 : decode cL_law 296 = .ok (.aload_n 0, 1) := by decide +kernel
theorem dL_law_297 : decode cL_law 297 = .ok (.iload_n 3, 1) := by decide +kernel
theorem dL_law_298 : decode cL_law 298 = .ok (.iconst 3, 1) := by decide +kernel
theorem dL_law_299 : decode cL_law 299 = .ok (.iadd, 1) := by decide +kernel
theorem dL_law_300 : decode cL_law 300 = .ok (.iaload, 1) := by decide +kernel
theorem dL_law_301 : decode cL_law 301 = .ok (.aload_n 0, 1) := by decide +kernel
theorem dL_law_302 : decode cL_law 302 = .ok (.iload_n 3, 1) := by decide +kernel
theorem dL_law_303 : decode cL_law 303 = .ok (.iconst 4, 1) := by decide +kernel
theorem dL_law_304 : decode cL_law 304 = .ok (.iadd, 1) := by decide +kernel
theorem dL_law_305 : decode cL_law 305 = .ok (.iaload, 1) := by decide +kernel
theorem dL_law_306 : decode cL_law 306 = .ok (.invokevirtual 36, 3) := by decide +kernel
theorem dL_law_309 : decode cL_law 309 = .ok (.aload_n 2, 1) := by decide +kernel
theorem dL_law_310 : decode cL_law 310 = .ok (.aload_n 0, 1) := by decide +kernel
theorem dL_law_311 : decode cL_law 311 = .ok (.iload_n 3, 1) := by decide +kernel
theorem dL_law_312 : decode cL_law 312 = .ok (.iconst 1, 1) := by decide +kernel
theorem dL_law_313 : decode cL_law 313 = .ok (.iadd, 1) := by decide +kernel
theorem dL_law_314 : decode cL_law 314 = .ok (.iaload, 1) := by decide +kernel
theorem dL_law_315 : decode cL_law 315 = .ok (.aload_n 0, 1) := by decide +kernel
theorem dL_law_316 : decode cL_law 316 = .ok (.iload_n 3, 1) := by decide +kernel
theorem dL_law_317 : decode cL_law 317 = .ok (.iconst 2, 1) := by decide +kernel
theorem dL_law_318 : decode cL_law 318 = .ok (.iadd, 1) := by decide +kernel
theorem dL_law_319 : decode cL_law 319 = .ok (.iaload, 1) := by decide +kernel
theorem dL_law_320 : decode cL_law 320 = .ok (.aload_n 0, 1) := by decide +kernel
theorem dL_law_321 : decode cL_law 321 = .ok (.iload_n 3, 1) := by decide +kernel
theorem dL_law_322 : decode cL_law 322 = .ok (.iconst 3, 1) := by decide +kernel
theorem dL_law_323 : decode cL_law 323 = .ok (.iadd, 1) := by decide +kernel
theorem dL_law_324 : decode cL_law 324 = .ok (.iaload, 1) := by decide +kernel
theorem dL_law_325 : decode cL_law 325 = .ok (.aload_n 0, 1) := by decide +kernel
theorem dL_law_326 : decode cL_law 326 = .ok (.iload_n 3, 1) := by decide +kernel
theorem dL_law_327 : decode cL_law 327 = .ok (.iconst 4, 1) := by decide +kernel
theorem dL_law_328 : decode cL_law 328 = .ok (.iadd, 1) := by decide +kernel
theorem dL_law_329 : decode cL_law 329 = .ok (.iaload, 1) := by decide +kernel
theorem dL_law_330 : decode cL_law 330 = .ok (.invokevirtual 40, 3) := by decide +kernel
theorem dL_law_333 : decode cL_law 333 = .ok (.if_icmp .eq 436, 3) := by decide +kernel
theorem dL_law_336 : decode cL_law 336 = .ok (.iconst 0, 1) := by decide +kernel
theorem dL_law_337 : decode cL_law 337 = .ok (.ireturn, 1) := by decide +kernel
theorem dL_law_338 : decode cL_law 338 = .ok (.aload_n 1, 1) := by decide +kernel
theorem dL_law_339 : decode cL_law 339 = .ok (.aload_n 0, 1) := by decide +kernel
theorem dL_law_340 : decode cL_law 340 = .ok (.iload_n 3, 1) := by decide +kernel
theorem dL_law_341 : decode cL_law 341 = .ok (.iconst 1, 1) := by decide +kernel
theorem dL_law_342 : decode cL_law 342 = .ok (.iadd, 1) := by decide +kernel
theorem dL_law_343 : decode cL_law 343 = .ok (.iaload, 1) := by decide +kernel
theorem dL_law_344 : decode cL_law 344 = .ok (.aload_n 0, 1) := by decide +kernel
theorem dL_law_345 : decode cL_law 345 = .ok (.iload_n 3, 1) := by decide +kernel
theorem dL_law_346 : decode cL_law 346 = .ok (.iconst 2, 1) := by decide +kernel
theorem dL_law_347 : decode cL_law 347 = .ok (.iadd, 1) := by decide +kernel
theorem dL_law_348 : decode cL_law 348 = .ok (.iaload, 1) := by decide +kernel
theorem dL_law_349 : decode cL_law 349 = .ok (.aload_n 0, 1) := by decide +kernel
theorem dL_law_350 : decode cL_law 350 = .ok (.iload_n 3, 1) := by decide +kernel
theorem dL_law_351 : decode cL_law 351 = .ok (.iconst 3, 1) := by decide +kernel
theorem dL_law_352 : decode cL_law 352 = .ok (.iadd, 1) := by decide +kernel
theorem dL_law_353 : decode cL_law 353 = .ok (.iaload, 1) := by decide +kernel
theorem dL_law_354 : decode cL_law 354 = .ok (.aload_n 0, 1) := by decide +kernel
theorem dL_law_355 : decode cL_law 355 = .ok (.iload_n 3, 1) := by decide +kernel
theorem dL_law_356 : decode cL_law 356 = .ok (.iconst 4, 1) := by decide +kernel
theorem dL_law_357 : decode cL_law 357 = .ok (.iadd, 1) := by decide +kernel
theorem dL_law_358 : decode cL_law 358 = .ok (.iaload, 1) := by decide +kernel
theorem dL_law_359 : decode cL_law 359 = .ok (.invokevirtual 41, 3) := by decide +kernel
theorem dL_law_362 : decode cL_law 362 = .ok (.aload_n 2, 1) := by decide +kernel
theorem dL_law_363 : decode cL_law 363 = .ok (.aload_n 0, 1) := by decide +kernel
theorem dL_law_364 : decode cL_law 364 = .ok (.iload_n 3, 1) := by decide +kernel
theorem dL_law_365 : decode cL_law 365 = .ok (.iconst 1, 1) := by decide +kernel
theorem dL_law_366 : decode cL_law 366 = .ok (.iadd, 1) := by decide +kernel
theorem dL_law_367 : decode cL_law 367 = .ok (.iaload, 1) := by decide +kernel
theorem dL_law_368 : decode cL_law 368 = .ok (.aload_n 0, 1) := by decide +kernel
theorem dL_law_369 : decode cL_law 369 = .ok (.iload_n 3, 1) := by decide +kernel
theorem dL_law_370 : decode cL_law 370 = .ok (.iconst 2, 1) := by decide +kernel
theorem dL_law_371 : decode cL_law 371 = .ok (.iadd, 1) := by decide +kernel
theorem dL_law_372 : decode cL_law 372 = .ok (.iaload, 1) := by decide +kernel
theorem dL_law_373 : decode cL_law 373 = .ok (.aload_n 0, 1) := by decide +kernel
theorem dL_law_374 : decode cL_law 374 = .ok (.iload_n 3, 1) := by decide +kernel
theorem dL_law_375 : decode cL_law 375 = .ok (.iconst 3, 1) := by decide +kernel
theorem dL_law_376 : decode cL_law 376 = .ok (.iadd, 1) := by decide +kernel
theorem dL_law_377 : decode cL_law 377 = .ok (.iaload, 1) := by decide +kernel
theorem dL_law_378 : decode cL_law 378 = .ok (.aload_n 0, 1) := by decide +kernel
theorem dL_law_379 : decode cL_law 379 = .ok (.iload_n 3, 1) := by decide +kernel
theorem dL_law_380 : decode cL_law 380 = .ok (.iconst 4, 1) := by decide +kernel
theorem dL_law_381 : decode cL_law 381 = .ok (.iadd, 1) := by decide +kernel
theorem dL_law_382 : decode cL_law 382 = .ok (.iaload, 1) := by decide +kernel
theorem dL_law_383 : decode cL_law 383 = .ok (.invokevirtual 44, 3) := by decide +kernel
theorem dL_law_386 : decode cL_law 386 = .ok (.if_icmp .eq 383, 3) := by decide +kernel
theorem dL_law_389 : decode cL_law 389 = .ok (.iconst 0, 1) := by decide +kernel
theorem dL_law_390 : decode cL_law 390 = .ok (.ireturn, 1) := by decide +kernel
theorem dL_law_391 : decode cL_law 391 = .ok (.aload_n 1, 1) := by decide +kernel
theorem dL_law_392 : decode cL_law 392 = .ok (.aload_n 0, 1) := by decide +kernel
theorem dL_law_393 : decode cL_law 393 = .ok (.iload_n 3, 1) := by decide +kernel
theorem dL_law_394 : decode cL_law 394 = .ok (.iconst 1, 1) := by decide +kernel
theorem dL_law_395 : decode cL_law 395 = .ok (.iadd, 1) := by decide +kernel
theorem dL_law_396 : decode cL_law 396 = .ok (.iaload, 1) := by decide +kernel
theorem dL_law_397 : decode cL_law 397 = .ok (.aload_n 0, 1) := by decide +kernel
theorem dL_law_398 : decode cL_law 398 = .ok (.iload_n 3, 1) := by decide +kernel
theorem dL_law_399 : decode cL_law 399 = .ok (.iconst 2, 1) := by decide +kernel
theorem dL_law_400 : decode cL_law 400 = .ok (.iadd, 1) := by decide +kernel
theorem dL_law_401 : decode cL_law 401 = .ok (.iaload, 1) := by decide +kernel
theorem dL_law_402 : decode cL_law 402 = .ok (.aload_n 0, 1) := by decide +kernel
theorem dL_law_403 : decode cL_law 403 = .ok (.iload_n 3, 1) := by decide +kernel
theorem dL_law_404 : decode cL_law 404 = .ok (.iconst 3, 1) := by decide +kernel
theorem dL_law_405 : decode cL_law 405 = .ok (.iadd, 1) := by decide +kernel
theorem dL_law_406 : decode cL_law 406 = .ok (.iaload, 1) := by decide +kernel
theorem dL_law_407 : decode cL_law 407 = .ok (.invokevirtual 45, 3) := by decide +kernel
theorem dL_law_410 : decode cL_law 410 = .ok (.aload_n 2, 1) := by decide +kernel
theorem dL_law_411 : decode cL_law 411 = .ok (.aload_n 0, 1) := by decide +kernel
theorem dL_law_412 : decode cL_law 412 = .ok (.iload_n 3, 1) := by decide +kernel
theorem dL_law_413 : decode cL_law 413 = .ok (.iconst 1, 1) := by decide +kernel
theorem dL_law_414 : decode cL_law 414 = .ok (.iadd, 1) := by decide +kernel
theorem dL_law_415 : decode cL_law 415 = .ok (.iaload, 1) := by decide +kernel
theorem dL_law_416 : decode cL_law 416 = .ok (.aload_n 0, 1) := by decide +kernel
theorem dL_law_417 : decode cL_law 417 = .ok (.iload_n 3, 1) := by decide +kernel
theorem dL_law_418 : decode cL_law 418 = .ok (.iconst 2, 1) := by decide +kernel
theorem dL_law_419 : decode cL_law 419 = .ok (.iadd, 1) := by decide +kernel
theorem dL_law_420 : decode cL_law 420 = .ok (.iaload, 1) := by decide +kernel
theorem dL_law_421 : decode cL_law 421 = .ok (.aload_n 0, 1) := by decide +kernel
theorem dL_law_422 : decode cL_law 422 = .ok (.iload_n 3, 1) := by decide +kernel
theorem dL_law_423 : decode cL_law 423 = .ok (.iconst 3, 1) := by decide +kernel
theorem dL_law_424 : decode cL_law 424 = .ok (.iadd, 1) := by decide +kernel
theorem dL_law_425 : decode cL_law 425 = .ok (.iaload, 1) := by decide +kernel
theorem dL_law_426 : decode cL_law 426 = .ok (.invokevirtual 49, 3) := by decide +kernel
theorem dL_law_429 : decode cL_law 429 = .ok (.lcmp, 1) := by decide +kernel
theorem dL_law_430 : decode cL_law 430 = .ok (.ifCond .eq 339, 3) := by decide +kernel
theorem dL_law_433 : decode cL_law 433 = .ok (.iconst 0, 1) := by decide +kernel
theorem dL_law_434 : decode cL_law 434 = .ok (.ireturn, 1) := by decide +kernel
theorem dL_law_435 : decode cL_law 435 = .ok (.aload_n 1, 1) := by decide +kernel
theorem dL_law_436 : decode cL_law 436 = .ok (.aload_n 0, 1) := by decide +kernel
theorem dL_law_437 : decode cL_law 437 = .ok (.iload_n 3, 1) := by decide +kernel
theorem dL_law_438 : decode cL_law 438 = .ok (.iconst 1, 1) := by decide +kernel
theorem dL_law_439 : decode cL_law 439 = .ok (.iadd, 1) := by decide +kernel
theorem dL_law_440 : decode cL_law 440 = .ok (.iaload, 1) := by decide +kernel
theorem dL_law_441 : decode cL_law 441 = .ok (.aload_n 0, 1) := by decide +kernel
theorem dL_law_442 : decode cL_law 442 = .ok (.iload_n 3, 1) := by decide +kernel
theorem dL_law_443 : decode cL_law 443 = .ok (.iconst 2, 1) := by decide +kernel
theorem dL_law_444 : decode cL_law 444 = .ok (.iadd, 1) := by decide +kernel
theorem dL_law_445 : decode cL_law 445 = .ok (.iaload, 1) := by decide +kernel
theorem dL_law_446 : decode cL_law 446 = .ok (.aload_n 0, 1) := by decide +kernel
theorem dL_law_447 : decode cL_law 447 = .ok (.iload_n 3, 1) := by decide +kernel
theorem dL_law_448 : decode cL_law 448 = .ok (.iconst 3, 1) := by decide +kernel
theorem dL_law_449 : decode cL_law 449 = .ok (.iadd, 1) := by decide +kernel
theorem dL_law_450 : decode cL_law 450 = .ok (.iaload, 1) := by decide +kernel
theorem dL_law_451 : decode cL_law 451 = .ok (.invokevirtual 50, 3) := by decide +kernel
theorem dL_law_454 : decode cL_law 454 = .ok (.aload_n 2, 1) := by decide +kernel
theorem dL_law_455 : decode cL_law 455 = .ok (.aload_n 0, 1) := by decide +kernel
theorem dL_law_456 : decode cL_law 456 = .ok (.iload_n 3, 1) := by decide +kernel
theorem dL_law_457 : decode cL_law 457 = .ok (.iconst 1, 1) := by decide +kernel
theorem dL_law_458 : decode cL_law 458 = .ok (.iadd, 1) := by decide +kernel
theorem dL_law_459 : decode cL_law 459 = .ok (.iaload, 1) := by decide +kernel
theorem dL_law_460 : decode cL_law 460 = .ok (.aload_n 0, 1) := by decide +kernel
theorem dL_law_461 : decode cL_law 461 = .ok (.iload_n 3, 1) := by decide +kernel
theorem dL_law_462 : decode cL_law 462 = .ok (.iconst 2, 1) := by decide +kernel
theorem dL_law_463 : decode cL_law 463 = .ok (.iadd, 1) := by decide +kernel
theorem dL_law_464 : decode cL_law 464 = .ok (.iaload, 1) := by decide +kernel
theorem dL_law_465 : decode cL_law 465 = .ok (.aload_n 0, 1) := by decide +kernel
theorem dL_law_466 : decode cL_law 466 = .ok (.iload_n 3, 1) := by decide +kernel
theorem dL_law_467 : decode cL_law 467 = .ok (.iconst 3, 1) := by decide +kernel
theorem dL_law_468 : decode cL_law 468 = .ok (.iadd, 1) := by decide +kernel
theorem dL_law_469 : decode cL_law 469 = .ok (.iaload, 1) := by decide +kernel
theorem dL_law_470 : decode cL_law 470 = .ok (.invokevirtual 53, 3) := by decide +kernel
theorem dL_law_473 : decode cL_law 473 = .ok (.lcmp, 1) := by decide +kernel
theorem dL_law_474 : decode cL_law 474 = .ok (.ifCond .eq 295, 3) := by decide +kernel
theorem dL_law_477 : decode cL_law 477 = .ok (.iconst 0, 1) := by decide +kernel
theorem dL_law_478 : decode cL_law 478 = .ok (.ireturn, 1) := by decide +kernel
theorem dL_law_479 : decode cL_law 479 = .ok (.aload_n 1, 1) := by decide +kernel
theorem dL_law_480 : decode cL_law 480 = .ok (.invokevirtual 54, 3) := by decide +kernel
theorem dL_law_483 : decode cL_law 483 = .ok (.aload_n 2, 1) := by decide +kernel
theorem dL_law_484 : decode cL_law 484 = .ok (.invokevirtual 58, 3) := by decide +kernel
theorem dL_law_487 : decode cL_law 487 = .ok (.if_icmp .eq 282, 3) := by decide +kernel
theorem dL_law_490 : decode cL_law 490 = .ok (.iconst 0, 1) := by decide +kernel
theorem dL_law_491 : decode cL_law 491 = .ok (.ireturn, 1) := by decide +kernel
theorem dL_law_492 : decode cL_law 492 = .ok (.aload_n 1, 1) := by decide +kernel
theorem dL_law_493 : decode cL_law 493 = .ok (.aload_n 0, 1) := by decide +kernel
theorem dL_law_494 : decode cL_law 494 = .ok (.iload_n 3, 1) := by decide +kernel
theorem dL_law_495 : decode cL_law 495 = .ok (.iconst 1, 1) := by decide +kernel
theorem dL_law_496 : decode cL_law 496 = .ok (.iadd, 1) := by decide +kernel
theorem dL_law_497 : decode cL_law 497 = .ok (.iaload, 1) := by decide +kernel
theorem dL_law_498 : decode cL_law 498 = .ok (.aload_n 0, 1) := by decide +kernel
theorem dL_law_499 : decode cL_law 499 = .ok (.iload_n 3, 1) := by decide +kernel
theorem dL_law_500 : decode cL_law 500 = .ok (.iconst 2, 1) := by decide +kernel
theorem dL_law_501 : decode cL_law 501 = .ok (.iadd, 1) := by decide +kernel
theorem dL_law_502 : decode cL_law 502 = .ok (.iaload, 1) := by decide +kernel
theorem dL_law_503 : decode cL_law 503 = .ok (.invokevirtual 59, 3) := by decide +kernel
theorem dL_law_506 : decode cL_law 506 = .ok (.aload_n 2, 1) := by decide +kernel
theorem dL_law_507 : decode cL_law 507 = .ok (.aload_n 0, 1) := by decide +kernel
theorem dL_law_508 : decode cL_law 508 = .ok (.iload_n 3, 1) := by decide +kernel
theorem dL_law_509 : decode cL_law 509 = .ok (.iconst 1, 1) := by decide +kernel
theorem dL_law_510 : decode cL_law 510 = .ok (.iadd, 1) := by decide +kernel
theorem dL_law_511 : decode cL_law 511 = .ok (.iaload, 1) := by decide +kernel
theorem dL_law_512 : decode cL_law 512 = .ok (.aload_n 0, 1) := by decide +kernel
theorem dL_law_513 : decode cL_law 513 = .ok (.iload_n 3, 1) := by decide +kernel
theorem dL_law_514 : decode cL_law 514 = .ok (.iconst 2, 1) := by decide +kernel
theorem dL_law_515 : decode cL_law 515 = .ok (.iadd, 1) := by decide +kernel
theorem dL_law_516 : decode cL_law 516 = .ok (.iaload, 1) := by decide +kernel
theorem dL_law_517 : decode cL_law 517 = .ok (.invokevirtual 63, 3) := by decide +kernel
theorem dL_law_520 : decode cL_law 520 = .ok (.lcmp, 1) := by decide +kernel
theorem dL_law_521 : decode cL_law 521 = .ok (.ifCond .eq 248, 3) := by decide +kernel
theorem dL_law_524 : decode cL_law 524 = .ok (.iconst 0, 1) := by decide +kernel
theorem dL_law_525 : decode cL_law 525 = .ok (.ireturn, 1) := by decide +kernel
theorem dL_law_526 : decode cL_law 526 = .ok (.aload_n 1, 1) := by decide +kernel
theorem dL_law_527 : decode cL_law 527 = .ok (.aload_n 0, 1) := by decide +kernel
theorem dL_law_528 : decode cL_law 528 = .ok (.iload_n 3, 1) := by decide +kernel
theorem dL_law_529 : decode cL_law 529 = .ok (.iconst 1, 1) := by decide +kernel
theorem dL_law_530 : decode cL_law 530 = .ok (.iadd, 1) := by decide +kernel
theorem dL_law_531 : decode cL_law 531 = .ok (.iaload, 1) := by decide +kernel
theorem dL_law_532 : decode cL_law 532 = .ok (.aload_n 0, 1) := by decide +kernel
theorem dL_law_533 : decode cL_law 533 = .ok (.iload_n 3, 1) := by decide +kernel
theorem dL_law_534 : decode cL_law 534 = .ok (.iconst 2, 1) := by decide +kernel
theorem dL_law_535 : decode cL_law 535 = .ok (.iadd, 1) := by decide +kernel
theorem dL_law_536 : decode cL_law 536 = .ok (.iaload, 1) := by decide +kernel
theorem dL_law_537 : decode cL_law 537 = .ok (.invokevirtual 64, 3) := by decide +kernel
theorem dL_law_540 : decode cL_law 540 = .ok (.aload_n 2, 1) := by decide +kernel
theorem dL_law_541 : decode cL_law 541 = .ok (.aload_n 0, 1) := by decide +kernel
theorem dL_law_542 : decode cL_law 542 = .ok (.iload_n 3, 1) := by decide +kernel
theorem dL_law_543 : decode cL_law 543 = .ok (.iconst 1, 1) := by decide +kernel
theorem dL_law_544 : decode cL_law 544 = .ok (.iadd, 1) := by decide +kernel
theorem dL_law_545 : decode cL_law 545 = .ok (.iaload, 1) := by decide +kernel
theorem dL_law_546 : decode cL_law 546 = .ok (.aload_n 0, 1) := by decide +kernel
theorem dL_law_547 : decode cL_law 547 = .ok (.iload_n 3, 1) := by decide +kernel
theorem dL_law_548 : decode cL_law 548 = .ok (.iconst 2, 1) := by decide +kernel
theorem dL_law_549 : decode cL_law 549 = .ok (.iadd, 1) := by decide +kernel
theorem dL_law_550 : decode cL_law 550 = .ok (.iaload, 1) := by decide +kernel
theorem dL_law_551 : decode cL_law 551 = .ok (.invokevirtual 67, 3) := by decide +kernel
theorem dL_law_554 : decode cL_law 554 = .ok (.lcmp, 1) := by decide +kernel
theorem dL_law_555 : decode cL_law 555 = .ok (.ifCond .eq 214, 3) := by decide +kernel
theorem dL_law_558 : decode cL_law 558 = .ok (.iconst 0, 1) := by decide +kernel
theorem dL_law_559 : decode cL_law 559 = .ok (.ireturn, 1) := by decide +kernel
theorem dL_law_560 : decode cL_law 560 = .ok (.aload_n 1, 1) := by decide +kernel
theorem dL_law_561 : decode cL_law 561 = .ok (.aload_n 0, 1) := by decide +kernel
theorem dL_law_562 : decode cL_law 562 = .ok (.iload_n 3, 1) := by decide +kernel
theorem dL_law_563 : decode cL_law 563 = .ok (.iconst 1, 1) := by decide +kernel
theorem dL_law_564 : decode cL_law 564 = .ok (.iadd, 1) := by decide +kernel
theorem dL_law_565 : decode cL_law 565 = .ok (.iaload, 1) := by decide +kernel
theorem dL_law_566 : decode cL_law 566 = .ok (.aload_n 0, 1) := by decide +kernel
theorem dL_law_567 : decode cL_law 567 = .ok (.iload_n 3, 1) := by decide +kernel
theorem dL_law_568 : decode cL_law 568 = .ok (.iconst 2, 1) := by decide +kernel
theorem dL_law_569 : decode cL_law 569 = .ok (.iadd, 1) := by decide +kernel
theorem dL_law_570 : decode cL_law 570 = .ok (.iaload, 1) := by decide +kernel
theorem dL_law_571 : decode cL_law 571 = .ok (.aload_n 0, 1) := by decide +kernel
theorem dL_law_572 : decode cL_law 572 = .ok (.iload_n 3, 1) := by decide +kernel
theorem dL_law_573 : decode cL_law 573 = .ok (.iconst 3, 1) := by decide +kernel
theorem dL_law_574 : decode cL_law 574 = .ok (.iadd, 1) := by decide +kernel
theorem dL_law_575 : decode cL_law 575 = .ok (.iaload, 1) := by decide +kernel
theorem dL_law_576 : decode cL_law 576 = .ok (.invokevirtual 68, 3) := by decide +kernel
theorem dL_law_579 : decode cL_law 579 = .ok (.aload_n 2, 1) := by decide +kernel
theorem dL_law_580 : decode cL_law 580 = .ok (.aload_n 0, 1) := by decide +kernel
theorem dL_law_581 : decode cL_law 581 = .ok (.iload_n 3, 1) := by decide +kernel
theorem dL_law_582 : decode cL_law 582 = .ok (.iconst 1, 1) := by decide +kernel
theorem dL_law_583 : decode cL_law 583 = .ok (.iadd, 1) := by decide +kernel
theorem dL_law_584 : decode cL_law 584 = .ok (.iaload, 1) := by decide +kernel
theorem dL_law_585 : decode cL_law 585 = .ok (.aload_n 0, 1) := by decide +kernel
theorem dL_law_586 : decode cL_law 586 = .ok (.iload_n 3, 1) := by decide +kernel
theorem dL_law_587 : decode cL_law 587 = .ok (.iconst 2, 1) := by decide +kernel
theorem dL_law_588 : decode cL_law 588 = .ok (.iadd, 1) := by decide +kernel
theorem dL_law_589 : decode cL_law 589 = .ok (.iaload, 1) := by decide +kernel
theorem dL_law_590 : decode cL_law 590 = .ok (.aload_n 0, 1) := by decide +kernel
theorem dL_law_591 : decode cL_law 591 = .ok (.iload_n 3, 1) := by decide +kernel
theorem dL_law_592 : decode cL_law 592 = .ok (.iconst 3, 1) := by decide +kernel
theorem dL_law_593 : decode cL_law 593 = .ok (.iadd, 1) := by decide +kernel
theorem dL_law_594 : decode cL_law 594 = .ok (.iaload, 1) := by decide +kernel
theorem dL_law_595 : decode cL_law 595 = .ok (.invokevirtual 71, 3) := by decide +kernel
theorem dL_law_598 : decode cL_law 598 = .ok (.lcmp, 1) := by decide +kernel
theorem dL_law_599 : decode cL_law 599 = .ok (.ifCond .eq 170, 3) := by decide +kernel
theorem dL_law_602 : decode cL_law 602 = .ok (.iconst 0, 1) := by decide +kernel
theorem dL_law_603 : decode cL_law 603 = .ok (.ireturn, 1) := by decide +kernel
theorem dL_law_604 : decode cL_law 604 = .ok (.aload_n 1, 1) := by decide +kernel
theorem dL_law_605 : decode cL_law 605 = .ok (.aload_n 0, 1) := by decide +kernel
theorem dL_law_606 : decode cL_law 606 = .ok (.iload_n 3, 1) := by decide +kernel
theorem dL_law_607 : decode cL_law 607 = .ok (.iconst 1, 1) := by decide +kernel
theorem dL_law_608 : decode cL_law 608 = .ok (.iadd, 1) := by decide +kernel
theorem dL_law_609 : decode cL_law 609 = .ok (.iaload, 1) := by decide +kernel
theorem dL_law_610 : decode cL_law 610 = .ok (.aload_n 0, 1) := by decide +kernel
theorem dL_law_611 : decode cL_law 611 = .ok (.iload_n 3, 1) := by decide +kernel
theorem dL_law_612 : decode cL_law 612 = .ok (.iconst 2, 1) := by decide +kernel
theorem dL_law_613 : decode cL_law 613 = .ok (.iadd, 1) := by decide +kernel
theorem dL_law_614 : decode cL_law 614 = .ok (.iaload, 1) := by decide +kernel
theorem dL_law_615 : decode cL_law 615 = .ok (.aload_n 0, 1) := by decide +kernel
theorem dL_law_616 : decode cL_law 616 = .ok (.iload_n 3, 1) := by decide +kernel
theorem dL_law_617 : decode cL_law 617 = .ok (.iconst 3, 1) := by decide +kernel
theorem dL_law_618 : decode cL_law 618 = .ok (.iadd, 1) := by decide +kernel
theorem dL_law_619 : decode cL_law 619 = .ok (.iaload, 1) := by decide +kernel
theorem dL_law_620 : decode cL_law 620 = .ok (.invokevirtual 72, 3) := by decide +kernel
theorem dL_law_623 : decode cL_law 623 = .ok (.aload_n 2, 1) := by decide +kernel
theorem dL_law_624 : decode cL_law 624 = .ok (.aload_n 0, 1) := by decide +kernel
theorem dL_law_625 : decode cL_law 625 = .ok (.iload_n 3, 1) := by decide +kernel
theorem dL_law_626 : decode cL_law 626 = .ok (.iconst 1, 1) := by decide +kernel
theorem dL_law_627 : decode cL_law 627 = .ok (.iadd, 1) := by decide +kernel
theorem dL_law_628 : decode cL_law 628 = .ok (.iaload, 1) := by decide +kernel
theorem dL_law_629 : decode cL_law 629 = .ok (.aload_n 0, 1) := by decide +kernel
theorem dL_law_630 : decode cL_law 630 = .ok (.iload_n 3, 1) := by decide +kernel
theorem dL_law_631 : decode cL_law 631 = .ok (.iconst 2, 1) := by decide +kernel
theorem dL_law_632 : decode cL_law 632 = .ok (.iadd, 1) := by decide +kernel
theorem dL_law_633 : decode cL_law 633 = .ok (.iaload, 1) := by decide +kernel
theorem dL_law_634 : decode cL_law 634 = .ok (.aload_n 0, 1) := by decide +kernel
theorem dL_law_635 : decode cL_law 635 = .ok (.iload_n 3, 1) := by decide +kernel
theorem dL_law_636 : decode cL_law 636 = .ok (.iconst 3, 1) := by decide +kernel
theorem dL_law_637 : decode cL_law 637 = .ok (.iadd, 1) := by decide +kernel
theorem dL_law_638 : decode cL_law 638 = .ok (.iaload, 1) := by decide +kernel
theorem dL_law_639 : decode cL_law 639 = .ok (.invokevirtual 76, 3) := by decide +kernel
theorem dL_law_642 : decode cL_law 642 = .ok (.if_icmp .eq 127, 3) := by decide +kernel
theorem dL_law_645 : decode cL_law 645 = .ok (.iconst 0, 1) := by decide +kernel
theorem dL_law_646 : decode cL_law 646 = .ok (.ireturn, 1) := by decide +kernel
theorem dL_law_647 : decode cL_law 647 = .ok (.aload_n 1, 1) := by decide +kernel
theorem dL_law_648 : decode cL_law 648 = .ok (.aload_n 0, 1) := by decide +kernel
theorem dL_law_649 : decode cL_law 649 = .ok (.iload_n 3, 1) := by decide +kernel
theorem dL_law_650 : decode cL_law 650 = .ok (.iconst 1, 1) := by decide +kernel
theorem dL_law_651 : decode cL_law 651 = .ok (.iadd, 1) := by decide +kernel
theorem dL_law_652 : decode cL_law 652 = .ok (.iaload, 1) := by decide +kernel
theorem dL_law_653 : decode cL_law 653 = .ok (.aload_n 0, 1) := by decide +kernel
theorem dL_law_654 : decode cL_law 654 = .ok (.iload_n 3, 1) := by decide +kernel
theorem dL_law_655 : decode cL_law 655 = .ok (.iconst 2, 1) := by decide +kernel
theorem dL_law_656 : decode cL_law 656 = .ok (.iadd, 1) := by decide +kernel
theorem dL_law_657 : decode cL_law 657 = .ok (.iaload, 1) := by decide +kernel
theorem dL_law_658 : decode cL_law 658 = .ok (.invokevirtual 77, 3) := by decide +kernel
theorem dL_law_661 : decode cL_law 661 = .ok (.aload_n 2, 1) := by decide +kernel
theorem dL_law_662 : decode cL_law 662 = .ok (.aload_n 0, 1) := by decide +kernel
theorem dL_law_663 : decode cL_law 663 = .ok (.iload_n 3, 1) := by decide +kernel
theorem dL_law_664 : decode cL_law 664 = .ok (.iconst 1, 1) := by decide +kernel
theorem dL_law_665 : decode cL_law 665 = .ok (.iadd, 1) := by decide +kernel
theorem dL_law_666 : decode cL_law 666 = .ok (.iaload, 1) := by decide +kernel
theorem dL_law_667 : decode cL_law 667 = .ok (.aload_n 0, 1) := by decide +kernel
theorem dL_law_668 : decode cL_law 668 = .ok (.iload_n 3, 1) := by decide +kernel
theorem dL_law_669 : decode cL_law 669 = .ok (.iconst 2, 1) := by decide +kernel
theorem dL_law_670 : decode cL_law 670 = .ok (.iadd, 1) := by decide +kernel
theorem dL_law_671 : decode cL_law 671 = .ok (.iaload, 1) := by decide +kernel
theorem dL_law_672 : decode cL_law 672 = .ok (.invokevirtual 80, 3) := by decide +kernel
theorem dL_law_675 : decode cL_law 675 = .ok (.if_icmp .eq 94, 3) := by decide +kernel
theorem dL_law_678 : decode cL_law 678 = .ok (.iconst 0, 1) := by decide +kernel
theorem dL_law_679 : decode cL_law 679 = .ok (.ireturn, 1) := by decide +kernel
theorem dL_law_680 : decode cL_law 680 = .ok (.aload_n 1, 1) := by decide +kernel
theorem dL_law_681 : decode cL_law 681 = .ok (.aload_n 0, 1) := by decide +kernel
theorem dL_law_682 : decode cL_law 682 = .ok (.iload_n 3, 1) := by decide +kernel
theorem dL_law_683 : decode cL_law 683 = .ok (.iconst 1, 1) := by decide +kernel
theorem dL_law_684 : decode cL_law 684 = .ok (.iadd, 1) := by decide +kernel
theorem dL_law_685 : decode cL_law 685 = .ok (.iaload, 1) := by decide +kernel
theorem dL_law_686 : decode cL_law 686 = .ok (.aload_n 0, 1) := by decide +kernel
theorem dL_law_687 : decode cL_law 687 = .ok (.iload_n 3, 1) := by decide +kernel
theorem dL_law_688 : decode cL_law 688 = .ok (.iconst 2, 1) := by decide +kernel
theorem dL_law_689 : decode cL_law 689 = .ok (.iadd, 1) := by decide +kernel
theorem dL_law_690 : decode cL_law 690 = .ok (.iaload, 1) := by decide +kernel
theorem dL_law_691 : decode cL_law 691 = .ok (.invokevirtual 81, 3) := by decide +kernel
theorem dL_law_694 : decode cL_law 694 = .ok (.aload_n 2, 1) := by decide +kernel
theorem dL_law_695 : decode cL_law 695 = .ok (.aload_n 0, 1) := by decide +kernel
theorem dL_law_696 : decode cL_law 696 = .ok (.iload_n 3, 1) := by decide +kernel
theorem dL_law_697 : decode cL_law 697 = .ok (.iconst 1, 1) := by decide +kernel
theorem dL_law_698 : decode cL_law 698 = .ok (.iadd, 1) := by decide +kernel
theorem dL_law_699 : decode cL_law 699 = .ok (.iaload, 1) := by decide +kernel
theorem dL_law_700 : decode cL_law 700 = .ok (.aload_n 0, 1) := by decide +kernel
theorem dL_law_701 : decode cL_law 701 = .ok (.iload_n 3, 1) := by decide +kernel
theorem dL_law_702 : decode cL_law 702 = .ok (.iconst 2, 1) := by decide +kernel
theorem dL_law_703 : decode cL_law 703 = .ok (.iadd, 1) := by decide +kernel
theorem dL_law_704 : decode cL_law 704 = .ok (.iaload, 1) := by decide +kernel
theorem dL_law_705 : decode cL_law 705 = .ok (.invokevirtual 84, 3) := by decide +kernel
theorem dL_law_708 : decode cL_law 708 = .ok (.if_icmp .eq 61, 3) := by decide +kernel
theorem dL_law_711 : decode cL_law 711 = .ok (.iconst 0, 1) := by decide +kernel
theorem dL_law_712 : decode cL_law 712 = .ok (.ireturn, 1) := by decide +kernel
theorem dL_law_713 : decode cL_law 713 = .ok (.aload_n 1, 1) := by decide +kernel
theorem dL_law_714 : decode cL_law 714 = .ok (.aload_n 0, 1) := by decide +kernel
theorem dL_law_715 : decode cL_law 715 = .ok (.iload_n 3, 1) := by decide +kernel
theorem dL_law_716 : decode cL_law 716 = .ok (.iconst 1, 1) := by decide +kernel
theorem dL_law_717 : decode cL_law 717 = .ok (.iadd, 1) := by decide +kernel
theorem dL_law_718 : decode cL_law 718 = .ok (.iaload, 1) := by decide +kernel
theorem dL_law_719 : decode cL_law 719 = .ok (.aload_n 0, 1) := by decide +kernel
theorem dL_law_720 : decode cL_law 720 = .ok (.iload_n 3, 1) := by decide +kernel
theorem dL_law_721 : decode cL_law 721 = .ok (.iconst 2, 1) := by decide +kernel
theorem dL_law_722 : decode cL_law 722 = .ok (.iadd, 1) := by decide +kernel
theorem dL_law_723 : decode cL_law 723 = .ok (.iaload, 1) := by decide +kernel
theorem dL_law_724 : decode cL_law 724 = .ok (.invokevirtual 85, 3) := by decide +kernel
theorem dL_law_727 : decode cL_law 727 = .ok (.aload_n 2, 1) := by decide +kernel
theorem dL_law_728 : decode cL_law 728 = .ok (.aload_n 0, 1) := by decide +kernel
theorem dL_law_729 : decode cL_law 729 = .ok (.iload_n 3, 1) := by decide +kernel
theorem dL_law_730 : decode cL_law 730 = .ok (.iconst 1, 1) := by decide +kernel
theorem dL_law_731 : decode cL_law 731 = .ok (.iadd, 1) := by decide +kernel
theorem dL_law_732 : decode cL_law 732 = .ok (.iaload, 1) := by decide +kernel
theorem dL_law_733 : decode cL_law 733 = .ok (.aload_n 0, 1) := by decide +kernel
theorem dL_law_734 : decode cL_law 734 = .ok (.iload_n 3, 1) := by decide +kernel
theorem dL_law_735 : decode cL_law 735 = .ok (.iconst 2, 1) := by decide +kernel
theorem dL_law_736 : decode cL_law 736 = .ok (.iadd, 1) := by decide +kernel
theorem dL_law_737 : decode cL_law 737 = .ok (.iaload, 1) := by decide +kernel
theorem dL_law_738 : decode cL_law 738 = .ok (.invokevirtual 88, 3) := by decide +kernel
theorem dL_law_741 : decode cL_law 741 = .ok (.if_icmp .eq 28, 3) := by decide +kernel
theorem dL_law_744 : decode cL_law 744 = .ok (.iconst 0, 1) := by decide +kernel
theorem dL_law_745 : decode cL_law 745 = .ok (.ireturn, 1) := by decide +kernel
theorem dL_law_746 : decode cL_law 746 = .ok (.aload_n 1, 1) := by decide +kernel
theorem dL_law_747 : decode cL_law 747 = .ok (.aload_n 0, 1) := by decide +kernel
theorem dL_law_748 : decode cL_law 748 = .ok (.iload_n 3, 1) := by decide +kernel
theorem dL_law_749 : decode cL_law 749 = .ok (.iconst 1, 1) := by decide +kernel
theorem dL_law_750 : decode cL_law 750 = .ok (.iadd, 1) := by decide +kernel
theorem dL_law_751 : decode cL_law 751 = .ok (.iaload, 1) := by decide +kernel
theorem dL_law_752 : decode cL_law 752 = .ok (.invokevirtual 89, 3) := by decide +kernel
theorem dL_law_755 : decode cL_law 755 = .ok (.aload_n 2, 1) := by decide +kernel
theorem dL_law_756 : decode cL_law 756 = .ok (.aload_n 0, 1) := by decide +kernel
theorem dL_law_757 : decode cL_law 757 = .ok (.iload_n 3, 1) := by decide +kernel
theorem dL_law_758 : decode cL_law 758 = .ok (.iconst 1, 1) := by decide +kernel
theorem dL_law_759 : decode cL_law 759 = .ok (.iadd, 1) := by decide +kernel
theorem dL_law_760 : decode cL_law 760 = .ok (.iaload, 1) := by decide +kernel
theorem dL_law_761 : decode cL_law 761 = .ok (.invokevirtual 92, 3) := by decide +kernel
theorem dL_law_764 : decode cL_law 764 = .ok (.if_icmp .eq 5, 3) := by decide +kernel
theorem dL_law_767 : decode cL_law 767 = .ok (.iconst 0, 1) := by decide +kernel
theorem dL_law_768 : decode cL_law 768 = .ok (.ireturn, 1) := by decide +kernel
theorem dL_law_769 : decode cL_law 769 = .ok (.iinc 3 6, 3) := by decide +kernel
theorem dL_law_772 : decode cL_law 772 = .ok (.goto (-754), 3) := by decide +kernel
theorem dL_law_775 : decode cL_law 775 = .ok (.iconst 1, 1) := by decide +kernel
theorem dL_law_776 : decode cL_law 776 = .ok (.ireturn, 1) := by decide +kernel
