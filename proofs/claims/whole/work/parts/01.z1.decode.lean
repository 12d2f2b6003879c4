theorem dX0_init_0 : decode cX0_init 0 = .ok (.aload_n 0, 1) := by decide +kernel
theorem dX0_init_1 : decode cX0_init 1 = .ok (.invokespecial 1, 3) := by decide +kernel
theorem dX0_init_4 : decode cX0_init 4 = .ok (.aload_n 0, 1) := by decide +kernel
theorem dX0_init_5 : decode cX0_init 5 = .ok (.iload_n 1, 1) := by decide +kernel
theorem dX0_init_6 : decode cX0_init 6 = .ok (.putfield 7, 3) := by decide +kernel
theorem dX0_init_9 : decode cX0_init 9 = .ok (.aload_n 0, 1) := by decide +kernel
theorem dX0_init_10 : decode cX0_init 10 = .ok (.iload_n 2, 1) := by decide +kernel
theorem dX0_init_11 : decode cX0_init 11 = .ok (.putfield 13, 3) := by decide +kernel
theorem dX0_init_14 : decode cX0_init 14 = .ok (.aload_n 0, 1) := by decide +kernel
theorem dX0_init_15 : decode cX0_init 15 = .ok (.iload_n 3, 1) := by decide +kernel
theorem dX0_init_16 : decode cX0_init 16 = .ok (.putfield 16, 3) := by decide +kernel
theorem dX0_init_19 : decode cX0_init 19 = .ok (.aload_n 0, 1) := by decide +kernel
theorem dX0_init_20 : decode cX0_init 20 = .ok (.aload 4, 2) := by decide +kernel
theorem dX0_init_22 : decode cX0_init 22 = .ok (.putfield 19, 3) := by decide +kernel
theorem dX0_init_25 : decode cX0_init 25 = .ok (.return_, 1) := by decide +kernel
theorem dX1_init_0 : decode cX1_init 0 = .ok (.aload_n 0, 1) := by decide +kernel
theorem dX1_init_1 : decode cX1_init 1 = .ok (.invokespecial 3, 3) := by decide +kernel
theorem dX1_init_4 : decode cX1_init 4 = .ok (.return_, 1) := by decide +kernel
theorem dX1_renew_0 : decode cX1_renew 0 = .ok (.aload_n 0, 1) := by decide +kernel
theorem dX1_renew_1 : decode cX1_renew 1 = .ok (.aload_n 1, 1) := by decide +kernel
theorem dX1_renew_2 : decode cX1_renew 2 = .ok (.aload_n 2, 1) := by decide +kernel
theorem dX1_renew_3 : decode cX1_renew 3 = .ok (.invokevirtual 9, 3) := by decide +kernel
theorem dX1_renew_6 : decode cX1_renew 6 = .ok (.putfield 15, 3) := by decide +kernel
theorem dX1_renew_9 : decode cX1_renew 9 = .ok (.aload_n 0, 1) := by decide +kernel
theorem dX1_renew_10 : decode cX1_renew 10 = .ok (.aload_n 1, 1) := by decide +kernel
theorem dX1_renew_11 : decode cX1_renew 11 = .ok (.aload_n 0, 1) := by decide +kernel
theorem dX1_renew_12 : decode cX1_renew 12 = .ok (.getfield 15, 3) := by decide +kernel
theorem dX1_renew_15 : decode cX1_renew 15 = .ok (.invokevirtual 21, 3) := by decide +kernel
theorem dX1_renew_18 : decode cX1_renew 18 = .ok (.putfield 25, 3) := by decide +kernel
theorem dX1_renew_21 : decode cX1_renew 21 = .ok (.aload_n 0, 1) := by decide +kernel
theorem dX1_renew_22 : decode cX1_renew 22 = .ok (.aload_n 1, 1) := by decide +kernel
theorem dX1_renew_23 : decode cX1_renew 23 = .ok (.iconst 2, 1) := by decide +kernel
theorem dX1_renew_24 : decode cX1_renew 24 = .ok (.aload_n 0, 1) := by decide +kernel
theorem dX1_renew_25 : decode cX1_renew 25 = .ok (.getfield 25, 3) := by decide +kernel
theorem dX1_renew_28 : decode cX1_renew 28 = .ok (.invokevirtual 28, 3) := by decide +kernel
theorem dX1_renew_31 : decode cX1_renew 31 = .ok (.putfield 32, 3) := by decide +kernel
theorem dX1_renew_34 : decode cX1_renew 34 = .ok (.aload_n 0, 1) := by decide +kernel
theorem dX1_renew_35 : decode cX1_renew 35 = .ok (.aload_n 1, 1) := by decide +kernel
theorem dX1_renew_36 : decode cX1_renew 36 = .ok (.iconst 3, 1) := by decide +kernel
theorem dX1_renew_37 : decode cX1_renew 37 = .ok (.sipush 360, 3) := by decide +kernel
theorem dX1_renew_40 : decode cX1_renew 40 = .ok (.invokevirtual 36, 3) := by decide +kernel
theorem dX1_renew_43 : decode cX1_renew 43 = .ok (.putfield 40, 3) := by decide +kernel
theorem dX1_renew_46 : decode cX1_renew 46 = .ok (.aload_n 0, 1) := by decide +kernel
theorem dX1_renew_47 : decode cX1_renew 47 = .ok (.aload_n 1, 1) := by decide +kernel
theorem dX1_renew_48 : decode cX1_renew 48 = .ok (.aload_n 2, 1) := by decide +kernel
theorem dX1_renew_49 : decode cX1_renew 49 = .ok (.aload_n 0, 1) := by decide +kernel
theorem dX1_renew_50 : decode cX1_renew 50 = .ok (.iload_n 3, 1) := by decide +kernel
theorem dX1_renew_51 : decode cX1_renew 51 = .ok (.invokevirtual 43, 3) := by decide +kernel
theorem dX1_renew_54 : decode cX1_renew 54 = .ok (.invokevirtual 46, 3) := by decide +kernel
theorem dX1_renew_57 : decode cX1_renew 57 = .ok (.return_, 1) := by decide +kernel
theorem dX1_follow_0 : decode cX1_follow 0 = .ok (.aload_n 0, 1) := by decide +kernel
theorem dX1_follow_1 : decode cX1_follow 1 = .ok (.iload_n 3, 1) := by decide +kernel
theorem dX1_follow_2 : decode cX1_follow 2 = .ok (.invokevirtual 43, 3) := by decide +kernel
theorem dX1_follow_5 : decode cX1_follow 5 = .ok (.istore 4, 2) := by decide +kernel
theorem dX1_follow_7 : decode cX1_follow 7 = .ok (.iload 4, 2) := by decide +kernel
theorem dX1_follow_9 : decode cX1_follow 9 = .ok (.aload_n 0, 1) := by decide +kernel
theorem dX1_follow_10 : decode cX1_follow 10 = .ok (.getfield 50, 3) := by decide +kernel
theorem dX1_follow_13 : decode cX1_follow 13 = .ok (.if_icmp .eq 11, 3) := by decide +kernel
theorem dX1_follow_16 : decode cX1_follow 16 = .ok (.aload_n 0, 1) := by decide +kernel
theorem dX1_follow_17 : decode cX1_follow 17 = .ok (.aload_n 1, 1) := by decide +kernel
theorem dX1_follow_18 : decode cX1_follow 18 = .ok (.aload_n 2, 1) := by decide +kernel
theorem dX1_follow_19 : decode cX1_follow 19 = .ok (.iload 4, 2) := by decide +kernel
theorem dX1_follow_21 : decode cX1_follow 21 = .ok (.invokevirtual 46, 3) := by decide +kernel
theorem dX1_follow_24 : decode cX1_follow 24 = .ok (.return_, 1) := by decide +kernel
theorem dX1_daysToNextStep_0 : decode cX1_daysToNextStep 0 = .ok (.aload_n 0, 1) := by decide +kernel
theorem dX1_daysToNextStep_1 : decode cX1_daysToNextStep 1 = .ok (.getfield 32, 3) := by decide +kernel
theorem dX1_daysToNextStep_4 : decode cX1_daysToNextStep 4 = .ok (.ifnull 30, 3) := by decide +kernel
theorem dX1_daysToNextStep_7 : decode cX1_daysToNextStep 7 = .ok (.aload_n 0, 1) := by decide +kernel
theorem dX1_daysToNextStep_8 : decode cX1_daysToNextStep 8 = .ok (.getfield 40, 3) := by decide +kernel
theorem dX1_daysToNextStep_11 : decode cX1_daysToNextStep 11 = .ok (.ifCond .le 23, 3) := by decide +kernel
theorem dX1_daysToNextStep_14 : decode cX1_daysToNextStep 14 = .ok (.aload_n 0, 1) := by decide +kernel
theorem dX1_daysToNextStep_15 : decode cX1_daysToNextStep 15 = .ok (.getfield 50, 3) := by decide +kernel
theorem dX1_daysToNextStep_18 : decode cX1_daysToNextStep 18 = .ok (.aload_n 0, 1) := by decide +kernel
theorem dX1_daysToNextStep_19 : decode cX1_daysToNextStep 19 = .ok (.getfield 32, 3) := by decide +kernel
theorem dX1_daysToNextStep_22 : decode cX1_daysToNextStep 22 = .ok (.getfield 53, 3) := by decide +kernel
theorem dX1_daysToNextStep_25 : decode cX1_daysToNextStep 25 = .ok (.iconst 1, 1) := by decide +kernel
theorem dX1_daysToNextStep_26 : decode cX1_daysToNextStep 26 = .ok (.isub, 1) := by decide +kernel
theorem dX1_daysToNextStep_27 : decode cX1_daysToNextStep 27 = .ok (.if_icmp .ge 7, 3) := by decide +kernel
theorem dX1_daysToNextStep_30 : decode cX1_daysToNextStep 30 = .ok (.iconst 1, 1) := by decide +kernel
theorem dX1_daysToNextStep_31 : decode cX1_daysToNextStep 31 = .ok (.goto 4, 3) := by decide +kernel
theorem dX1_daysToNextStep_34 : decode cX1_daysToNextStep 34 = .ok (.iconst 0, 1) := by decide +kernel
theorem dX1_daysToNextStep_35 : decode cX1_daysToNextStep 35 = .ok (.istore_n 2, 1) := by decide +kernel
theorem dX1_daysToNextStep_36 : decode cX1_daysToNextStep 36 = .ok (.iload_n 2, 1) := by decide +kernel
theorem dX1_daysToNextStep_37 : decode cX1_daysToNextStep 37 = .ok (.ifCond .eq 17, 3) := by decide +kernel
theorem dX1_daysToNextStep_40 : decode cX1_daysToNextStep 40 = .ok (.aload_n 0, 1) := by decide +kernel
theorem dX1_daysToNextStep_41 : decode cX1_daysToNextStep 41 = .ok (.getfield 40, 3) := by decide +kernel
theorem dX1_daysToNextStep_44 : decode cX1_daysToNextStep 44 = .ok (.iload_n 1, 1) := by decide +kernel
theorem dX1_daysToNextStep_45 : decode cX1_daysToNextStep 45 = .ok (.aload_n 0, 1) := by decide +kernel
theorem dX1_daysToNextStep_46 : decode cX1_daysToNextStep 46 = .ok (.getfield 40, 3) := by decide +kernel
theorem dX1_daysToNextStep_49 : decode cX1_daysToNextStep 49 = .ok (.irem, 1) := by decide +kernel
theorem dX1_daysToNextStep_50 : decode cX1_daysToNextStep 50 = .ok (.isub, 1) := by decide +kernel
theorem dX1_daysToNextStep_51 : decode cX1_daysToNextStep 51 = .ok (.goto 6, 3) := by decide +kernel
theorem dX1_daysToNextStep_54 : decode cX1_daysToNextStep 54 = .ok (.sipush 1200, 3) := by decide +kernel
theorem dX1_daysToNextStep_57 : decode cX1_daysToNextStep 57 = .ok (.ireturn, 1) := by decide +kernel
theorem dX1_stepAfter_0 : decode cX1_stepAfter 0 = .ok (.aload_n 0, 1) := by decide +kernel
theorem dX1_stepAfter_1 : decode cX1_stepAfter 1 = .ok (.getfield 32, 3) := by decide +kernel
theorem dX1_stepAfter_4 : decode cX1_stepAfter 4 = .ok (.ifnull 10, 3) := by decide +kernel
theorem dX1_stepAfter_7 : decode cX1_stepAfter 7 = .ok (.aload_n 0, 1) := by decide +kernel
theorem dX1_stepAfter_8 : decode cX1_stepAfter 8 = .ok (.getfield 40, 3) := by decide +kernel
theorem dX1_stepAfter_11 : decode cX1_stepAfter 11 = .ok (.ifCond .gt 5, 3) := by decide +kernel
theorem dX1_stepAfter_14 : decode cX1_stepAfter 14 = .ok (.iconst (-1), 1) := by decide +kernel
theorem dX1_stepAfter_15 : decode cX1_stepAfter 15 = .ok (.ireturn, 1) := by decide +kernel
theorem dX1_stepAfter_16 : decode cX1_stepAfter 16 = .ok (.iload_n 1, 1) := by decide +kernel
theorem dX1_stepAfter_17 : decode cX1_stepAfter 17 = .ok (.aload_n 0, 1) := by decide +kernel
theorem dX1_stepAfter_18 : decode cX1_stepAfter 18 = .ok (.getfield 40, 3) := by decide +kernel
theorem dX1_stepAfter_21 : decode cX1_stepAfter 21 = .ok (.idiv, 1) := by decide +kernel
theorem dX1_stepAfter_22 : decode cX1_stepAfter 22 = .ok (.aload_n 0, 1) := by decide +kernel
theorem dX1_stepAfter_23 : decode cX1_stepAfter 23 = .ok (.getfield 32, 3) := by decide +kernel
theorem dX1_stepAfter_26 : decode cX1_stepAfter 26 = .ok (.getfield 53, 3) := by decide +kernel
theorem dX1_stepAfter_29 : decode cX1_stepAfter 29 = .ok (.iconst 1, 1) := by decide +kernel
theorem dX1_stepAfter_30 : decode cX1_stepAfter 30 = .ok (.isub, 1) := by decide +kernel
theorem dX1_stepAfter_31 : decode cX1_stepAfter 31 = .ok (.invokestatic 58, 3) := by decide +kernel
theorem dX1_stepAfter_34 : decode cX1_stepAfter 34 = .ok (.ireturn, 1) := by decide +kernel
theorem dX1_moveStep_0 : decode cX1_moveStep 0 = .ok (.aload_n 0, 1) := by decide +kernel
theorem dX1_moveStep_1 : decode cX1_moveStep 1 = .ok (.iload_n 3, 1) := by decide +kernel
theorem dX1_moveStep_2 : decode cX1_moveStep 2 = .ok (.putfield 50, 3) := by decide +kernel
theorem dX1_moveStep_5 : decode cX1_moveStep 5 = .ok (.aload_n 0, 1) := by decide +kernel
theorem dX1_moveStep_6 : decode cX1_moveStep 6 = .ok (.aload_n 0, 1) := by decide +kernel
theorem dX1_moveStep_7 : decode cX1_moveStep 7 = .ok (.getfield 32, 3) := by decide +kernel
theorem dX1_moveStep_10 : decode cX1_moveStep 10 = .ok (.ifnonnull 7, 3) := by decide +kernel
theorem dX1_moveStep_13 : decode cX1_moveStep 13 = .ok (.iconst 0, 1) := by decide +kernel
theorem dX1_moveStep_14 : decode cX1_moveStep 14 = .ok (.goto 11, 3) := by decide +kernel
theorem dX1_moveStep_17 : decode cX1_moveStep 17 = .ok (.aload_n 0, 1) := by decide +kernel
theorem dX1_moveStep_18 : decode cX1_moveStep 18 = .ok (.getfield 32, 3) := by decide +kernel
theorem dX1_moveStep_21 : decode cX1_moveStep 21 = .ok (.iload_n 3, 1) := by decide +kernel
theorem dX1_moveStep_22 : decode cX1_moveStep 22 = .ok (.invokevirtual 63, 3) := by decide +kernel
theorem dX1_moveStep_25 : decode cX1_moveStep 25 = .ok (.putfield 66, 3) := by decide +kernel
theorem dX1_moveStep_28 : decode cX1_moveStep 28 = .ok (.aload_n 0, 1) := by decide +kernel
theorem dX1_moveStep_29 : decode cX1_moveStep 29 = .ok (.aload_n 1, 1) := by decide +kernel
theorem dX1_moveStep_30 : decode cX1_moveStep 30 = .ok (.aload_n 0, 1) := by decide +kernel
theorem dX1_moveStep_31 : decode cX1_moveStep 31 = .ok (.getfield 66, 3) := by decide +kernel
theorem dX1_moveStep_34 : decode cX1_moveStep 34 = .ok (.aload_n 2, 1) := by decide +kernel
theorem dX1_moveStep_35 : decode cX1_moveStep 35 = .ok (.invokevirtual 69, 3) := by decide +kernel
theorem dX1_moveStep_38 : decode cX1_moveStep 38 = .ok (.putfield 73, 3) := by decide +kernel
theorem dX1_moveStep_41 : decode cX1_moveStep 41 = .ok (.return_, 1) := by decide +kernel
theorem dX2_init_0 : decode cX2_init 0 = .ok (.aload_n 0, 1) := by decide +kernel
theorem dX2_init_1 : decode cX2_init 1 = .ok (.invokespecial 3, 3) := by decide +kernel
theorem dX2_init_4 : decode cX2_init 4 = .ok (.aload_n 0, 1) := by decide +kernel
theorem dX2_init_5 : decode cX2_init 5 = .ok (.iconst (-1), 1) := by decide +kernel
theorem dX2_init_6 : decode cX2_init 6 = .ok (.putfield 9, 3) := by decide +kernel
theorem dX2_init_9 : decode cX2_init 9 = .ok (.aload_n 0, 1) := by decide +kernel
theorem dX2_init_10 : decode cX2_init 10 = .ok (.iload_n 1, 1) := by decide +kernel
theorem dX2_init_11 : decode cX2_init 11 = .ok (.putfield 15, 3) := by decide +kernel
theorem dX2_init_14 : decode cX2_init 14 = .ok (.aload_n 0, 1) := by decide +kernel
theorem dX2_init_15 : decode cX2_init 15 = .ok (.iload_n 2, 1) := by decide +kernel
theorem dX2_init_16 : decode cX2_init 16 = .ok (.putfield 18, 3) := by decide +kernel
theorem dX2_init_19 : decode cX2_init 19 = .ok (.aload_n 0, 1) := by decide +kernel
theorem dX2_init_20 : decode cX2_init 20 = .ok (.iload_n 1, 1) := by decide +kernel
theorem dX2_init_21 : decode cX2_init 21 = .ok (.iconst 2, 1) := by decide +kernel
theorem dX2_init_22 : decode cX2_init 22 = .ok (.if_icmp .ne 12, 3) := by decide +kernel
theorem dX2_init_25 : decode cX2_init 25 = .ok (.iload_n 2, 1) := by decide +kernel
theorem dX2_init_26 : decode cX2_init 26 = .ok (.ifCond .ne 8, 3) := by decide +kernel
theorem dX2_init_29 : decode cX2_init 29 = .ok (.bipush 8, 2) := by decide +kernel
theorem dX2_init_31 : decode cX2_init 31 = .ok (.goto 4, 3) := by decide +kernel
theorem dX2_init_34 : decode cX2_init 34 = .ok (.iconst 0, 1) := by decide +kernel
theorem dX2_init_35 : decode cX2_init 35 = .ok (.newarray .int, 2) := by decide +kernel
theorem dX2_init_37 : decode cX2_init 37 = .ok (.putfield 22, 3) := by decide +kernel
theorem dX2_init_40 : decode cX2_init 40 = .ok (.return_, 1) := by decide +kernel
theorem dX2_key_0 : decode cX2_key 0 = .ok (.aload_n 0, 1) := by decide +kernel
theorem dX2_key_1 : decode cX2_key 1 = .ok (.getfield 15, 3) := by decide +kernel
theorem dX2_key_4 : decode cX2_key 4 = .ok (.bipush 26, 2) := by decide +kernel
theorem dX2_key_6 : decode cX2_key 6 = .ok (.imul, 1) := by decide +kernel
theorem dX2_key_7 : decode cX2_key 7 = .ok (.aload_n 0, 1) := by decide +kernel
theorem dX2_key_8 : decode cX2_key 8 = .ok (.getfield 26, 3) := by decide +kernel
theorem dX2_key_11 : decode cX2_key 11 = .ok (.iadd, 1) := by decide +kernel
theorem dX2_key_12 : decode cX2_key 12 = .ok (.ireturn, 1) := by decide +kernel
theorem dX2_holds_0 : decode cX2_holds 0 = .ok (.aload_n 0, 1) := by decide +kernel
theorem dX2_holds_1 : decode cX2_holds 1 = .ok (.getfield 9, 3) := by decide +kernel
theorem dX2_holds_4 : decode cX2_holds 4 = .ok (.ifCond .lt 12, 3) := by decide +kernel
theorem dX2_holds_7 : decode cX2_holds 7 = .ok (.aload_n 0, 1) := by decide +kernel
theorem dX2_holds_8 : decode cX2_holds 8 = .ok (.getfield 9, 3) := by decide +kernel
theorem dX2_holds_11 : decode cX2_holds 11 = .ok (.aload_n 1, 1) := by decide +kernel
theorem dX2_holds_12 : decode cX2_holds 12 = .ok (.arraylength, 1) := by decide +kernel
theorem dX2_holds_13 : decode cX2_holds 13 = .ok (.if_icmp .lt 5, 3) := by decide +kernel
theorem dX2_holds_16 : decode cX2_holds 16 = .ok (.iconst 1, 1) := by decide +kernel
theorem dX2_holds_17 : decode cX2_holds 17 = .ok (.ireturn, 1) := by decide +kernel
theorem dX2_holds_18 : decode cX2_holds 18 = .ok (.aload_n 1, 1) := by decide +kernel
theorem dX2_holds_19 : decode cX2_holds 19 = .ok (.aload_n 0, 1) := by decide +kernel
theorem dX2_holds_20 : decode cX2_holds 20 = .ok (.getfield 9, 3) := by decide +kernel
theorem dX2_holds_23 : decode cX2_holds 23 = .ok (.iaload, 1) := by decide +kernel
theorem dX2_holds_24 : decode cX2_holds 24 = .ok (.istore_n 2, 1) := by decide +kernel
theorem dX2_holds_25 : decode cX2_holds 25 = .ok (.aload_n 0, 1) := by decide +kernel
theorem dX2_holds_26 : decode cX2_holds 26 = .ok (.getfield 29, 3) := by decide +kernel
theorem dX2_holds_29 : decode cX2_holds 29 = .ok (.bipush 60, 2) := by decide +kernel
theorem dX2_holds_31 : decode cX2_holds 31 = .ok (.if_icmp .ne 17, 3) := by decide +kernel
theorem dX2_holds_34 : decode cX2_holds 34 = .ok (.iload_n 2, 1) := by decide +kernel
theorem dX2_holds_35 : decode cX2_holds 35 = .ok (.aload_n 0, 1) := by decide +kernel
theorem dX2_holds_36 : decode cX2_holds 36 = .ok (.getfield 32, 3) := by decide +kernel
theorem dX2_holds_39 : decode cX2_holds 39 = .ok (.if_icmp .ge 7, 3) := by decide +kernel
theorem dX2_holds_42 : decode cX2_holds 42 = .ok (.iconst 1, 1) := by decide +kernel
theorem dX2_holds_43 : decode cX2_holds 43 = .ok (.goto 4, 3) := by decide +kernel
theorem dX2_holds_46 : decode cX2_holds 46 = .ok (.iconst 0, 1) := by decide +kernel
theorem dX2_holds_47 : decode cX2_holds 47 = .ok (.ireturn, 1) := by decide +kernel
theorem dX2_holds_48 : decode cX2_holds 48 = .ok (.aload_n 0, 1) := by decide +kernel
theorem dX2_holds_49 : decode cX2_holds 49 = .ok (.getfield 29, 3) := by decide +kernel
theorem dX2_holds_52 : decode cX2_holds 52 = .ok (.bipush 62, 2) := by decide +kernel
theorem dX2_holds_54 : decode cX2_holds 54 = .ok (.if_icmp .ne 19, 3) := by decide +kernel
theorem dX2_holds_57 : decode cX2_holds 57 = .ok (.iload_n 2, 1) := by decide +kernel
theorem dX2_holds_58 : decode cX2_holds 58 = .ok (.aload_n 0, 1) := by decide +kernel
theorem dX2_holds_59 : decode cX2_holds 59 = .ok (.getfield 32, 3) := by decide +kernel
theorem dX2_holds_62 : decode cX2_holds 62 = .ok (.if_icmp .le 7, 3) := by decide +kernel
theorem dX2_holds_65 : decode cX2_holds 65 = .ok (.iconst 1, 1) := by decide +kernel
theorem dX2_holds_66 : decode cX2_holds 66 = .ok (.goto 20, 3) := by decide +kernel
theorem dX2_holds_69 : decode cX2_holds 69 = .ok (.iconst 0, 1) := by decide +kernel
theorem dX2_holds_70 : decode cX2_holds 70 = .ok (.goto 16, 3) := by decide +kernel
theorem dX2_holds_73 : decode cX2_holds 73 = .ok (.iload_n 2, 1) := by decide +kernel
theorem dX2_holds_74 : decode cX2_holds 74 = .ok (.aload_n 0, 1) := by decide +kernel
theorem dX2_holds_75 : decode cX2_holds 75 = .ok (.getfield 32, 3) := by decide +kernel
theorem dX2_holds_78 : decode cX2_holds 78 = .ok (.if_icmp .ne 7, 3) := by decide +kernel
theorem dX2_holds_81 : decode cX2_holds 81 = .ok (.iconst 1, 1) := by decide +kernel
theorem dX2_holds_82 : decode cX2_holds 82 = .ok (.goto 4, 3) := by decide +kernel
theorem dX2_holds_85 : decode cX2_holds 85 = .ok (.iconst 0, 1) := by decide +kernel
theorem dX2_holds_86 : decode cX2_holds 86 = .ok (.ireturn, 1) := by decide +kernel
theorem dX2_addToScale_0 : decode cX2_addToScale 0 = .ok (.aload_n 0, 1) := by decide +kernel
theorem dX2_addToScale_1 : decode cX2_addToScale 1 = .ok (.getfield 35, 3) := by decide +kernel
theorem dX2_addToScale_4 : decode cX2_addToScale 4 = .ok (.aload_n 0, 1) := by decide +kernel
theorem dX2_addToScale_5 : decode cX2_addToScale 5 = .ok (.getfield 22, 3) := by decide +kernel
theorem dX2_addToScale_8 : decode cX2_addToScale 8 = .ok (.arraylength, 1) := by decide +kernel
theorem dX2_addToScale_9 : decode cX2_addToScale 9 = .ok (.if_icmp .ge 23, 3) := by decide +kernel
theorem dX2_addToScale_12 : decode cX2_addToScale 12 = .ok (.aload_n 0, 1) := by decide +kernel
theorem dX2_addToScale_13 : decode cX2_addToScale 13 = .ok (.getfield 22, 3) := by decide +kernel
theorem dX2_addToScale_16 : decode cX2_addToScale 16 = .ok (.aload_n 0, 1) := by decide +kernel
theorem dX2_addToScale_17 : decode cX2_addToScale 17 = .ok (.getfield 35, 3) := by decide +kernel
theorem dX2_addToScale_20 : decode cX2_addToScale 20 = .ok (.iload_n 1, 1) := by decide +kernel
theorem dX2_addToScale_21 : decode cX2_addToScale 21 = .ok (.iastore, 1) := by decide +kernel
theorem dX2_addToScale_22 : decode cX2_addToScale 22 = .ok (.aload_n 0, 1) := by decide +kernel
theorem dX2_addToScale_23 : decode cX2_addToScale 23 = .ok (.dup, 1) := by decide +kernel
theorem dX2_addToScale_24 : decode cX2_addToScale 24 = .ok (.getfield 35, 3) := by decide +kernel
theorem dX2_addToScale_27 : decode cX2_addToScale 27 = .ok (.iconst 1, 1) := by decide +kernel
theorem dX2_addToScale_28 : decode cX2_addToScale 28 = .ok (.iadd, 1) := by decide +kernel
theorem dX2_addToScale_29 : decode cX2_addToScale 29 = .ok (.putfield 35, 3) := by decide +kernel
theorem dX2_addToScale_32 : decode cX2_addToScale 32 = .ok (.return_, 1) := by decide +kernel
theorem dX2_scaleNumber_0 : decode cX2_scaleNumber 0 = .ok (.iload_n 1, 1) := by decide +kernel
theorem dX2_scaleNumber_1 : decode cX2_scaleNumber 1 = .ok (.ifCond .lt 29, 3) := by decide +kernel
theorem dX2_scaleNumber_4 : decode cX2_scaleNumber 4 = .ok (.iload_n 1, 1) := by decide +kernel
theorem dX2_scaleNumber_5 : decode cX2_scaleNumber 5 = .ok (.aload_n 0, 1) := by decide +kernel
theorem dX2_scaleNumber_6 : decode cX2_scaleNumber 6 = .ok (.getfield 35, 3) := by decide +kernel
theorem dX2_scaleNumber_9 : decode cX2_scaleNumber 9 = .ok (.if_icmp .ge 21, 3) := by decide +kernel
theorem dX2_scaleNumber_12 : decode cX2_scaleNumber 12 = .ok (.iload_n 1, 1) := by decide +kernel
theorem dX2_scaleNumber_13 : decode cX2_scaleNumber 13 = .ok (.aload_n 0, 1) := by decide +kernel
theorem dX2_scaleNumber_14 : decode cX2_scaleNumber 14 = .ok (.getfield 22, 3) := by decide +kernel
theorem dX2_scaleNumber_17 : decode cX2_scaleNumber 17 = .ok (.arraylength, 1) := by decide +kernel
theorem dX2_scaleNumber_18 : decode cX2_scaleNumber 18 = .ok (.if_icmp .ge 12, 3) := by decide +kernel
theorem dX2_scaleNumber_21 : decode cX2_scaleNumber 21 = .ok (.aload_n 0, 1) := by decide +kernel
theorem dX2_scaleNumber_22 : decode cX2_scaleNumber 22 = .ok (.getfield 22, 3) := by decide +kernel
theorem dX2_scaleNumber_25 : decode cX2_scaleNumber 25 = .ok (.iload_n 1, 1) := by decide +kernel
theorem dX2_scaleNumber_26 : decode cX2_scaleNumber 26 = .ok (.iaload, 1) := by decide +kernel
theorem dX2_scaleNumber_27 : decode cX2_scaleNumber 27 = .ok (.goto 4, 3) := by decide +kernel
theorem dX2_scaleNumber_30 : decode cX2_scaleNumber 30 = .ok (.iconst 0, 1) := by decide +kernel
theorem dX2_scaleNumber_31 : decode cX2_scaleNumber 31 = .ok (.ireturn, 1) := by decide +kernel
theorem dX3_init_0 : decode cX3_init 0 = .ok (.aload_n 0, 1) := by decide +kernel
theorem dX3_init_1 : decode cX3_init 1 = .ok (.invokespecial 1, 3) := by decide +kernel
theorem dX3_init_4 : decode cX3_init 4 = .ok (.aload_n 0, 1) := by decide +kernel
theorem dX3_init_5 : decode cX3_init 5 = .ok (.iload_n 1, 1) := by decide +kernel
theorem dX3_init_6 : decode cX3_init 6 = .ok (.putfield 7, 3) := by decide +kernel
theorem dX3_init_9 : decode cX3_init 9 = .ok (.aload_n 0, 1) := by decide +kernel
theorem dX3_init_10 : decode cX3_init 10 = .ok (.iload_n 2, 1) := by decide +kernel
theorem dX3_init_11 : decode cX3_init 11 = .ok (.putfield 13, 3) := by decide +kernel
theorem dX3_init_14 : decode cX3_init 14 = .ok (.aload_n 0, 1) := by decide +kernel
theorem dX3_init_15 : decode cX3_init 15 = .ok (.iload_n 3, 1) := by decide +kernel
theorem dX3_init_16 : decode cX3_init 16 = .ok (.putfield 16, 3) := by decide +kernel
theorem dX3_init_19 : decode cX3_init 19 = .ok (.aload_n 0, 1) := by decide +kernel
theorem dX3_init_20 : decode cX3_init 20 = .ok (.iload 4, 2) := by decide +kernel
theorem dX3_init_22 : decode cX3_init 22 = .ok (.putfield 19, 3) := by decide +kernel
theorem dX3_init_25 : decode cX3_init 25 = .ok (.aload_n 0, 1) := by decide +kernel
theorem dX3_init_26 : decode cX3_init 26 = .ok (.iload 5, 2) := by decide +kernel
theorem dX3_init_28 : decode cX3_init 28 = .ok (.putfield 22, 3) := by decide +kernel
theorem dX3_init_31 : decode cX3_init 31 = .ok (.return_, 1) := by decide +kernel
theorem dX4_init_0 : decode cX4_init 0 = .ok (.aload_n 0, 1) := by decide +kernel
theorem dX4_init_1 : decode cX4_init 1 = .ok (.invokespecial 3, 3) := by decide +kernel
theorem dX4_init_4 : decode cX4_init 4 = .ok (.aload_n 0, 1) := by decide +kernel
theorem dX4_init_5 : decode cX4_init 5 = .ok (.sipush 156, 3) := by decide +kernel
theorem dX4_init_8 : decode cX4_init 8 = .ok (.newarray .boolean, 2) := by decide +kernel
theorem dX4_init_10 : decode cX4_init 10 = .ok (.putfield 9, 3) := by decide +kernel
theorem dX4_init_13 : decode cX4_init 13 = .ok (.aload_n 0, 1) := by decide +kernel
theorem dX4_init_14 : decode cX4_init 14 = .ok (.iconst (-1), 1) := by decide +kernel
theorem dX4_init_15 : decode cX4_init 15 = .ok (.putfield 15, 3) := by decide +kernel
theorem dX4_init_18 : decode cX4_init 18 = .ok (.aload_n 0, 1) := by decide +kernel
theorem dX4_init_19 : decode cX4_init 19 = .ok (.aload_n 1, 1) := by decide +kernel
theorem dX4_init_20 : decode cX4_init 20 = .ok (.putfield 19, 3) := by decide +kernel
theorem dX4_init_23 : decode cX4_init 23 = .ok (.return_, 1) := by decide +kernel
theorem dX4_read_0 : decode cX4_read 0 = .ok (.new 23, 3) := by decide +kernel
theorem dX4_read_3 : decode cX4_read 3 = .ok (.dup, 1) := by decide +kernel
theorem dX4_read_4 : decode cX4_read 4 = .ok (.invokespecial 25, 3) := by decide +kernel
theorem dX4_read_7 : decode cX4_read 7 = .ok (.astore_n 2, 1) := by decide +kernel
theorem dX4_read_8 : decode cX4_read 8 = .ok (.aload_n 0, 1) := by decide +kernel
theorem dX4_read_9 : decode cX4_read 9 = .ok (.iload_n 1, 1) := by decide +kernel
theorem dX4_read_10 : decode cX4_read 10 = .ok (.invokevirtual 26, 3) := by decide +kernel
theorem dX4_read_13 : decode cX4_read 13 = .ok (.iconst 0, 1) := by decide +kernel
theorem dX4_read_14 : decode cX4_read 14 = .ok (.istore_n 3, 1) := by decide +kernel
theorem dX4_read_15 : decode cX4_read 15 = .ok (.iload_n 3, 1) := by decide +kernel
theorem dX4_read_16 : decode cX4_read 16 = .ok (.bipush 40, 2) := by decide +kernel
theorem dX4_read_18 : decode cX4_read 18 = .ok (.if_icmp .gt 94, 3) := by decide +kernel
theorem dX4_read_21 : decode cX4_read 21 = .ok (.aload_n 0, 1) := by decide +kernel
theorem dX4_read_22 : decode cX4_read 22 = .ok (.getfield 30, 3) := by decide +kernel
theorem dX4_read_25 : decode cX4_read 25 = .ok (.ifCond .ne 87, 3) := by decide +kernel
theorem dX4_read_28 : decode cX4_read 28 = .ok (.aload_n 0, 1) := by decide +kernel
theorem dX4_read_29 : decode cX4_read 29 = .ok (.getfield 33, 3) := by decide +kernel
theorem dX4_read_32 : decode cX4_read 32 = .ok (.sipush 259, 3) := by decide +kernel
theorem dX4_read_35 : decode cX4_read 35 = .ok (.if_icmp .eq 77, 3) := by decide +kernel
theorem dX4_read_38 : decode cX4_read 38 = .ok (.aload_n 0, 1) := by decide +kernel
theorem dX4_read_39 : decode cX4_read 39 = .ok (.getfield 36, 3) := by decide +kernel
theorem dX4_read_42 : decode cX4_read 42 = .ok (.istore 4, 2) := by decide +kernel
theorem dX4_read_44 : decode cX4_read 44 = .ok (.aload_n 0, 1) := by decide +kernel
theorem dX4_read_45 : decode cX4_read 45 = .ok (.aload_n 2, 1) := by decide +kernel
theorem dX4_read_46 : decode cX4_read 46 = .ok (.invokevirtual 39, 3) := by decide +kernel
theorem dX4_read_49 : decode cX4_read 49 = .ok (.invokevirtual 43, 3) := by decide +kernel
theorem dX4_read_52 : decode cX4_read 52 = .ok (.istore 5, 2) := by decide +kernel
theorem dX4_read_54 : decode cX4_read 54 = .ok (.iload 5, 2) := by decide +kernel
theorem dX4_read_56 : decode cX4_read 56 = .ok (.iconst (-1), 1) := by decide +kernel
theorem dX4_read_57 : decode cX4_read 57 = .ok (.if_icmp .eq 49, 3) := by decide +kernel
theorem dX4_read_60 : decode cX4_read 60 = .ok (.iload 5, 2) := by decide +kernel
theorem dX4_read_62 : decode cX4_read 62 = .ok (.bipush 6, 2) := by decide +kernel
theorem dX4_read_64 : decode cX4_read 64 = .ok (.if_icmp .ne 10, 3) := by decide +kernel
theorem dX4_read_67 : decode cX4_read 67 = .ok (.aload_n 0, 1) := by decide +kernel
theorem dX4_read_68 : decode cX4_read 68 = .ok (.invokevirtual 47, 3) := by decide +kernel
theorem dX4_read_71 : decode cX4_read 71 = .ok (.goto 9, 3) := by decide +kernel
theorem dX4_read_74 : decode cX4_read 74 = .ok (.aload_n 0, 1) := by decide +kernel
theorem dX4_read_75 : decode cX4_read 75 = .ok (.iload 5, 2) := by decide +kernel
theorem dX4_read_77 : decode cX4_read 77 = .ok (.invokevirtual 51, 3) := by decide +kernel
theorem dX4_read_80 : decode cX4_read 80 = .ok (.astore 6, 2) := by decide +kernel
theorem dX4_read_82 : decode cX4_read 82 = .ok (.aload_n 0, 1) := by decide +kernel
theorem dX4_read_83 : decode cX4_read 83 = .ok (.aload 6, 2) := by decide +kernel
theorem dX4_read_85 : decode cX4_read 85 = .ok (.invokevirtual 55, 3) := by decide +kernel
theorem dX4_read_88 : decode cX4_read 88 = .ok (.iload 4, 2) := by decide +kernel
theorem dX4_read_90 : decode cX4_read 90 = .ok (.invokevirtual 60, 3) := by decide +kernel
theorem dX4_read_93 : decode cX4_read 93 = .ok (.aload_n 0, 1) := by decide +kernel
theorem dX4_read_94 : decode cX4_read 94 = .ok (.bipush 59, 2) := by decide +kernel
theorem dX4_read_96 : decode cX4_read 96 = .ok (.invokevirtual 64, 3) := by decide +kernel
theorem dX4_read_99 : decode cX4_read 99 = .ok (.aload_n 2, 1) := by decide +kernel
theorem dX4_read_100 : decode cX4_read 100 = .ok (.aload 6, 2) := by decide +kernel
theorem dX4_read_102 : decode cX4_read 102 = .ok (.invokevirtual 67, 3) := by decide +kernel
theorem dX4_read_105 : decode cX4_read 105 = .ok (.pop, 1) := by decide +kernel
theorem dX4_read_106 : decode cX4_read 106 = .ok (.iinc 3 1, 3) := by decide +kernel
theorem dX4_read_109 : decode cX4_read 109 = .ok (.goto (-94), 3) := by decide +kernel
theorem dX4_read_112 : decode cX4_read 112 = .ok (.aload_n 2, 1) := by decide +kernel
theorem dX4_read_113 : decode cX4_read 113 = .ok (.areturn, 1) := by decide +kernel
theorem dX4_begin_0 : decode cX4_begin 0 = .ok (.aload_n 0, 1) := by decide +kernel
theorem dX4_begin_1 : decode cX4_begin 1 = .ok (.iload_n 1, 1) := by decide +kernel
theorem dX4_begin_2 : decode cX4_begin 2 = .ok (.putfield 71, 3) := by decide +kernel
theorem dX4_begin_5 : decode cX4_begin 5 = .ok (.aload_n 0, 1) := by decide +kernel
theorem dX4_begin_6 : decode cX4_begin 6 = .ok (.iconst 0, 1) := by decide +kernel
theorem dX4_begin_7 : decode cX4_begin 7 = .ok (.putfield 74, 3) := by decide +kernel
theorem dX4_begin_10 : decode cX4_begin 10 = .ok (.aload_n 0, 1) := by decide +kernel
theorem dX4_begin_11 : decode cX4_begin 11 = .ok (.iconst 0, 1) := by decide +kernel
theorem dX4_begin_12 : decode cX4_begin 12 = .ok (.putfield 30, 3) := by decide +kernel
theorem dX4_begin_15 : decode cX4_begin 15 = .ok (.aload_n 0, 1) := by decide +kernel
theorem dX4_begin_16 : decode cX4_begin 16 = .ok (.iconst (-1), 1) := by decide +kernel
theorem dX4_begin_17 : decode cX4_begin 17 = .ok (.putfield 15, 3) := by decide +kernel
theorem dX4_begin_20 : decode cX4_begin 20 = .ok (.iconst 0, 1) := by decide +kernel
theorem dX4_begin_21 : decode cX4_begin 21 = .ok (.istore_n 2, 1) := by decide +kernel
theorem dX4_begin_22 : decode cX4_begin 22 = .ok (.iload_n 2, 1) := by decide +kernel
theorem dX4_begin_23 : decode cX4_begin 23 = .ok (.aload_n 0, 1) := by decide +kernel
theorem dX4_begin_24 : decode cX4_begin 24 = .ok (.getfield 9, 3) := by decide +kernel
theorem dX4_begin_27 : decode cX4_begin 27 = .ok (.arraylength, 1) := by decide +kernel
theorem dX4_begin_28 : decode cX4_begin 28 = .ok (.if_icmp .ge 16, 3) := by decide +kernel
theorem dX4_begin_31 : decode cX4_begin 31 = .ok (.aload_n 0, 1) := by decide +kernel
theorem dX4_begin_32 : decode cX4_begin 32 = .ok (.getfield 9, 3) := by decide +kernel
theorem dX4_begin_35 : decode cX4_begin 35 = .ok (.iload_n 2, 1) := by decide +kernel
theorem dX4_begin_36 : decode cX4_begin 36 = .ok (.iconst 0, 1) := by decide +kernel
theorem dX4_begin_37 : decode cX4_begin 37 = .ok (.bastore, 1) := by decide +kernel
theorem dX4_begin_38 : decode cX4_begin 38 = .ok (.iinc 2 1, 3) := by decide +kernel
theorem dX4_begin_41 : decode cX4_begin 41 = .ok (.goto (-19), 3) := by decide +kernel
theorem dX4_begin_44 : decode cX4_begin 44 = .ok (.aload_n 0, 1) := by decide +kernel
theorem dX4_begin_45 : decode cX4_begin 45 = .ok (.invokevirtual 77, 3) := by decide +kernel
theorem dX4_begin_48 : decode cX4_begin 48 = .ok (.return_, 1) := by decide +kernel
theorem dX4_takeFirstWord_0 : decode cX4_takeFirstWord 0 = .ok (.aload_n 0, 1) := by decide +kernel
theorem dX4_takeFirstWord_1 : decode cX4_takeFirstWord 1 = .ok (.invokevirtual 80, 3) := by decide +kernel
theorem dX4_takeFirstWord_4 : decode cX4_takeFirstWord 4 = .ok (.istore_n 2, 1) := by decide +kernel
theorem dX4_takeFirstWord_5 : decode cX4_takeFirstWord 5 = .ok (.iload_n 2, 1) := by decide +kernel
theorem dX4_takeFirstWord_6 : decode cX4_takeFirstWord 6 = .ok (.iconst (-1), 1) := by decide +kernel
theorem dX4_takeFirstWord_7 : decode cX4_takeFirstWord 7 = .ok (.if_icmp .ne 14, 3) := by decide +kernel
theorem dX4_takeFirstWord_10 : decode cX4_takeFirstWord 10 = .ok (.aload_n 0, 1) := by decide +kernel
theorem dX4_takeFirstWord_11 : decode cX4_takeFirstWord 11 = .ok (.iconst 1, 1) := by decide +kernel
theorem dX4_takeFirstWord_12 : decode cX4_takeFirstWord 12 = .ok (.aload_n 0, 1) := by decide +kernel
theorem dX4_takeFirstWord_13 : decode cX4_takeFirstWord 13 = .ok (.getfield 36, 3) := by decide +kernel
theorem dX4_takeFirstWord_16 : decode cX4_takeFirstWord 16 = .ok (.invokevirtual 83, 3) := by decide +kernel
theorem dX4_takeFirstWord_19 : decode cX4_takeFirstWord 19 = .ok (.iconst (-1), 1) := by decide +kernel
theorem dX4_takeFirstWord_20 : decode cX4_takeFirstWord 20 = .ok (.ireturn, 1) := by decide +kernel
theorem dX4_takeFirstWord_21 : decode cX4_takeFirstWord 21 = .ok (.iload_n 1, 1) := by decide +kernel
theorem dX4_takeFirstWord_22 : decode cX4_takeFirstWord 22 = .ok (.bipush 40, 2) := by decide +kernel
theorem dX4_takeFirstWord_24 : decode cX4_takeFirstWord 24 = .ok (.if_icmp .lt 14, 3) := by decide +kernel
theorem dX4_takeFirstWord_27 : decode cX4_takeFirstWord 27 = .ok (.aload_n 0, 1) := by decide +kernel
theorem dX4_takeFirstWord_28 : decode cX4_takeFirstWord 28 = .ok (.iconst 2, 1) := by decide +kernel
theorem dX4_takeFirstWord_29 : decode cX4_takeFirstWord 29 = .ok (.aload_n 0, 1) := by decide +kernel
theorem dX4_takeFirstWord_30 : decode cX4_takeFirstWord 30 = .ok (.getfield 36, 3) := by decide +kernel
theorem dX4_takeFirstWord_33 : decode cX4_takeFirstWord 33 = .ok (.invokevirtual 83, 3) := by decide +kernel
theorem dX4_takeFirstWord_36 : decode cX4_takeFirstWord 36 = .ok (.iconst (-1), 1) := by decide +kernel
theorem dX4_takeFirstWord_37 : decode cX4_takeFirstWord 37 = .ok (.ireturn, 1) := by decide +kernel
theorem dX4_takeFirstWord_38 : decode cX4_takeFirstWord 38 = .ok (.aload_n 0, 1) := by decide +kernel
theorem dX4_takeFirstWord_39 : decode cX4_takeFirstWord 39 = .ok (.invokevirtual 77, 3) := by decide +kernel
theorem dX4_takeFirstWord_42 : decode cX4_takeFirstWord 42 = .ok (.iload_n 2, 1) := by decide +kernel
theorem dX4_takeFirstWord_43 : decode cX4_takeFirstWord 43 = .ok (.ireturn, 1) := by decide +kernel
theorem dX4_readEnd_0 : decode cX4_readEnd 0 = .ok (.aload_n 0, 1) := by decide +kernel
theorem dX4_readEnd_1 : decode cX4_readEnd 1 = .ok (.invokevirtual 80, 3) := by decide +kernel
theorem dX4_readEnd_4 : decode cX4_readEnd 4 = .ok (.istore_n 1, 1) := by decide +kernel
theorem dX4_readEnd_5 : decode cX4_readEnd 5 = .ok (.iload_n 1, 1) := by decide +kernel
theorem dX4_readEnd_6 : decode cX4_readEnd 6 = .ok (.ifCond .eq 29, 3) := by decide +kernel
theorem dX4_readEnd_9 : decode cX4_readEnd 9 = .ok (.iload_n 1, 1) := by decide +kernel
theorem dX4_readEnd_10 : decode cX4_readEnd 10 = .ok (.iconst 1, 1) := by decide +kernel
theorem dX4_readEnd_11 : decode cX4_readEnd 11 = .ok (.if_icmp .eq 24, 3) := by decide +kernel
theorem dX4_readEnd_14 : decode cX4_readEnd 14 = .ok (.iload_n 1, 1) := by decide +kernel
theorem dX4_readEnd_15 : decode cX4_readEnd 15 = .ok (.iconst 2, 1) := by decide +kernel
theorem dX4_readEnd_16 : decode cX4_readEnd 16 = .ok (.if_icmp .eq 19, 3) := by decide +kernel
theorem dX4_readEnd_19 : decode cX4_readEnd 19 = .ok (.iload_n 1, 1) := by decide +kernel
theorem dX4_readEnd_20 : decode cX4_readEnd 20 = .ok (.iconst 5, 1) := by decide +kernel
theorem dX4_readEnd_21 : decode cX4_readEnd 21 = .ok (.if_icmp .eq 14, 3) := by decide +kernel
theorem dX4_readEnd_24 : decode cX4_readEnd 24 = .ok (.aload_n 0, 1) := by decide +kernel
theorem dX4_readEnd_25 : decode cX4_readEnd 25 = .ok (.iconst 1, 1) := by decide +kernel
theorem dX4_readEnd_26 : decode cX4_readEnd 26 = .ok (.aload_n 0, 1) := by decide +kernel
theorem dX4_readEnd_27 : decode cX4_readEnd 27 = .ok (.getfield 36, 3) := by decide +kernel
theorem dX4_readEnd_30 : decode cX4_readEnd 30 = .ok (.invokevirtual 83, 3) := by decide +kernel
theorem dX4_readEnd_33 : decode cX4_readEnd 33 = .ok (.iconst 0, 1) := by decide +kernel
theorem dX4_readEnd_34 : decode cX4_readEnd 34 = .ok (.istore_n 1, 1) := by decide +kernel
theorem dX4_readEnd_35 : decode cX4_readEnd 35 = .ok (.aload_n 0, 1) := by decide +kernel
theorem dX4_readEnd_36 : decode cX4_readEnd 36 = .ok (.invokevirtual 77, 3) := by decide +kernel
theorem dX4_readEnd_39 : decode cX4_readEnd 39 = .ok (.new 56, 3) := by decide +kernel
theorem dX4_readEnd_42 : decode cX4_readEnd 42 = .ok (.dup, 1) := by decide +kernel
theorem dX4_readEnd_43 : decode cX4_readEnd 43 = .ok (.iload_n 1, 1) := by decide +kernel
theorem dX4_readEnd_44 : decode cX4_readEnd 44 = .ok (.iconst 1, 1) := by decide +kernel
theorem dX4_readEnd_45 : decode cX4_readEnd 45 = .ok (.invokespecial 86, 3) := by decide +kernel
theorem dX4_readEnd_48 : decode cX4_readEnd 48 = .ok (.astore_n 2, 1) := by decide +kernel
theorem dX4_readEnd_49 : decode cX4_readEnd 49 = .ok (.aload_n 2, 1) := by decide +kernel
theorem dX4_readEnd_50 : decode cX4_readEnd 50 = .ok (.aload_n 0, 1) := by decide +kernel
theorem dX4_readEnd_51 : decode cX4_readEnd 51 = .ok (.bipush 97, 2) := by decide +kernel
theorem dX4_readEnd_53 : decode cX4_readEnd 53 = .ok (.bipush 122, 2) := by decide +kernel
theorem dX4_readEnd_55 : decode cX4_readEnd 55 = .ok (.invokevirtual 89, 3) := by decide +kernel
theorem dX4_readEnd_58 : decode cX4_readEnd 58 = .ok (.putfield 93, 3) := by decide +kernel
theorem dX4_readEnd_61 : decode cX4_readEnd 61 = .ok (.aload_n 2, 1) := by decide +kernel
theorem dX4_readEnd_62 : decode cX4_readEnd 62 = .ok (.areturn, 1) := by decide +kernel
theorem dX4_readBody_0 : decode cX4_readBody 0 = .ok (.new 56, 3) := by decide +kernel
theorem dX4_readBody_3 : decode cX4_readBody 3 = .ok (.dup, 1) := by decide +kernel
theorem dX4_readBody_4 : decode cX4_readBody 4 = .ok (.iload_n 1, 1) := by decide +kernel
theorem dX4_readBody_5 : decode cX4_readBody 5 = .ok (.iconst 0, 1) := by decide +kernel
theorem dX4_readBody_6 : decode cX4_readBody 6 = .ok (.invokespecial 86, 3) := by decide +kernel
theorem dX4_readBody_9 : decode cX4_readBody 9 = .ok (.astore_n 2, 1) := by decide +kernel
theorem dX4_readBody_10 : decode cX4_readBody 10 = .ok (.iload_n 1, 1) := by decide +kernel
theorem dX4_readBody_11 : decode cX4_readBody 11 = .ok (.iconst 3, 1) := by decide +kernel
theorem dX4_readBody_12 : decode cX4_readBody 12 = .ok (.if_icmp .eq 20, 3) := by decide +kernel
theorem dX4_readBody_15 : decode cX4_readBody 15 = .ok (.iload_n 1, 1) := by decide +kernel
theorem dX4_readBody_16 : decode cX4_readBody 16 = .ok (.iconst 4, 1) := by decide +kernel
theorem dX4_readBody_17 : decode cX4_readBody 17 = .ok (.if_icmp .eq 15, 3) := by decide +kernel
theorem dX4_readBody_20 : decode cX4_readBody 20 = .ok (.aload_n 2, 1) := by decide +kernel
theorem dX4_readBody_21 : decode cX4_readBody 21 = .ok (.aload_n 0, 1) := by decide +kernel
theorem dX4_readBody_22 : decode cX4_readBody 22 = .ok (.bipush 97, 2) := by decide +kernel
theorem dX4_readBody_24 : decode cX4_readBody 24 = .ok (.bipush 122, 2) := by decide +kernel
theorem dX4_readBody_26 : decode cX4_readBody 26 = .ok (.invokevirtual 89, 3) := by decide +kernel
theorem dX4_readBody_29 : decode cX4_readBody 29 = .ok (.putfield 93, 3) := by decide +kernel
theorem dX4_readBody_32 : decode cX4_readBody 32 = .ok (.iload_n 1, 1) := by decide +kernel
theorem dX4_readBody_33 : decode cX4_readBody 33 = .ok (.tableswitch 105 0 4 #[35, 57, 72, 86, 94], 35) := by decide +kernel
theorem dX4_readBody_68 : decode cX4_readBody 68 = .ok (.aload_n 0, 1) := by decide +kernel
theorem dX4_readBody_69 : decode cX4_readBody 69 = .ok (.aload_n 2, 1) := by decide +kernel
theorem dX4_readBody_70 : decode cX4_readBody 70 = .ok (.invokevirtual 96, 3) := by decide +kernel
theorem dX4_readBody_73 : decode cX4_readBody 73 = .ok (.aload_n 0, 1) := by decide +kernel
theorem dX4_readBody_74 : decode cX4_readBody 74 = .ok (.bipush 61, 2) := by decide +kernel
theorem dX4_readBody_76 : decode cX4_readBody 76 = .ok (.invokevirtual 64, 3) := by decide +kernel
theorem dX4_readBody_79 : decode cX4_readBody 79 = .ok (.aload_n 2, 1) := by decide +kernel
theorem dX4_readBody_80 : decode cX4_readBody 80 = .ok (.aload_n 0, 1) := by decide +kernel
theorem dX4_readBody_81 : decode cX4_readBody 81 = .ok (.invokevirtual 100, 3) := by decide +kernel
theorem dX4_readBody_84 : decode cX4_readBody 84 = .ok (.putfield 103, 3) := by decide +kernel
theorem dX4_readBody_87 : decode cX4_readBody 87 = .ok (.goto 77, 3) := by decide +kernel
theorem dX4_readBody_90 : decode cX4_readBody 90 = .ok (.aload_n 0, 1) := by decide +kernel
theorem dX4_readBody_91 : decode cX4_readBody 91 = .ok (.invokevirtual 106, 3) := by decide +kernel
theorem dX4_readBody_94 : decode cX4_readBody 94 = .ok (.aload_n 2, 1) := by decide +kernel
theorem dX4_readBody_95 : decode cX4_readBody 95 = .ok (.aload_n 0, 1) := by decide +kernel
theorem dX4_readBody_96 : decode cX4_readBody 96 = .ok (.invokevirtual 100, 3) := by decide +kernel
theorem dX4_readBody_99 : decode cX4_readBody 99 = .ok (.putfield 103, 3) := by decide +kernel
theorem dX4_readBody_102 : decode cX4_readBody 102 = .ok (.goto 62, 3) := by decide +kernel
theorem dX4_readBody_105 : decode cX4_readBody 105 = .ok (.aload_n 0, 1) := by decide +kernel
theorem dX4_readBody_106 : decode cX4_readBody 106 = .ok (.bipush 58, 2) := by decide +kernel
theorem dX4_readBody_108 : decode cX4_readBody 108 = .ok (.invokevirtual 64, 3) := by decide +kernel
theorem dX4_readBody_111 : decode cX4_readBody 111 = .ok (.aload_n 0, 1) := by decide +kernel
theorem dX4_readBody_112 : decode cX4_readBody 112 = .ok (.aload_n 2, 1) := by decide +kernel
theorem dX4_readBody_113 : decode cX4_readBody 113 = .ok (.invokevirtual 109, 3) := by decide +kernel
theorem dX4_readBody_116 : decode cX4_readBody 116 = .ok (.goto 48, 3) := by decide +kernel
theorem dX4_readBody_119 : decode cX4_readBody 119 = .ok (.aload_n 0, 1) := by decide +kernel
theorem dX4_readBody_120 : decode cX4_readBody 120 = .ok (.aload_n 2, 1) := by decide +kernel
theorem dX4_readBody_121 : decode cX4_readBody 121 = .ok (.invokevirtual 112, 3) := by decide +kernel
theorem dX4_readBody_124 : decode cX4_readBody 124 = .ok (.goto 40, 3) := by decide +kernel
theorem dX4_readBody_127 : decode cX4_readBody 127 = .ok (.aload_n 2, 1) := by decide +kernel
theorem dX4_readBody_128 : decode cX4_readBody 128 = .ok (.aload_n 0, 1) := by decide +kernel
theorem dX4_readBody_129 : decode cX4_readBody 129 = .ok (.invokevirtual 100, 3) := by decide +kernel
theorem dX4_readBody_132 : decode cX4_readBody 132 = .ok (.putfield 103, 3) := by decide +kernel
theorem dX4_readBody_135 : decode cX4_readBody 135 = .ok (.goto 29, 3) := by decide +kernel
theorem dX4_readBody_138 : decode cX4_readBody 138 = .ok (.aload_n 0, 1) := by decide +kernel
theorem dX4_readBody_139 : decode cX4_readBody 139 = .ok (.getfield 33, 3) := by decide +kernel
theorem dX4_readBody_142 : decode cX4_readBody 142 = .ok (.sipush 257, 3) := by decide +kernel
theorem dX4_readBody_145 : decode cX4_readBody 145 = .ok (.if_icmp .ne 8, 3) := by decide +kernel
theorem dX4_readBody_148 : decode cX4_readBody 148 = .ok (.aload_n 0, 1) := by decide +kernel
theorem dX4_readBody_149 : decode cX4_readBody 149 = .ok (.aload_n 2, 1) := by decide +kernel
theorem dX4_readBody_150 : decode cX4_readBody 150 = .ok (.invokevirtual 96, 3) := by decide +kernel
theorem dX4_readBody_153 : decode cX4_readBody 153 = .ok (.aload_n 0, 1) := by decide +kernel
theorem dX4_readBody_154 : decode cX4_readBody 154 = .ok (.bipush 61, 2) := by decide +kernel
theorem dX4_readBody_156 : decode cX4_readBody 156 = .ok (.invokevirtual 64, 3) := by decide +kernel
theorem dX4_readBody_159 : decode cX4_readBody 159 = .ok (.aload_n 0, 1) := by decide +kernel
theorem dX4_readBody_160 : decode cX4_readBody 160 = .ok (.aload_n 2, 1) := by decide +kernel
theorem dX4_readBody_161 : decode cX4_readBody 161 = .ok (.invokevirtual 115, 3) := by decide +kernel
theorem dX4_readBody_164 : decode cX4_readBody 164 = .ok (.aload_n 2, 1) := by decide +kernel
theorem dX4_readBody_165 : decode cX4_readBody 165 = .ok (.areturn, 1) := by decide +kernel
theorem dX4_readCondition_0 : decode cX4_readCondition 0 = .ok (.aload_n 1, 1) := by decide +kernel
theorem dX4_readCondition_1 : decode cX4_readCondition 1 = .ok (.aload_n 0, 1) := by decide +kernel
theorem dX4_readCondition_2 : decode cX4_readCondition 2 = .ok (.bipush 65, 2) := by decide +kernel
theorem dX4_readCondition_4 : decode cX4_readCondition 4 = .ok (.bipush 70, 2) := by decide +kernel
theorem dX4_readCondition_6 : decode cX4_readCondition 6 = .ok (.invokevirtual 89, 3) := by decide +kernel
theorem dX4_readCondition_9 : decode cX4_readCondition 9 = .ok (.putfield 118, 3) := by decide +kernel
theorem dX4_readCondition_12 : decode cX4_readCondition 12 = .ok (.aload_n 1, 1) := by decide +kernel
theorem dX4_readCondition_13 : decode cX4_readCondition 13 = .ok (.aload_n 0, 1) := by decide +kernel
theorem dX4_readCondition_14 : decode cX4_readCondition 14 = .ok (.invokevirtual 121, 3) := by decide +kernel
theorem dX4_readCondition_17 : decode cX4_readCondition 17 = .ok (.putfield 124, 3) := by decide +kernel
theorem dX4_readCondition_20 : decode cX4_readCondition 20 = .ok (.aload_n 1, 1) := by decide +kernel
theorem dX4_readCondition_21 : decode cX4_readCondition 21 = .ok (.aload_n 0, 1) := by decide +kernel
theorem dX4_readCondition_22 : decode cX4_readCondition 22 = .ok (.invokevirtual 100, 3) := by decide +kernel
theorem dX4_readCondition_25 : decode cX4_readCondition 25 = .ok (.putfield 127, 3) := by decide +kernel
theorem dX4_readCondition_28 : decode cX4_readCondition 28 = .ok (.return_, 1) := by decide +kernel
theorem dX4_readScale_0 : decode cX4_readScale 0 = .ok (.iconst 1, 1) := by decide +kernel
theorem dX4_readScale_1 : decode cX4_readScale 1 = .ok (.istore_n 2, 1) := by decide +kernel
theorem dX4_readScale_2 : decode cX4_readScale 2 = .ok (.iconst 0, 1) := by decide +kernel
theorem dX4_readScale_3 : decode cX4_readScale 3 = .ok (.istore_n 3, 1) := by decide +kernel
theorem dX4_readScale_4 : decode cX4_readScale 4 = .ok (.iload_n 3, 1) := by decide +kernel
theorem dX4_readScale_5 : decode cX4_readScale 5 = .ok (.sipush 2000, 3) := by decide +kernel
theorem dX4_readScale_8 : decode cX4_readScale 8 = .ok (.if_icmp .ge 79, 3) := by decide +kernel
theorem dX4_readScale_11 : decode cX4_readScale 11 = .ok (.iload_n 2, 1) := by decide +kernel
theorem dX4_readScale_12 : decode cX4_readScale 12 = .ok (.ifCond .eq 75, 3) := by decide +kernel
theorem dX4_readScale_15 : decode cX4_readScale 15 = .ok (.aload_n 0, 1) := by decide +kernel
theorem dX4_readScale_16 : decode cX4_readScale 16 = .ok (.getfield 30, 3) := by decide +kernel
theorem dX4_readScale_19 : decode cX4_readScale 19 = .ok (.ifCond .ne 68, 3) := by decide +kernel
theorem dX4_readScale_22 : decode cX4_readScale 22 = .ok (.aload_n 0, 1) := by decide +kernel
theorem dX4_readScale_23 : decode cX4_readScale 23 = .ok (.getfield 33, 3) := by decide +kernel
theorem dX4_readScale_26 : decode cX4_readScale 26 = .ok (.sipush 258, 3) := by decide +kernel
theorem dX4_readScale_29 : decode cX4_readScale 29 = .ok (.if_icmp .ne 21, 3) := by decide +kernel
theorem dX4_readScale_32 : decode cX4_readScale 32 = .ok (.aload_n 1, 1) := by decide +kernel
theorem dX4_readScale_33 : decode cX4_readScale 33 = .ok (.getfield 130, 3) := by decide +kernel
theorem dX4_readScale_36 : decode cX4_readScale 36 = .ok (.bipush 8, 2) := by decide +kernel
theorem dX4_readScale_38 : decode cX4_readScale 38 = .ok (.if_icmp .lt 12, 3) := by decide +kernel
theorem dX4_readScale_41 : decode cX4_readScale 41 = .ok (.aload_n 0, 1) := by decide +kernel
theorem dX4_readScale_42 : decode cX4_readScale 42 = .ok (.iconst 2, 1) := by decide +kernel
theorem dX4_readScale_43 : decode cX4_readScale 43 = .ok (.aload_n 0, 1) := by decide +kernel
theorem dX4_readScale_44 : decode cX4_readScale 44 = .ok (.getfield 36, 3) := by decide +kernel
theorem dX4_readScale_47 : decode cX4_readScale 47 = .ok (.invokevirtual 83, 3) := by decide +kernel
theorem dX4_readScale_50 : decode cX4_readScale 50 = .ok (.aload_n 1, 1) := by decide +kernel
theorem dX4_readScale_51 : decode cX4_readScale 51 = .ok (.aload_n 0, 1) := by decide +kernel
theorem dX4_readScale_52 : decode cX4_readScale 52 = .ok (.invokevirtual 100, 3) := by decide +kernel
theorem dX4_readScale_55 : decode cX4_readScale 55 = .ok (.invokevirtual 133, 3) := by decide +kernel
theorem dX4_readScale_58 : decode cX4_readScale 58 = .ok (.aload_n 0, 1) := by decide +kernel
theorem dX4_readScale_59 : decode cX4_readScale 59 = .ok (.getfield 33, 3) := by decide +kernel
theorem dX4_readScale_62 : decode cX4_readScale 62 = .ok (.bipush 44, 2) := by decide +kernel
theorem dX4_readScale_64 : decode cX4_readScale 64 = .ok (.if_icmp .ne 7, 3) := by decide +kernel
theorem dX4_readScale_67 : decode cX4_readScale 67 = .ok (.iconst 1, 1) := by decide +kernel
theorem dX4_readScale_68 : decode cX4_readScale 68 = .ok (.goto 4, 3) := by decide +kernel
theorem dX4_readScale_71 : decode cX4_readScale 71 = .ok (.iconst 0, 1) := by decide +kernel
theorem dX4_readScale_72 : decode cX4_readScale 72 = .ok (.istore_n 2, 1) := by decide +kernel
theorem dX4_readScale_73 : decode cX4_readScale 73 = .ok (.iload_n 2, 1) := by decide +kernel
theorem dX4_readScale_74 : decode cX4_readScale 74 = .ok (.ifCond .eq 7, 3) := by decide +kernel
theorem dX4_readScale_77 : decode cX4_readScale 77 = .ok (.aload_n 0, 1) := by decide +kernel
theorem dX4_readScale_78 : decode cX4_readScale 78 = .ok (.invokevirtual 77, 3) := by decide +kernel
theorem dX4_readScale_81 : decode cX4_readScale 81 = .ok (.iinc 3 1, 3) := by decide +kernel
theorem dX4_readScale_84 : decode cX4_readScale 84 = .ok (.goto (-80), 3) := by decide +kernel
theorem dX4_readScale_87 : decode cX4_readScale 87 = .ok (.return_, 1) := by decide +kernel
theorem dX4_readStepDays_0 : decode cX4_readStepDays 0 = .ok (.aload_n 0, 1) := by decide +kernel
theorem dX4_readStepDays_1 : decode cX4_readStepDays 1 = .ok (.getfield 36, 3) := by decide +kernel
theorem dX4_readStepDays_4 : decode cX4_readStepDays 4 = .ok (.istore_n 2, 1) := by decide +kernel
theorem dX4_readStepDays_5 : decode cX4_readStepDays 5 = .ok (.aload_n 1, 1) := by decide +kernel
theorem dX4_readStepDays_6 : decode cX4_readStepDays 6 = .ok (.aload_n 0, 1) := by decide +kernel
theorem dX4_readStepDays_7 : decode cX4_readStepDays 7 = .ok (.invokevirtual 100, 3) := by decide +kernel
theorem dX4_readStepDays_10 : decode cX4_readStepDays 10 = .ok (.putfield 103, 3) := by decide +kernel
theorem dX4_readStepDays_13 : decode cX4_readStepDays 13 = .ok (.aload_n 1, 1) := by decide +kernel
theorem dX4_readStepDays_14 : decode cX4_readStepDays 14 = .ok (.getfield 103, 3) := by decide +kernel
theorem dX4_readStepDays_17 : decode cX4_readStepDays 17 = .ok (.ifCond .ne 9, 3) := by decide +kernel
theorem dX4_readStepDays_20 : decode cX4_readStepDays 20 = .ok (.aload_n 0, 1) := by decide +kernel
theorem dX4_readStepDays_21 : decode cX4_readStepDays 21 = .ok (.iconst 2, 1) := by decide +kernel
theorem dX4_readStepDays_22 : decode cX4_readStepDays 22 = .ok (.iload_n 2, 1) := by decide +kernel
theorem dX4_readStepDays_23 : decode cX4_readStepDays 23 = .ok (.invokevirtual 83, 3) := by decide +kernel
theorem dX4_readStepDays_26 : decode cX4_readStepDays 26 = .ok (.return_, 1) := by decide +kernel
theorem dX4_readPlusNumber_0 : decode cX4_readPlusNumber 0 = .ok (.aload_n 1, 1) := by decide +kernel
theorem dX4_readPlusNumber_1 : decode cX4_readPlusNumber 1 = .ok (.aload_n 0, 1) := by decide +kernel
theorem dX4_readPlusNumber_2 : decode cX4_readPlusNumber 2 = .ok (.invokevirtual 100, 3) := by decide +kernel
theorem dX4_readPlusNumber_5 : decode cX4_readPlusNumber 5 = .ok (.putfield 103, 3) := by decide +kernel
theorem dX4_readPlusNumber_8 : decode cX4_readPlusNumber 8 = .ok (.aload_n 0, 1) := by decide +kernel
theorem dX4_readPlusNumber_9 : decode cX4_readPlusNumber 9 = .ok (.getfield 33, 3) := by decide +kernel
theorem dX4_readPlusNumber_12 : decode cX4_readPlusNumber 12 = .ok (.bipush 37, 2) := by decide +kernel
theorem dX4_readPlusNumber_14 : decode cX4_readPlusNumber 14 = .ok (.if_icmp .ne 31, 3) := by decide +kernel
theorem dX4_readPlusNumber_17 : decode cX4_readPlusNumber 17 = .ok (.aload_n 1, 1) := by decide +kernel
theorem dX4_readPlusNumber_18 : decode cX4_readPlusNumber 18 = .ok (.getfield 103, 3) := by decide +kernel
theorem dX4_readPlusNumber_21 : decode cX4_readPlusNumber 21 = .ok (.sipush 999, 3) := by decide +kernel
theorem dX4_readPlusNumber_24 : decode cX4_readPlusNumber 24 = .ok (.if_icmp .le 12, 3) := by decide +kernel
theorem dX4_readPlusNumber_27 : decode cX4_readPlusNumber 27 = .ok (.aload_n 0, 1) := by decide +kernel
theorem dX4_readPlusNumber_28 : decode cX4_readPlusNumber 28 = .ok (.iconst 2, 1) := by decide +kernel
theorem dX4_readPlusNumber_29 : decode cX4_readPlusNumber 29 = .ok (.aload_n 0, 1) := by decide +kernel
theorem dX4_readPlusNumber_30 : decode cX4_readPlusNumber 30 = .ok (.getfield 36, 3) := by decide +kernel
theorem dX4_readPlusNumber_33 : decode cX4_readPlusNumber 33 = .ok (.invokevirtual 83, 3) := by decide +kernel
theorem dX4_readPlusNumber_36 : decode cX4_readPlusNumber 36 = .ok (.aload_n 1, 1) := by decide +kernel
theorem dX4_readPlusNumber_37 : decode cX4_readPlusNumber 37 = .ok (.iconst 1, 1) := by decide +kernel
theorem dX4_readPlusNumber_38 : decode cX4_readPlusNumber 38 = .ok (.putfield 136, 3) := by decide +kernel
theorem dX4_readPlusNumber_41 : decode cX4_readPlusNumber 41 = .ok (.aload_n 0, 1) := by decide +kernel
theorem dX4_readPlusNumber_42 : decode cX4_readPlusNumber 42 = .ok (.invokevirtual 77, 3) := by decide +kernel
theorem dX4_readPlusNumber_45 : decode cX4_readPlusNumber 45 = .ok (.return_, 1) := by decide +kernel
theorem dX4_checkKey_0 : decode cX4_checkKey 0 = .ok (.iload_n 1, 1) := by decide +kernel
theorem dX4_checkKey_1 : decode cX4_checkKey 1 = .ok (.ifCond .lt 12, 3) := by decide +kernel
theorem dX4_checkKey_4 : decode cX4_checkKey 4 = .ok (.iload_n 1, 1) := by decide +kernel
theorem dX4_checkKey_5 : decode cX4_checkKey 5 = .ok (.aload_n 0, 1) := by decide +kernel
theorem dX4_checkKey_6 : decode cX4_checkKey 6 = .ok (.getfield 9, 3) := by decide +kernel
theorem dX4_checkKey_9 : decode cX4_checkKey 9 = .ok (.arraylength, 1) := by decide +kernel
theorem dX4_checkKey_10 : decode cX4_checkKey 10 = .ok (.if_icmp .lt 4, 3) := by decide +kernel
theorem dX4_checkKey_13 : decode cX4_checkKey 13 = .ok (.return_, 1) := by decide +kernel
theorem dX4_checkKey_14 : decode cX4_checkKey 14 = .ok (.aload_n 0, 1) := by decide +kernel
theorem dX4_checkKey_15 : decode cX4_checkKey 15 = .ok (.getfield 9, 3) := by decide +kernel
theorem dX4_checkKey_18 : decode cX4_checkKey 18 = .ok (.iload_n 1, 1) := by decide +kernel
theorem dX4_checkKey_19 : decode cX4_checkKey 19 = .ok (.baload, 1) := by decide +kernel
theorem dX4_checkKey_20 : decode cX4_checkKey 20 = .ok (.ifCond .eq 9, 3) := by decide +kernel
theorem dX4_checkKey_23 : decode cX4_checkKey 23 = .ok (.aload_n 0, 1) := by decide +kernel
theorem dX4_checkKey_24 : decode cX4_checkKey 24 = .ok (.iconst 3, 1) := by decide +kernel
theorem dX4_checkKey_25 : decode cX4_checkKey 25 = .ok (.iload_n 2, 1) := by decide +kernel
theorem dX4_checkKey_26 : decode cX4_checkKey 26 = .ok (.invokevirtual 83, 3) := by decide +kernel
theorem dX4_checkKey_29 : decode cX4_checkKey 29 = .ok (.aload_n 0, 1) := by decide +kernel
theorem dX4_checkKey_30 : decode cX4_checkKey 30 = .ok (.getfield 9, 3) := by decide +kernel
theorem dX4_checkKey_33 : decode cX4_checkKey 33 = .ok (.iload_n 1, 1) := by decide +kernel
theorem dX4_checkKey_34 : decode cX4_checkKey 34 = .ok (.iconst 1, 1) := by decide +kernel
theorem dX4_checkKey_35 : decode cX4_checkKey 35 = .ok (.bastore, 1) := by decide +kernel
theorem dX4_checkKey_36 : decode cX4_checkKey 36 = .ok (.return_, 1) := by decide +kernel
theorem dX4_refuse_0 : decode cX4_refuse 0 = .ok (.aload_n 0, 1) := by decide +kernel
theorem dX4_refuse_1 : decode cX4_refuse 1 = .ok (.getfield 30, 3) := by decide +kernel
theorem dX4_refuse_4 : decode cX4_refuse 4 = .ok (.ifCond .ne 13, 3) := by decide +kernel
theorem dX4_refuse_7 : decode cX4_refuse 7 = .ok (.aload_n 0, 1) := by decide +kernel
theorem dX4_refuse_8 : decode cX4_refuse 8 = .ok (.iload_n 1, 1) := by decide +kernel
theorem dX4_refuse_9 : decode cX4_refuse 9 = .ok (.putfield 30, 3) := by decide +kernel
theorem dX4_refuse_12 : decode cX4_refuse 12 = .ok (.aload_n 0, 1) := by decide +kernel
theorem dX4_refuse_13 : decode cX4_refuse 13 = .ok (.iload_n 2, 1) := by decide +kernel
theorem dX4_refuse_14 : decode cX4_refuse 14 = .ok (.putfield 15, 3) := by decide +kernel
theorem dX4_refuse_17 : decode cX4_refuse 17 = .ok (.return_, 1) := by decide +kernel
theorem dX4_takeLetter_0 : decode cX4_takeLetter 0 = .ok (.aload_n 0, 1) := by decide +kernel
theorem dX4_takeLetter_1 : decode cX4_takeLetter 1 = .ok (.aload_n 0, 1) := by decide +kernel
theorem dX4_takeLetter_2 : decode cX4_takeLetter 2 = .ok (.getfield 36, 3) := by decide +kernel
theorem dX4_takeLetter_5 : decode cX4_takeLetter 5 = .ok (.invokevirtual 140, 3) := by decide +kernel
theorem dX4_takeLetter_8 : decode cX4_takeLetter 8 = .ok (.istore_n 3, 1) := by decide +kernel
theorem dX4_takeLetter_9 : decode cX4_takeLetter 9 = .ok (.aload_n 0, 1) := by decide +kernel
theorem dX4_takeLetter_10 : decode cX4_takeLetter 10 = .ok (.getfield 33, 3) := by decide +kernel
theorem dX4_takeLetter_13 : decode cX4_takeLetter 13 = .ok (.sipush 257, 3) := by decide +kernel
theorem dX4_takeLetter_16 : decode cX4_takeLetter 16 = .ok (.if_icmp .ne 26, 3) := by decide +kernel
theorem dX4_takeLetter_19 : decode cX4_takeLetter 19 = .ok (.aload_n 0, 1) := by decide +kernel
theorem dX4_takeLetter_20 : decode cX4_takeLetter 20 = .ok (.getfield 74, 3) := by decide +kernel
theorem dX4_takeLetter_23 : decode cX4_takeLetter 23 = .ok (.aload_n 0, 1) := by decide +kernel
theorem dX4_takeLetter_24 : decode cX4_takeLetter 24 = .ok (.getfield 36, 3) := by decide +kernel
theorem dX4_takeLetter_27 : decode cX4_takeLetter 27 = .ok (.isub, 1) := by decide +kernel
theorem dX4_takeLetter_28 : decode cX4_takeLetter 28 = .ok (.iconst 1, 1) := by decide +kernel
theorem dX4_takeLetter_29 : decode cX4_takeLetter 29 = .ok (.if_icmp .ne 13, 3) := by decide +kernel
theorem dX4_takeLetter_32 : decode cX4_takeLetter 32 = .ok (.iload_n 3, 1) := by decide +kernel
theorem dX4_takeLetter_33 : decode cX4_takeLetter 33 = .ok (.iload_n 1, 1) := by decide +kernel
theorem dX4_takeLetter_34 : decode cX4_takeLetter 34 = .ok (.if_icmp .lt 8, 3) := by decide +kernel
theorem dX4_takeLetter_37 : decode cX4_takeLetter 37 = .ok (.iload_n 3, 1) := by decide +kernel
theorem dX4_takeLetter_38 : decode cX4_takeLetter 38 = .ok (.iload_n 2, 1) := by decide +kernel
theorem dX4_takeLetter_39 : decode cX4_takeLetter 39 = .ok (.if_icmp .le 14, 3) := by decide +kernel
theorem dX4_takeLetter_42 : decode cX4_takeLetter 42 = .ok (.aload_n 0, 1) := by decide +kernel
theorem dX4_takeLetter_43 : decode cX4_takeLetter 43 = .ok (.iconst 1, 1) := by decide +kernel
theorem dX4_takeLetter_44 : decode cX4_takeLetter 44 = .ok (.aload_n 0, 1) := by decide +kernel
theorem dX4_takeLetter_45 : decode cX4_takeLetter 45 = .ok (.getfield 36, 3) := by decide +kernel
theorem dX4_takeLetter_48 : decode cX4_takeLetter 48 = .ok (.invokevirtual 83, 3) := by decide +kernel
theorem dX4_takeLetter_51 : decode cX4_takeLetter 51 = .ok (.iconst 0, 1) := by decide +kernel
theorem dX4_takeLetter_52 : decode cX4_takeLetter 52 = .ok (.ireturn, 1) := by decide +kernel
theorem dX4_takeLetter_53 : decode cX4_takeLetter 53 = .ok (.aload_n 0, 1) := by decide +kernel
theorem dX4_takeLetter_54 : decode cX4_takeLetter 54 = .ok (.invokevirtual 77, 3) := by decide +kernel
theorem dX4_takeLetter_57 : decode cX4_takeLetter 57 = .ok (.iload_n 3, 1) := by decide +kernel
theorem dX4_takeLetter_58 : decode cX4_takeLetter 58 = .ok (.iload_n 1, 1) := by decide +kernel
theorem dX4_takeLetter_59 : decode cX4_takeLetter 59 = .ok (.isub, 1) := by decide +kernel
theorem dX4_takeLetter_60 : decode cX4_takeLetter 60 = .ok (.ireturn, 1) := by decide +kernel
theorem dX4_takeRelation_0 : decode cX4_takeRelation 0 = .ok (.aload_n 0, 1) := by decide +kernel
theorem dX4_takeRelation_1 : decode cX4_takeRelation 1 = .ok (.getfield 33, 3) := by decide +kernel
theorem dX4_takeRelation_4 : decode cX4_takeRelation 4 = .ok (.istore_n 1, 1) := by decide +kernel
theorem dX4_takeRelation_5 : decode cX4_takeRelation 5 = .ok (.iload_n 1, 1) := by decide +kernel
theorem dX4_takeRelation_6 : decode cX4_takeRelation 6 = .ok (.bipush 60, 2) := by decide +kernel
theorem dX4_takeRelation_8 : decode cX4_takeRelation 8 = .ok (.if_icmp .eq 27, 3) := by decide +kernel
theorem dX4_takeRelation_11 : decode cX4_takeRelation 11 = .ok (.iload_n 1, 1) := by decide +kernel
theorem dX4_takeRelation_12 : decode cX4_takeRelation 12 = .ok (.bipush 62, 2) := by decide +kernel
theorem dX4_takeRelation_14 : decode cX4_takeRelation 14 = .ok (.if_icmp .eq 21, 3) := by decide +kernel
theorem dX4_takeRelation_17 : decode cX4_takeRelation 17 = .ok (.iload_n 1, 1) := by decide +kernel
theorem dX4_takeRelation_18 : decode cX4_takeRelation 18 = .ok (.bipush 61, 2) := by decide +kernel
theorem dX4_takeRelation_20 : decode cX4_takeRelation 20 = .ok (.if_icmp .eq 15, 3) := by decide +kernel
theorem dX4_takeRelation_23 : decode cX4_takeRelation 23 = .ok (.aload_n 0, 1) := by decide +kernel
theorem dX4_takeRelation_24 : decode cX4_takeRelation 24 = .ok (.iconst 1, 1) := by decide +kernel
theorem dX4_takeRelation_25 : decode cX4_takeRelation 25 = .ok (.aload_n 0, 1) := by decide +kernel
theorem dX4_takeRelation_26 : decode cX4_takeRelation 26 = .ok (.getfield 36, 3) := by decide +kernel
theorem dX4_takeRelation_29 : decode cX4_takeRelation 29 = .ok (.invokevirtual 83, 3) := by decide +kernel
theorem dX4_takeRelation_32 : decode cX4_takeRelation 32 = .ok (.bipush 61, 2) := by decide +kernel
theorem dX4_takeRelation_34 : decode cX4_takeRelation 34 = .ok (.ireturn, 1) := by decide +kernel
theorem dX4_takeRelation_35 : decode cX4_takeRelation 35 = .ok (.aload_n 0, 1) := by decide +kernel
theorem dX4_takeRelation_36 : decode cX4_takeRelation 36 = .ok (.invokevirtual 77, 3) := by decide +kernel
theorem dX4_takeRelation_39 : decode cX4_takeRelation 39 = .ok (.iload_n 1, 1) := by decide +kernel
theorem dX4_takeRelation_40 : decode cX4_takeRelation 40 = .ok (.ireturn, 1) := by decide +kernel
theorem dX4_takeNumber_0 : decode cX4_takeNumber 0 = .ok (.aload_n 0, 1) := by decide +kernel
theorem dX4_takeNumber_1 : decode cX4_takeNumber 1 = .ok (.getfield 33, 3) := by decide +kernel
theorem dX4_takeNumber_4 : decode cX4_takeNumber 4 = .ok (.sipush 258, 3) := by decide +kernel
theorem dX4_takeNumber_7 : decode cX4_takeNumber 7 = .ok (.if_icmp .eq 14, 3) := by decide +kernel
theorem dX4_takeNumber_10 : decode cX4_takeNumber 10 = .ok (.aload_n 0, 1) := by decide +kernel
theorem dX4_takeNumber_11 : decode cX4_takeNumber 11 = .ok (.iconst 1, 1) := by decide +kernel
theorem dX4_takeNumber_12 : decode cX4_takeNumber 12 = .ok (.aload_n 0, 1) := by decide +kernel
theorem dX4_takeNumber_13 : decode cX4_takeNumber 13 = .ok (.getfield 36, 3) := by decide +kernel
theorem dX4_takeNumber_16 : decode cX4_takeNumber 16 = .ok (.invokevirtual 83, 3) := by decide +kernel
theorem dX4_takeNumber_19 : decode cX4_takeNumber 19 = .ok (.iconst 0, 1) := by decide +kernel
theorem dX4_takeNumber_20 : decode cX4_takeNumber 20 = .ok (.ireturn, 1) := by decide +kernel
theorem dX4_takeNumber_21 : decode cX4_takeNumber 21 = .ok (.aload_n 0, 1) := by decide +kernel
theorem dX4_takeNumber_22 : decode cX4_takeNumber 22 = .ok (.invokevirtual 143, 3) := by decide +kernel
theorem dX4_takeNumber_25 : decode cX4_takeNumber 25 = .ok (.istore_n 1, 1) := by decide +kernel
theorem dX4_takeNumber_26 : decode cX4_takeNumber 26 = .ok (.iload_n 1, 1) := by decide +kernel
theorem dX4_takeNumber_27 : decode cX4_takeNumber 27 = .ok (.sipush 9999, 3) := by decide +kernel
theorem dX4_takeNumber_30 : decode cX4_takeNumber 30 = .ok (.if_icmp .le 12, 3) := by decide +kernel
theorem dX4_takeNumber_33 : decode cX4_takeNumber 33 = .ok (.aload_n 0, 1) := by decide +kernel
theorem dX4_takeNumber_34 : decode cX4_takeNumber 34 = .ok (.iconst 2, 1) := by decide +kernel
theorem dX4_takeNumber_35 : decode cX4_takeNumber 35 = .ok (.aload_n 0, 1) := by decide +kernel
theorem dX4_takeNumber_36 : decode cX4_takeNumber 36 = .ok (.getfield 36, 3) := by decide +kernel
theorem dX4_takeNumber_39 : decode cX4_takeNumber 39 = .ok (.invokevirtual 83, 3) := by decide +kernel
theorem dX4_takeNumber_42 : decode cX4_takeNumber 42 = .ok (.aload_n 0, 1) := by decide +kernel
theorem dX4_takeNumber_43 : decode cX4_takeNumber 43 = .ok (.invokevirtual 77, 3) := by decide +kernel
theorem dX4_takeNumber_46 : decode cX4_takeNumber 46 = .ok (.iload_n 1, 1) := by decide +kernel
theorem dX4_takeNumber_47 : decode cX4_takeNumber 47 = .ok (.ireturn, 1) := by decide +kernel
theorem dX4_takeSign_0 : decode cX4_takeSign 0 = .ok (.aload_n 0, 1) := by decide +kernel
theorem dX4_takeSign_1 : decode cX4_takeSign 1 = .ok (.getfield 33, 3) := by decide +kernel
theorem dX4_takeSign_4 : decode cX4_takeSign 4 = .ok (.iload_n 1, 1) := by decide +kernel
theorem dX4_takeSign_5 : decode cX4_takeSign 5 = .ok (.if_icmp .eq 13, 3) := by decide +kernel
theorem dX4_takeSign_8 : decode cX4_takeSign 8 = .ok (.aload_n 0, 1) := by decide +kernel
theorem dX4_takeSign_9 : decode cX4_takeSign 9 = .ok (.iconst 1, 1) := by decide +kernel
theorem dX4_takeSign_10 : decode cX4_takeSign 10 = .ok (.aload_n 0, 1) := by decide +kernel
theorem dX4_takeSign_11 : decode cX4_takeSign 11 = .ok (.getfield 36, 3) := by decide +kernel
theorem dX4_takeSign_14 : decode cX4_takeSign 14 = .ok (.invokevirtual 83, 3) := by decide +kernel
theorem dX4_takeSign_17 : decode cX4_takeSign 17 = .ok (.return_, 1) := by decide +kernel
theorem dX4_takeSign_18 : decode cX4_takeSign 18 = .ok (.aload_n 0, 1) := by decide +kernel
theorem dX4_takeSign_19 : decode cX4_takeSign 19 = .ok (.invokevirtual 77, 3) := by decide +kernel
theorem dX4_takeSign_22 : decode cX4_takeSign 22 = .ok (.return_, 1) := by decide +kernel
theorem dX4_takeFrom_0 : decode cX4_takeFrom 0 = .ok (.aload_n 0, 1) := by decide +kernel
theorem dX4_takeFrom_1 : decode cX4_takeFrom 1 = .ok (.ldc 146, 2) := by decide +kernel
theorem dX4_takeFrom_3 : decode cX4_takeFrom 3 = .ok (.invokevirtual 148, 3) := by decide +kernel
theorem dX4_takeFrom_6 : decode cX4_takeFrom 6 = .ok (.ifCond .ne 13, 3) := by decide +kernel
theorem dX4_takeFrom_9 : decode cX4_takeFrom 9 = .ok (.aload_n 0, 1) := by decide +kernel
theorem dX4_takeFrom_10 : decode cX4_takeFrom 10 = .ok (.iconst 1, 1) := by decide +kernel
theorem dX4_takeFrom_11 : decode cX4_takeFrom 11 = .ok (.aload_n 0, 1) := by decide +kernel
theorem dX4_takeFrom_12 : decode cX4_takeFrom 12 = .ok (.getfield 36, 3) := by decide +kernel
theorem dX4_takeFrom_15 : decode cX4_takeFrom 15 = .ok (.invokevirtual 83, 3) := by decide +kernel
theorem dX4_takeFrom_18 : decode cX4_takeFrom 18 = .ok (.return_, 1) := by decide +kernel
theorem dX4_takeFrom_19 : decode cX4_takeFrom 19 = .ok (.aload_n 0, 1) := by decide +kernel
theorem dX4_takeFrom_20 : decode cX4_takeFrom 20 = .ok (.invokevirtual 77, 3) := by decide +kernel
theorem dX4_takeFrom_23 : decode cX4_takeFrom 23 = .ok (.return_, 1) := by decide +kernel
theorem dX4_wordOfToken_0 : decode cX4_wordOfToken 0 = .ok (.iconst 0, 1) := by decide +kernel
theorem dX4_wordOfToken_1 : decode cX4_wordOfToken 1 = .ok (.istore_n 1, 1) := by decide +kernel
theorem dX4_wordOfToken_2 : decode cX4_wordOfToken 2 = .ok (.iload_n 1, 1) := by decide +kernel
theorem dX4_wordOfToken_3 : decode cX4_wordOfToken 3 = .ok (.bipush 6, 2) := by decide +kernel
theorem dX4_wordOfToken_5 : decode cX4_wordOfToken 5 = .ok (.if_icmp .gt 22, 3) := by decide +kernel
theorem dX4_wordOfToken_8 : decode cX4_wordOfToken 8 = .ok (.aload_n 0, 1) := by decide +kernel
theorem dX4_wordOfToken_9 : decode cX4_wordOfToken 9 = .ok (.iload_n 1, 1) := by decide +kernel
theorem dX4_wordOfToken_10 : decode cX4_wordOfToken 10 = .ok (.invokestatic 152, 3) := by decide +kernel
theorem dX4_wordOfToken_13 : decode cX4_wordOfToken 13 = .ok (.invokevirtual 148, 3) := by decide +kernel
theorem dX4_wordOfToken_16 : decode cX4_wordOfToken 16 = .ok (.ifCond .eq 5, 3) := by decide +kernel
theorem dX4_wordOfToken_19 : decode cX4_wordOfToken 19 = .ok (.iload_n 1, 1) := by decide +kernel
theorem dX4_wordOfToken_20 : decode cX4_wordOfToken 20 = .ok (.ireturn, 1) := by decide +kernel
theorem dX4_wordOfToken_21 : decode cX4_wordOfToken 21 = .ok (.iinc 1 1, 3) := by decide +kernel
theorem dX4_wordOfToken_24 : decode cX4_wordOfToken 24 = .ok (.goto (-22), 3) := by decide +kernel
theorem dX4_wordOfToken_27 : decode cX4_wordOfToken 27 = .ok (.iconst (-1), 1) := by decide +kernel
theorem dX4_wordOfToken_28 : decode cX4_wordOfToken 28 = .ok (.ireturn, 1) := by decide +kernel
theorem dX4_spelling_0 : decode cX4_spelling 0 = .ok (.iload_n 0, 1) := by decide +kernel
theorem dX4_spelling_1 : decode cX4_spelling 1 = .ok (.tableswitch 57 0 5 #[39, 42, 45, 48, 51, 54], 39) := by decide +kernel
theorem dX4_spelling_40 : decode cX4_spelling 40 = .ok (.ldc 156, 2) := by decide +kernel
theorem dX4_spelling_42 : decode cX4_spelling 42 = .ok (.areturn, 1) := by decide +kernel
theorem dX4_spelling_43 : decode cX4_spelling 43 = .ok (.ldc 158, 2) := by decide +kernel
theorem dX4_spelling_45 : decode cX4_spelling 45 = .ok (.areturn, 1) := by decide +kernel
theorem dX4_spelling_46 : decode cX4_spelling 46 = .ok (.ldc 160, 2) := by decide +kernel
theorem dX4_spelling_48 : decode cX4_spelling 48 = .ok (.areturn, 1) := by decide +kernel
theorem dX4_spelling_49 : decode cX4_spelling 49 = .ok (.ldc 162, 2) := by decide +kernel
theorem dX4_spelling_51 : decode cX4_spelling 51 = .ok (.areturn, 1) := by decide +kernel
theorem dX4_spelling_52 : decode cX4_spelling 52 = .ok (.ldc 164, 2) := by decide +kernel
theorem dX4_spelling_54 : decode cX4_spelling 54 = .ok (.areturn, 1) := by decide +kernel
theorem dX4_spelling_55 : decode cX4_spelling 55 = .ok (.ldc 166, 2) := by decide +kernel
theorem dX4_spelling_57 : decode cX4_spelling 57 = .ok (.areturn, 1) := by decide +kernel
theorem dX4_spelling_58 : decode cX4_spelling 58 = .ok (.ldc 168, 2) := by decide +kernel
theorem dX4_spelling_60 : decode cX4_spelling 60 = .ok (.areturn, 1) := by decide +kernel
theorem dX4_tokenIs_0 : decode cX4_tokenIs 0 = .ok (.aload_n 0, 1) := by decide +kernel
theorem dX4_tokenIs_1 : decode cX4_tokenIs 1 = .ok (.getfield 33, 3) := by decide +kernel
theorem dX4_tokenIs_4 : decode cX4_tokenIs 4 = .ok (.sipush 257, 3) := by decide +kernel
theorem dX4_tokenIs_7 : decode cX4_tokenIs 7 = .ok (.if_icmp .ne 19, 3) := by decide +kernel
theorem dX4_tokenIs_10 : decode cX4_tokenIs 10 = .ok (.aload_n 0, 1) := by decide +kernel
theorem dX4_tokenIs_11 : decode cX4_tokenIs 11 = .ok (.getfield 74, 3) := by decide +kernel
theorem dX4_tokenIs_14 : decode cX4_tokenIs 14 = .ok (.aload_n 0, 1) := by decide +kernel
theorem dX4_tokenIs_15 : decode cX4_tokenIs 15 = .ok (.getfield 36, 3) := by decide +kernel
theorem dX4_tokenIs_18 : decode cX4_tokenIs 18 = .ok (.isub, 1) := by decide +kernel
theorem dX4_tokenIs_19 : decode cX4_tokenIs 19 = .ok (.aload_n 1, 1) := by decide +kernel
theorem dX4_tokenIs_20 : decode cX4_tokenIs 20 = .ok (.invokevirtual 170, 3) := by decide +kernel
theorem dX4_tokenIs_23 : decode cX4_tokenIs 23 = .ok (.if_icmp .eq 5, 3) := by decide +kernel
theorem dX4_tokenIs_26 : decode cX4_tokenIs 26 = .ok (.iconst 0, 1) := by decide +kernel
theorem dX4_tokenIs_27 : decode cX4_tokenIs 27 = .ok (.ireturn, 1) := by decide +kernel
theorem dX4_tokenIs_28 : decode cX4_tokenIs 28 = .ok (.iconst 0, 1) := by decide +kernel
theorem dX4_tokenIs_29 : decode cX4_tokenIs 29 = .ok (.istore_n 2, 1) := by decide +kernel
theorem dX4_tokenIs_30 : decode cX4_tokenIs 30 = .ok (.iload_n 2, 1) := by decide +kernel
theorem dX4_tokenIs_31 : decode cX4_tokenIs 31 = .ok (.aload_n 1, 1) := by decide +kernel
theorem dX4_tokenIs_32 : decode cX4_tokenIs 32 = .ok (.invokevirtual 170, 3) := by decide +kernel
theorem dX4_tokenIs_35 : decode cX4_tokenIs 35 = .ok (.if_icmp .ge 29, 3) := by decide +kernel
theorem dX4_tokenIs_38 : decode cX4_tokenIs 38 = .ok (.aload_n 0, 1) := by decide +kernel
theorem dX4_tokenIs_39 : decode cX4_tokenIs 39 = .ok (.aload_n 0, 1) := by decide +kernel
theorem dX4_tokenIs_40 : decode cX4_tokenIs 40 = .ok (.getfield 36, 3) := by decide +kernel
theorem dX4_tokenIs_43 : decode cX4_tokenIs 43 = .ok (.iload_n 2, 1) := by decide +kernel
theorem dX4_tokenIs_44 : decode cX4_tokenIs 44 = .ok (.iadd, 1) := by decide +kernel
theorem dX4_tokenIs_45 : decode cX4_tokenIs 45 = .ok (.invokevirtual 140, 3) := by decide +kernel
theorem dX4_tokenIs_48 : decode cX4_tokenIs 48 = .ok (.aload_n 1, 1) := by decide +kernel
theorem dX4_tokenIs_49 : decode cX4_tokenIs 49 = .ok (.iload_n 2, 1) := by decide +kernel
theorem dX4_tokenIs_50 : decode cX4_tokenIs 50 = .ok (.invokevirtual 174, 3) := by decide +kernel
theorem dX4_tokenIs_53 : decode cX4_tokenIs 53 = .ok (.if_icmp .eq 5, 3) := by decide +kernel
theorem dX4_tokenIs_56 : decode cX4_tokenIs 56 = .ok (.iconst 0, 1) := by decide +kernel
theorem dX4_tokenIs_57 : decode cX4_tokenIs 57 = .ok (.ireturn, 1) := by decide +kernel
theorem dX4_tokenIs_58 : decode cX4_tokenIs 58 = .ok (.iinc 2 1, 3) := by decide +kernel
theorem dX4_tokenIs_61 : decode cX4_tokenIs 61 = .ok (.goto (-31), 3) := by decide +kernel
theorem dX4_tokenIs_64 : decode cX4_tokenIs 64 = .ok (.iconst 1, 1) := by decide +kernel
theorem dX4_tokenIs_65 : decode cX4_tokenIs 65 = .ok (.ireturn, 1) := by decide +kernel
theorem dX4_numberOfToken_0 : decode cX4_numberOfToken 0 = .ok (.iconst 0, 1) := by decide +kernel
theorem dX4_numberOfToken_1 : decode cX4_numberOfToken 1 = .ok (.istore_n 1, 1) := by decide +kernel
theorem dX4_numberOfToken_2 : decode cX4_numberOfToken 2 = .ok (.aload_n 0, 1) := by decide +kernel
theorem dX4_numberOfToken_3 : decode cX4_numberOfToken 3 = .ok (.getfield 36, 3) := by decide +kernel
theorem dX4_numberOfToken_6 : decode cX4_numberOfToken 6 = .ok (.istore_n 2, 1) := by decide +kernel
theorem dX4_numberOfToken_7 : decode cX4_numberOfToken 7 = .ok (.iload_n 2, 1) := by decide +kernel
theorem dX4_numberOfToken_8 : decode cX4_numberOfToken 8 = .ok (.aload_n 0, 1) := by decide +kernel
theorem dX4_numberOfToken_9 : decode cX4_numberOfToken 9 = .ok (.getfield 74, 3) := by decide +kernel
theorem dX4_numberOfToken_12 : decode cX4_numberOfToken 12 = .ok (.if_icmp .ge 29, 3) := by decide +kernel
theorem dX4_numberOfToken_15 : decode cX4_numberOfToken 15 = .ok (.sipush 10000, 3) := by decide +kernel
theorem dX4_numberOfToken_18 : decode cX4_numberOfToken 18 = .ok (.iload_n 1, 1) := by decide +kernel
theorem dX4_numberOfToken_19 : decode cX4_numberOfToken 19 = .ok (.bipush 10, 2) := by decide +kernel
theorem dX4_numberOfToken_21 : decode cX4_numberOfToken 21 = .ok (.imul, 1) := by decide +kernel
theorem dX4_numberOfToken_22 : decode cX4_numberOfToken 22 = .ok (.aload_n 0, 1) := by decide +kernel
theorem dX4_numberOfToken_23 : decode cX4_numberOfToken 23 = .ok (.iload_n 2, 1) := by decide +kernel
theorem dX4_numberOfToken_24 : decode cX4_numberOfToken 24 = .ok (.invokevirtual 140, 3) := by decide +kernel
theorem dX4_numberOfToken_27 : decode cX4_numberOfToken 27 = .ok (.iadd, 1) := by decide +kernel
theorem dX4_numberOfToken_28 : decode cX4_numberOfToken 28 = .ok (.bipush 48, 2) := by decide +kernel
theorem dX4_numberOfToken_30 : decode cX4_numberOfToken 30 = .ok (.isub, 1) := by decide +kernel
theorem dX4_numberOfToken_31 : decode cX4_numberOfToken 31 = .ok (.invokestatic 178, 3) := by decide +kernel
theorem dX4_numberOfToken_34 : decode cX4_numberOfToken 34 = .ok (.istore_n 1, 1) := by decide +kernel
theorem dX4_numberOfToken_35 : decode cX4_numberOfToken 35 = .ok (.iinc 2 1, 3) := by decide +kernel
theorem dX4_numberOfToken_38 : decode cX4_numberOfToken 38 = .ok (.goto (-31), 3) := by decide +kernel
theorem dX4_numberOfToken_41 : decode cX4_numberOfToken 41 = .ok (.iload_n 1, 1) := by decide +kernel
theorem dX4_numberOfToken_42 : decode cX4_numberOfToken 42 = .ok (.ireturn, 1) := by decide +kernel
theorem dX4_advance_0 : decode cX4_advance 0 = .ok (.aload_n 0, 1) := by decide +kernel
theorem dX4_advance_1 : decode cX4_advance 1 = .ok (.getfield 74, 3) := by decide +kernel
theorem dX4_advance_4 : decode cX4_advance 4 = .ok (.istore_n 1, 1) := by decide +kernel
theorem dX4_advance_5 : decode cX4_advance 5 = .ok (.iload_n 1, 1) := by decide +kernel
theorem dX4_advance_6 : decode cX4_advance 6 = .ok (.aload_n 0, 1) := by decide +kernel
theorem dX4_advance_7 : decode cX4_advance 7 = .ok (.getfield 71, 3) := by decide +kernel
theorem dX4_advance_10 : decode cX4_advance 10 = .ok (.if_icmp .ge 20, 3) := by decide +kernel
theorem dX4_advance_13 : decode cX4_advance 13 = .ok (.aload_n 0, 1) := by decide +kernel
theorem dX4_advance_14 : decode cX4_advance 14 = .ok (.iload_n 1, 1) := by decide +kernel
theorem dX4_advance_15 : decode cX4_advance 15 = .ok (.invokevirtual 183, 3) := by decide +kernel
theorem dX4_advance_18 : decode cX4_advance 18 = .ok (.sipush 256, 3) := by decide +kernel
theorem dX4_advance_21 : decode cX4_advance 21 = .ok (.if_icmp .ne 9, 3) := by decide +kernel
theorem dX4_advance_24 : decode cX4_advance 24 = .ok (.iinc 1 1, 3) := by decide +kernel
theorem dX4_advance_27 : decode cX4_advance 27 = .ok (.goto (-22), 3) := by decide +kernel
theorem dX4_advance_30 : decode cX4_advance 30 = .ok (.aload_n 0, 1) := by decide +kernel
theorem dX4_advance_31 : decode cX4_advance 31 = .ok (.iload_n 1, 1) := by decide +kernel
theorem dX4_advance_32 : decode cX4_advance 32 = .ok (.putfield 36, 3) := by decide +kernel
theorem dX4_advance_35 : decode cX4_advance 35 = .ok (.aload_n 0, 1) := by decide +kernel
theorem dX4_advance_36 : decode cX4_advance 36 = .ok (.aload_n 0, 1) := by decide +kernel
theorem dX4_advance_37 : decode cX4_advance 37 = .ok (.iload_n 1, 1) := by decide +kernel
theorem dX4_advance_38 : decode cX4_advance 38 = .ok (.invokevirtual 183, 3) := by decide +kernel
theorem dX4_advance_41 : decode cX4_advance 41 = .ok (.putfield 33, 3) := by decide +kernel
theorem dX4_advance_44 : decode cX4_advance 44 = .ok (.aload_n 0, 1) := by decide +kernel
theorem dX4_advance_45 : decode cX4_advance 45 = .ok (.getfield 33, 3) := by decide +kernel
theorem dX4_advance_48 : decode cX4_advance 48 = .ok (.sipush 257, 3) := by decide +kernel
theorem dX4_advance_51 : decode cX4_advance 51 = .ok (.if_icmp .eq 13, 3) := by decide +kernel
theorem dX4_advance_54 : decode cX4_advance 54 = .ok (.aload_n 0, 1) := by decide +kernel
theorem dX4_advance_55 : decode cX4_advance 55 = .ok (.getfield 33, 3) := by decide +kernel
theorem dX4_advance_58 : decode cX4_advance 58 = .ok (.sipush 258, 3) := by decide +kernel
theorem dX4_advance_61 : decode cX4_advance 61 = .ok (.if_icmp .ne 29, 3) := by decide +kernel
theorem dX4_advance_64 : decode cX4_advance 64 = .ok (.iload_n 1, 1) := by decide +kernel
theorem dX4_advance_65 : decode cX4_advance 65 = .ok (.aload_n 0, 1) := by decide +kernel
theorem dX4_advance_66 : decode cX4_advance 66 = .ok (.getfield 71, 3) := by decide +kernel
theorem dX4_advance_69 : decode cX4_advance 69 = .ok (.if_icmp .ge 32, 3) := by decide +kernel
theorem dX4_advance_72 : decode cX4_advance 72 = .ok (.aload_n 0, 1) := by decide +kernel
theorem dX4_advance_73 : decode cX4_advance 73 = .ok (.iload_n 1, 1) := by decide +kernel
theorem dX4_advance_74 : decode cX4_advance 74 = .ok (.invokevirtual 183, 3) := by decide +kernel
theorem dX4_advance_77 : decode cX4_advance 77 = .ok (.aload_n 0, 1) := by decide +kernel
theorem dX4_advance_78 : decode cX4_advance 78 = .ok (.getfield 33, 3) := by decide +kernel
theorem dX4_advance_81 : decode cX4_advance 81 = .ok (.if_icmp .ne 20, 3) := by decide +kernel
theorem dX4_advance_84 : decode cX4_advance 84 = .ok (.iinc 1 1, 3) := by decide +kernel
theorem dX4_advance_87 : decode cX4_advance 87 = .ok (.goto (-23), 3) := by decide +kernel
theorem dX4_advance_90 : decode cX4_advance 90 = .ok (.iload_n 1, 1) := by decide +kernel
theorem dX4_advance_91 : decode cX4_advance 91 = .ok (.aload_n 0, 1) := by decide +kernel
theorem dX4_advance_92 : decode cX4_advance 92 = .ok (.getfield 71, 3) := by decide +kernel
theorem dX4_advance_95 : decode cX4_advance 95 = .ok (.if_icmp .ge 6, 3) := by decide +kernel
theorem dX4_advance_98 : decode cX4_advance 98 = .ok (.iinc 1 1, 3) := by decide +kernel
theorem dX4_advance_101 : decode cX4_advance 101 = .ok (.aload_n 0, 1) := by decide +kernel
theorem dX4_advance_102 : decode cX4_advance 102 = .ok (.iload_n 1, 1) := by decide +kernel
theorem dX4_advance_103 : decode cX4_advance 103 = .ok (.putfield 74, 3) := by decide +kernel
theorem dX4_advance_106 : decode cX4_advance 106 = .ok (.return_, 1) := by decide +kernel
theorem dX4_kindAt_0 : decode cX4_kindAt 0 = .ok (.iload_n 1, 1) := by decide +kernel
theorem dX4_kindAt_1 : decode cX4_kindAt 1 = .ok (.aload_n 0, 1) := by decide +kernel
theorem dX4_kindAt_2 : decode cX4_kindAt 2 = .ok (.getfield 71, 3) := by decide +kernel
theorem dX4_kindAt_5 : decode cX4_kindAt 5 = .ok (.if_icmp .lt 7, 3) := by decide +kernel
theorem dX4_kindAt_8 : decode cX4_kindAt 8 = .ok (.sipush 259, 3) := by decide +kernel
theorem dX4_kindAt_11 : decode cX4_kindAt 11 = .ok (.ireturn, 1) := by decide +kernel
theorem dX4_kindAt_12 : decode cX4_kindAt 12 = .ok (.aload_n 0, 1) := by decide +kernel
theorem dX4_kindAt_13 : decode cX4_kindAt 13 = .ok (.iload_n 1, 1) := by decide +kernel
theorem dX4_kindAt_14 : decode cX4_kindAt 14 = .ok (.invokevirtual 140, 3) := by decide +kernel
theorem dX4_kindAt_17 : decode cX4_kindAt 17 = .ok (.istore_n 2, 1) := by decide +kernel
theorem dX4_kindAt_18 : decode cX4_kindAt 18 = .ok (.iload_n 2, 1) := by decide +kernel
theorem dX4_kindAt_19 : decode cX4_kindAt 19 = .ok (.bipush 10, 2) := by decide +kernel
theorem dX4_kindAt_21 : decode cX4_kindAt 21 = .ok (.if_icmp .eq 9, 3) := by decide +kernel
theorem dX4_kindAt_24 : decode cX4_kindAt 24 = .ok (.iload_n 2, 1) := by decide +kernel
theorem dX4_kindAt_25 : decode cX4_kindAt 25 = .ok (.bipush 32, 2) := by decide +kernel
theorem dX4_kindAt_27 : decode cX4_kindAt 27 = .ok (.if_icmp .ne 7, 3) := by decide +kernel
theorem dX4_kindAt_30 : decode cX4_kindAt 30 = .ok (.sipush 256, 3) := by decide +kernel
theorem dX4_kindAt_33 : decode cX4_kindAt 33 = .ok (.ireturn, 1) := by decide +kernel
theorem dX4_kindAt_34 : decode cX4_kindAt 34 = .ok (.iload_n 2, 1) := by decide +kernel
theorem dX4_kindAt_35 : decode cX4_kindAt 35 = .ok (.bipush 97, 2) := by decide +kernel
theorem dX4_kindAt_37 : decode cX4_kindAt 37 = .ok (.if_icmp .lt 9, 3) := by decide +kernel
theorem dX4_kindAt_40 : decode cX4_kindAt 40 = .ok (.iload_n 2, 1) := by decide +kernel
theorem dX4_kindAt_41 : decode cX4_kindAt 41 = .ok (.bipush 122, 2) := by decide +kernel
theorem dX4_kindAt_43 : decode cX4_kindAt 43 = .ok (.if_icmp .le 15, 3) := by decide +kernel
theorem dX4_kindAt_46 : decode cX4_kindAt 46 = .ok (.iload_n 2, 1) := by decide +kernel
theorem dX4_kindAt_47 : decode cX4_kindAt 47 = .ok (.bipush 65, 2) := by decide +kernel
theorem dX4_kindAt_49 : decode cX4_kindAt 49 = .ok (.if_icmp .lt 13, 3) := by decide +kernel
theorem dX4_kindAt_52 : decode cX4_kindAt 52 = .ok (.iload_n 2, 1) := by decide +kernel
theorem dX4_kindAt_53 : decode cX4_kindAt 53 = .ok (.bipush 90, 2) := by decide +kernel
theorem dX4_kindAt_55 : decode cX4_kindAt 55 = .ok (.if_icmp .gt 7, 3) := by decide +kernel
theorem dX4_kindAt_58 : decode cX4_kindAt 58 = .ok (.sipush 257, 3) := by decide +kernel
theorem dX4_kindAt_61 : decode cX4_kindAt 61 = .ok (.ireturn, 1) := by decide +kernel
theorem dX4_kindAt_62 : decode cX4_kindAt 62 = .ok (.iload_n 2, 1) := by decide +kernel
theorem dX4_kindAt_63 : decode cX4_kindAt 63 = .ok (.bipush 48, 2) := by decide +kernel
theorem dX4_kindAt_65 : decode cX4_kindAt 65 = .ok (.if_icmp .lt 15, 3) := by decide +kernel
theorem dX4_kindAt_68 : decode cX4_kindAt 68 = .ok (.iload_n 2, 1) := by decide +kernel
theorem dX4_kindAt_69 : decode cX4_kindAt 69 = .ok (.bipush 57, 2) := by decide +kernel
theorem dX4_kindAt_71 : decode cX4_kindAt 71 = .ok (.if_icmp .gt 9, 3) := by decide +kernel
theorem dX4_kindAt_74 : decode cX4_kindAt 74 = .ok (.sipush 258, 3) := by decide +kernel
theorem dX4_kindAt_77 : decode cX4_kindAt 77 = .ok (.goto 4, 3) := by decide +kernel
theorem dX4_kindAt_80 : decode cX4_kindAt 80 = .ok (.iload_n 2, 1) := by decide +kernel
theorem dX4_kindAt_81 : decode cX4_kindAt 81 = .ok (.ireturn, 1) := by decide +kernel
theorem dX4_byteAt_0 : decode cX4_byteAt 0 = .ok (.iload_n 1, 1) := by decide +kernel
theorem dX4_byteAt_1 : decode cX4_byteAt 1 = .ok (.ifCond .lt 33, 3) := by decide +kernel
theorem dX4_byteAt_4 : decode cX4_byteAt 4 = .ok (.iload_n 1, 1) := by decide +kernel
theorem dX4_byteAt_5 : decode cX4_byteAt 5 = .ok (.aload_n 0, 1) := by decide +kernel
theorem dX4_byteAt_6 : decode cX4_byteAt 6 = .ok (.getfield 71, 3) := by decide +kernel
theorem dX4_byteAt_9 : decode cX4_byteAt 9 = .ok (.if_icmp .ge 25, 3) := by decide +kernel
theorem dX4_byteAt_12 : decode cX4_byteAt 12 = .ok (.iload_n 1, 1) := by decide +kernel
theorem dX4_byteAt_13 : decode cX4_byteAt 13 = .ok (.aload_n 0, 1) := by decide +kernel
theorem dX4_byteAt_14 : decode cX4_byteAt 14 = .ok (.getfield 19, 3) := by decide +kernel
theorem dX4_byteAt_17 : decode cX4_byteAt 17 = .ok (.arraylength, 1) := by decide +kernel
theorem dX4_byteAt_18 : decode cX4_byteAt 18 = .ok (.if_icmp .ge 16, 3) := by decide +kernel
theorem dX4_byteAt_21 : decode cX4_byteAt 21 = .ok (.aload_n 0, 1) := by decide +kernel
theorem dX4_byteAt_22 : decode cX4_byteAt 22 = .ok (.getfield 19, 3) := by decide +kernel
theorem dX4_byteAt_25 : decode cX4_byteAt 25 = .ok (.iload_n 1, 1) := by decide +kernel
theorem dX4_byteAt_26 : decode cX4_byteAt 26 = .ok (.baload, 1) := by decide +kernel
theorem dX4_byteAt_27 : decode cX4_byteAt 27 = .ok (.sipush 255, 3) := by decide +kernel
theorem dX4_byteAt_30 : decode cX4_byteAt 30 = .ok (.iand, 1) := by decide +kernel
theorem dX4_byteAt_31 : decode cX4_byteAt 31 = .ok (.goto 4, 3) := by decide +kernel
theorem dX4_byteAt_34 : decode cX4_byteAt 34 = .ok (.iconst 0, 1) := by decide +kernel
theorem dX4_byteAt_35 : decode cX4_byteAt 35 = .ok (.ireturn, 1) := by decide +kernel
theorem dX5_init_0 : decode cX5_init 0 = .ok (.aload_n 0, 1) := by decide +kernel
theorem dX5_init_1 : decode cX5_init 1 = .ok (.invokespecial 3, 3) := by decide +kernel
theorem dX5_init_4 : decode cX5_init 4 = .ok (.aload_n 0, 1) := by decide +kernel
theorem dX5_init_5 : decode cX5_init 5 = .ok (.iload_n 1, 1) := by decide +kernel
theorem dX5_init_6 : decode cX5_init 6 = .ok (.putfield 9, 3) := by decide +kernel
theorem dX5_init_9 : decode cX5_init 9 = .ok (.aload_n 0, 1) := by decide +kernel
theorem dX5_init_10 : decode cX5_init 10 = .ok (.iconst 0, 1) := by decide +kernel
theorem dX5_init_11 : decode cX5_init 11 = .ok (.iload_n 1, 1) := by decide +kernel
theorem dX5_init_12 : decode cX5_init 12 = .ok (.iload_n 2, 1) := by decide +kernel
theorem dX5_init_13 : decode cX5_init 13 = .ok (.imul, 1) := by decide +kernel
theorem dX5_init_14 : decode cX5_init 14 = .ok (.invokestatic 15, 3) := by decide +kernel
theorem dX5_init_17 : decode cX5_init 17 = .ok (.newarray .long, 2) := by decide +kernel
theorem dX5_init_19 : decode cX5_init 19 = .ok (.putfield 21, 3) := by decide +kernel
theorem dX5_init_22 : decode cX5_init 22 = .ok (.return_, 1) := by decide +kernel
theorem dX5_clear_0 : decode cX5_clear 0 = .ok (.aload_n 0, 1) := by decide +kernel
theorem dX5_clear_1 : decode cX5_clear 1 = .ok (.iconst 0, 1) := by decide +kernel
theorem dX5_clear_2 : decode cX5_clear 2 = .ok (.putfield 25, 3) := by decide +kernel
theorem dX5_clear_5 : decode cX5_clear 5 = .ok (.return_, 1) := by decide +kernel
theorem dX5_add_0 : decode cX5_add 0 = .ok (.aload_n 0, 1) := by decide +kernel
theorem dX5_add_1 : decode cX5_add 1 = .ok (.getfield 25, 3) := by decide +kernel
theorem dX5_add_4 : decode cX5_add 4 = .ok (.iconst 1, 1) := by decide +kernel
theorem dX5_add_5 : decode cX5_add 5 = .ok (.iadd, 1) := by decide +kernel
theorem dX5_add_6 : decode cX5_add 6 = .ok (.aload_n 0, 1) := by decide +kernel
theorem dX5_add_7 : decode cX5_add 7 = .ok (.getfield 9, 3) := by decide +kernel
theorem dX5_add_10 : decode cX5_add 10 = .ok (.imul, 1) := by decide +kernel
theorem dX5_add_11 : decode cX5_add 11 = .ok (.aload_n 0, 1) := by decide +kernel
theorem dX5_add_12 : decode cX5_add 12 = .ok (.getfield 21, 3) := by decide +kernel
theorem dX5_add_15 : decode cX5_add 15 = .ok (.arraylength, 1) := by decide +kernel
theorem dX5_add_16 : decode cX5_add 16 = .ok (.if_icmp .le 4, 3) := by decide +kernel
theorem dX5_add_19 : decode cX5_add 19 = .ok (.return_, 1) := by decide +kernel
theorem dX5_add_20 : decode cX5_add 20 = .ok (.aload_n 0, 1) := by decide +kernel
theorem dX5_add_21 : decode cX5_add 21 = .ok (.iconst 0, 1) := by decide +kernel
theorem dX5_add_22 : decode cX5_add 22 = .ok (.lload_n 1, 1) := by decide +kernel
theorem dX5_add_23 : decode cX5_add 23 = .ok (.invokevirtual 28, 3) := by decide +kernel
theorem dX5_add_26 : decode cX5_add 26 = .ok (.aload_n 0, 1) := by decide +kernel
theorem dX5_add_27 : decode cX5_add 27 = .ok (.iconst 1, 1) := by decide +kernel
theorem dX5_add_28 : decode cX5_add 28 = .ok (.lload_n 3, 1) := by decide +kernel
theorem dX5_add_29 : decode cX5_add 29 = .ok (.invokevirtual 28, 3) := by decide +kernel
theorem dX5_add_32 : decode cX5_add 32 = .ok (.aload_n 0, 1) := by decide +kernel
theorem dX5_add_33 : decode cX5_add 33 = .ok (.iconst 2, 1) := by decide +kernel
theorem dX5_add_34 : decode cX5_add 34 = .ok (.lload 5, 2) := by decide +kernel
theorem dX5_add_36 : decode cX5_add 36 = .ok (.invokevirtual 28, 3) := by decide +kernel
theorem dX5_add_39 : decode cX5_add 39 = .ok (.aload_n 0, 1) := by decide +kernel
theorem dX5_add_40 : decode cX5_add 40 = .ok (.iconst 3, 1) := by decide +kernel
theorem dX5_add_41 : decode cX5_add 41 = .ok (.lload 7, 2) := by decide +kernel
theorem dX5_add_43 : decode cX5_add 43 = .ok (.invokevirtual 28, 3) := by decide +kernel
theorem dX5_add_46 : decode cX5_add 46 = .ok (.aload_n 0, 1) := by decide +kernel
theorem dX5_add_47 : decode cX5_add 47 = .ok (.dup, 1) := by decide +kernel
theorem dX5_add_48 : decode cX5_add 48 = .ok (.getfield 25, 3) := by decide +kernel
theorem dX5_add_51 : decode cX5_add 51 = .ok (.iconst 1, 1) := by decide +kernel
theorem dX5_add_52 : decode cX5_add 52 = .ok (.iadd, 1) := by decide +kernel
theorem dX5_add_53 : decode cX5_add 53 = .ok (.putfield 25, 3) := by decide +kernel
theorem dX5_add_56 : decode cX5_add 56 = .ok (.return_, 1) := by decide +kernel
theorem dX5_cell_0 : decode cX5_cell 0 = .ok (.iload_n 1, 1) := by decide +kernel
theorem dX5_cell_1 : decode cX5_cell 1 = .ok (.ifCond .lt 23, 3) := by decide +kernel
theorem dX5_cell_4 : decode cX5_cell 4 = .ok (.iload_n 1, 1) := by decide +kernel
theorem dX5_cell_5 : decode cX5_cell 5 = .ok (.aload_n 0, 1) := by decide +kernel
theorem dX5_cell_6 : decode cX5_cell 6 = .ok (.getfield 25, 3) := by decide +kernel
theorem dX5_cell_9 : decode cX5_cell 9 = .ok (.if_icmp .ge 15, 3) := by decide +kernel
theorem dX5_cell_12 : decode cX5_cell 12 = .ok (.iload_n 2, 1) := by decide +kernel
theorem dX5_cell_13 : decode cX5_cell 13 = .ok (.ifCond .lt 11, 3) := by decide +kernel
theorem dX5_cell_16 : decode cX5_cell 16 = .ok (.iload_n 2, 1) := by decide +kernel
theorem dX5_cell_17 : decode cX5_cell 17 = .ok (.aload_n 0, 1) := by decide +kernel
theorem dX5_cell_18 : decode cX5_cell 18 = .ok (.getfield 9, 3) := by decide +kernel
theorem dX5_cell_21 : decode cX5_cell 21 = .ok (.if_icmp .lt 7, 3) := by decide +kernel
theorem dX5_cell_24 : decode cX5_cell 24 = .ok (.ldc2_w 32, 3) := by decide +kernel
theorem dX5_cell_27 : decode cX5_cell 27 = .ok (.lreturn, 1) := by decide +kernel
theorem dX5_cell_28 : decode cX5_cell 28 = .ok (.iload_n 1, 1) := by decide +kernel
theorem dX5_cell_29 : decode cX5_cell 29 = .ok (.aload_n 0, 1) := by decide +kernel
theorem dX5_cell_30 : decode cX5_cell 30 = .ok (.getfield 9, 3) := by decide +kernel
theorem dX5_cell_33 : decode cX5_cell 33 = .ok (.imul, 1) := by decide +kernel
theorem dX5_cell_34 : decode cX5_cell 34 = .ok (.iload_n 2, 1) := by decide +kernel
theorem dX5_cell_35 : decode cX5_cell 35 = .ok (.iadd, 1) := by decide +kernel
theorem dX5_cell_36 : decode cX5_cell 36 = .ok (.istore_n 3, 1) := by decide +kernel
theorem dX5_cell_37 : decode cX5_cell 37 = .ok (.iload_n 3, 1) := by decide +kernel
theorem dX5_cell_38 : decode cX5_cell 38 = .ok (.aload_n 0, 1) := by decide +kernel
theorem dX5_cell_39 : decode cX5_cell 39 = .ok (.getfield 21, 3) := by decide +kernel
theorem dX5_cell_42 : decode cX5_cell 42 = .ok (.arraylength, 1) := by decide +kernel
theorem dX5_cell_43 : decode cX5_cell 43 = .ok (.if_icmp .ge 12, 3) := by decide +kernel
theorem dX5_cell_46 : decode cX5_cell 46 = .ok (.aload_n 0, 1) := by decide +kernel
theorem dX5_cell_47 : decode cX5_cell 47 = .ok (.getfield 21, 3) := by decide +kernel
theorem dX5_cell_50 : decode cX5_cell 50 = .ok (.iload_n 3, 1) := by decide +kernel
theorem dX5_cell_51 : decode cX5_cell 51 = .ok (.laload, 1) := by decide +kernel
theorem dX5_cell_52 : decode cX5_cell 52 = .ok (.goto 6, 3) := by decide +kernel
theorem dX5_cell_55 : decode cX5_cell 55 = .ok (.ldc2_w 32, 3) := by decide +kernel
theorem dX5_cell_58 : decode cX5_cell 58 = .ok (.lreturn, 1) := by decide +kernel
theorem dX5_put_0 : decode cX5_put 0 = .ok (.aload_n 0, 1) := by decide +kernel
theorem dX5_put_1 : decode cX5_put 1 = .ok (.getfield 25, 3) := by decide +kernel
theorem dX5_put_4 : decode cX5_put 4 = .ok (.aload_n 0, 1) := by decide +kernel
theorem dX5_put_5 : decode cX5_put 5 = .ok (.getfield 9, 3) := by decide +kernel
theorem dX5_put_8 : decode cX5_put 8 = .ok (.imul, 1) := by decide +kernel
theorem dX5_put_9 : decode cX5_put 9 = .ok (.iload_n 1, 1) := by decide +kernel
theorem dX5_put_10 : decode cX5_put 10 = .ok (.iadd, 1) := by decide +kernel
theorem dX5_put_11 : decode cX5_put 11 = .ok (.istore 4, 2) := by decide +kernel
theorem dX5_put_13 : decode cX5_put 13 = .ok (.iload_n 1, 1) := by decide +kernel
theorem dX5_put_14 : decode cX5_put 14 = .ok (.aload_n 0, 1) := by decide +kernel
theorem dX5_put_15 : decode cX5_put 15 = .ok (.getfield 9, 3) := by decide +kernel
theorem dX5_put_18 : decode cX5_put 18 = .ok (.if_icmp .ge 21, 3) := by decide +kernel
theorem dX5_put_21 : decode cX5_put 21 = .ok (.iload 4, 2) := by decide +kernel
theorem dX5_put_23 : decode cX5_put 23 = .ok (.aload_n 0, 1) := by decide +kernel
theorem dX5_put_24 : decode cX5_put 24 = .ok (.getfield 21, 3) := by decide +kernel
theorem dX5_put_27 : decode cX5_put 27 = .ok (.arraylength, 1) := by decide +kernel
theorem dX5_put_28 : decode cX5_put 28 = .ok (.if_icmp .ge 11, 3) := by decide +kernel
theorem dX5_put_31 : decode cX5_put 31 = .ok (.aload_n 0, 1) := by decide +kernel
theorem dX5_put_32 : decode cX5_put 32 = .ok (.getfield 21, 3) := by decide +kernel
theorem dX5_put_35 : decode cX5_put 35 = .ok (.iload 4, 2) := by decide +kernel
theorem dX5_put_37 : decode cX5_put 37 = .ok (.lload_n 2, 1) := by decide +kernel
theorem dX5_put_38 : decode cX5_put 38 = .ok (.lastore, 1) := by decide +kernel
theorem dX5_put_39 : decode cX5_put 39 = .ok (.return_, 1) := by decide +kernel
theorem dX6_init_0 : decode cX6_init 0 = .ok (.aload_n 0, 1) := by decide +kernel
theorem dX6_init_1 : decode cX6_init 1 = .ok (.invokespecial 3, 3) := by decide +kernel
theorem dX6_init_4 : decode cX6_init 4 = .ok (.aload_n 0, 1) := by decide +kernel
theorem dX6_init_5 : decode cX6_init 5 = .ok (.sipush 156, 3) := by decide +kernel
theorem dX6_init_8 : decode cX6_init 8 = .ok (.anewarray 9, 3) := by decide +kernel
theorem dX6_init_11 : decode cX6_init 11 = .ok (.putfield 11, 3) := by decide +kernel
theorem dX6_init_14 : decode cX6_init 14 = .ok (.aload_n 0, 1) := by decide +kernel
theorem dX6_init_15 : decode cX6_init 15 = .ok (.sipush 156, 3) := by decide +kernel
theorem dX6_init_18 : decode cX6_init 18 = .ok (.newarray .int, 2) := by decide +kernel
theorem dX6_init_20 : decode cX6_init 20 = .ok (.putfield 17, 3) := by decide +kernel
theorem dX6_init_23 : decode cX6_init 23 = .ok (.aload_n 0, 1) := by decide +kernel
theorem dX6_init_24 : decode cX6_init 24 = .ok (.sipush 156, 3) := by decide +kernel
theorem dX6_init_27 : decode cX6_init 27 = .ok (.newarray .int, 2) := by decide +kernel
theorem dX6_init_29 : decode cX6_init 29 = .ok (.putfield 21, 3) := by decide +kernel
theorem dX6_init_32 : decode cX6_init 32 = .ok (.return_, 1) := by decide +kernel
theorem dX6_clear_0 : decode cX6_clear 0 = .ok (.iconst 0, 1) := by decide +kernel
theorem dX6_clear_1 : decode cX6_clear 1 = .ok (.istore_n 1, 1) := by decide +kernel
theorem dX6_clear_2 : decode cX6_clear 2 = .ok (.iload_n 1, 1) := by decide +kernel
theorem dX6_clear_3 : decode cX6_clear 3 = .ok (.aload_n 0, 1) := by decide +kernel
theorem dX6_clear_4 : decode cX6_clear 4 = .ok (.getfield 11, 3) := by decide +kernel
theorem dX6_clear_7 : decode cX6_clear 7 = .ok (.arraylength, 1) := by decide +kernel
theorem dX6_clear_8 : decode cX6_clear 8 = .ok (.if_icmp .ge 16, 3) := by decide +kernel
theorem dX6_clear_11 : decode cX6_clear 11 = .ok (.aload_n 0, 1) := by decide +kernel
theorem dX6_clear_12 : decode cX6_clear 12 = .ok (.getfield 11, 3) := by decide +kernel
theorem dX6_clear_15 : decode cX6_clear 15 = .ok (.iload_n 1, 1) := by decide +kernel
theorem dX6_clear_16 : decode cX6_clear 16 = .ok (.aconst_null, 1) := by decide +kernel
theorem dX6_clear_17 : decode cX6_clear 17 = .ok (.aastore, 1) := by decide +kernel
theorem dX6_clear_18 : decode cX6_clear 18 = .ok (.iinc 1 1, 3) := by decide +kernel
theorem dX6_clear_21 : decode cX6_clear 21 = .ok (.goto (-19), 3) := by decide +kernel
theorem dX6_clear_24 : decode cX6_clear 24 = .ok (.aload_n 0, 1) := by decide +kernel
theorem dX6_clear_25 : decode cX6_clear 25 = .ok (.getfield 21, 3) := by decide +kernel
theorem dX6_clear_28 : decode cX6_clear 28 = .ok (.iconst 0, 1) := by decide +kernel
theorem dX6_clear_29 : decode cX6_clear 29 = .ok (.invokestatic 24, 3) := by decide +kernel
theorem dX6_clear_32 : decode cX6_clear 32 = .ok (.return_, 1) := by decide +kernel
theorem dX6_take_0 : decode cX6_take 0 = .ok (.iconst 0, 1) := by decide +kernel
theorem dX6_take_1 : decode cX6_take 1 = .ok (.istore_n 2, 1) := by decide +kernel
theorem dX6_take_2 : decode cX6_take 2 = .ok (.iload_n 2, 1) := by decide +kernel
theorem dX6_take_3 : decode cX6_take 3 = .ok (.aload_n 1, 1) := by decide +kernel
theorem dX6_take_4 : decode cX6_take 4 = .ok (.getfield 30, 3) := by decide +kernel
theorem dX6_take_7 : decode cX6_take 7 = .ok (.invokevirtual 36, 3) := by decide +kernel
theorem dX6_take_10 : decode cX6_take 10 = .ok (.if_icmp .ge 70, 3) := by decide +kernel
theorem dX6_take_13 : decode cX6_take 13 = .ok (.aload_n 1, 1) := by decide +kernel
theorem dX6_take_14 : decode cX6_take 14 = .ok (.getfield 30, 3) := by decide +kernel
theorem dX6_take_17 : decode cX6_take 17 = .ok (.iload_n 2, 1) := by decide +kernel
theorem dX6_take_18 : decode cX6_take 18 = .ok (.invokevirtual 42, 3) := by decide +kernel
theorem dX6_take_21 : decode cX6_take 21 = .ok (.checkcast 9, 3) := by decide +kernel
theorem dX6_take_24 : decode cX6_take 24 = .ok (.astore_n 3, 1) := by decide +kernel
theorem dX6_take_25 : decode cX6_take 25 = .ok (.aload_n 3, 1) := by decide +kernel
theorem dX6_take_26 : decode cX6_take 26 = .ok (.invokevirtual 46, 3) := by decide +kernel
theorem dX6_take_29 : decode cX6_take 29 = .ok (.istore 4, 2) := by decide +kernel
theorem dX6_take_31 : decode cX6_take 31 = .ok (.iload 4, 2) := by decide +kernel
theorem dX6_take_33 : decode cX6_take 33 = .ok (.ifCond .lt 41, 3) := by decide +kernel
theorem dX6_take_36 : decode cX6_take 36 = .ok (.iload 4, 2) := by decide +kernel
theorem dX6_take_38 : decode cX6_take 38 = .ok (.sipush 156, 3) := by decide +kernel
theorem dX6_take_41 : decode cX6_take 41 = .ok (.if_icmp .ge 33, 3) := by decide +kernel
theorem dX6_take_44 : decode cX6_take 44 = .ok (.aload_n 0, 1) := by decide +kernel
theorem dX6_take_45 : decode cX6_take 45 = .ok (.getfield 11, 3) := by decide +kernel
theorem dX6_take_48 : decode cX6_take 48 = .ok (.iload 4, 2) := by decide +kernel
theorem dX6_take_50 : decode cX6_take 50 = .ok (.aload_n 3, 1) := by decide +kernel
theorem dX6_take_51 : decode cX6_take 51 = .ok (.aastore, 1) := by decide +kernel
theorem dX6_take_52 : decode cX6_take 52 = .ok (.aload_n 0, 1) := by decide +kernel
theorem dX6_take_53 : decode cX6_take 53 = .ok (.getfield 17, 3) := by decide +kernel
theorem dX6_take_56 : decode cX6_take 56 = .ok (.iload 4, 2) := by decide +kernel
theorem dX6_take_58 : decode cX6_take 58 = .ok (.aload_n 1, 1) := by decide +kernel
theorem dX6_take_59 : decode cX6_take 59 = .ok (.getfield 49, 3) := by decide +kernel
theorem dX6_take_62 : decode cX6_take 62 = .ok (.iastore, 1) := by decide +kernel
theorem dX6_take_63 : decode cX6_take 63 = .ok (.aload_n 0, 1) := by decide +kernel
theorem dX6_take_64 : decode cX6_take 64 = .ok (.getfield 21, 3) := by decide +kernel
theorem dX6_take_67 : decode cX6_take 67 = .ok (.iload 4, 2) := by decide +kernel
theorem dX6_take_69 : decode cX6_take 69 = .ok (.dup2, 1) := by decide +kernel
theorem dX6_take_70 : decode cX6_take 70 = .ok (.iaload, 1) := by decide +kernel
theorem dX6_take_71 : decode cX6_take 71 = .ok (.iconst 1, 1) := by decide +kernel
theorem dX6_take_72 : decode cX6_take 72 = .ok (.iadd, 1) := by decide +kernel
theorem dX6_take_73 : decode cX6_take 73 = .ok (.iastore, 1) := by decide +kernel
theorem dX6_take_74 : decode cX6_take 74 = .ok (.iinc 2 1, 3) := by decide +kernel
theorem dX6_take_77 : decode cX6_take 77 = .ok (.goto (-75), 3) := by decide +kernel
theorem dX6_take_80 : decode cX6_take 80 = .ok (.return_, 1) := by decide +kernel
theorem dX6_winnerOf_0 : decode cX6_winnerOf 0 = .ok (.iload_n 1, 1) := by decide +kernel
theorem dX6_winnerOf_1 : decode cX6_winnerOf 1 = .ok (.ifCond .lt 21, 3) := by decide +kernel
theorem dX6_winnerOf_4 : decode cX6_winnerOf 4 = .ok (.iload_n 1, 1) := by decide +kernel
theorem dX6_winnerOf_5 : decode cX6_winnerOf 5 = .ok (.aload_n 0, 1) := by decide +kernel
theorem dX6_winnerOf_6 : decode cX6_winnerOf 6 = .ok (.getfield 11, 3) := by decide +kernel
theorem dX6_winnerOf_9 : decode cX6_winnerOf 9 = .ok (.arraylength, 1) := by decide +kernel
theorem dX6_winnerOf_10 : decode cX6_winnerOf 10 = .ok (.if_icmp .ge 12, 3) := by decide +kernel
theorem dX6_winnerOf_13 : decode cX6_winnerOf 13 = .ok (.aload_n 0, 1) := by decide +kernel
theorem dX6_winnerOf_14 : decode cX6_winnerOf 14 = .ok (.getfield 11, 3) := by decide +kernel
theorem dX6_winnerOf_17 : decode cX6_winnerOf 17 = .ok (.iload_n 1, 1) := by decide +kernel
theorem dX6_winnerOf_18 : decode cX6_winnerOf 18 = .ok (.aaload, 1) := by decide +kernel
theorem dX6_winnerOf_19 : decode cX6_winnerOf 19 = .ok (.goto 4, 3) := by decide +kernel
theorem dX6_winnerOf_22 : decode cX6_winnerOf 22 = .ok (.aconst_null, 1) := by decide +kernel
theorem dX6_winnerOf_23 : decode cX6_winnerOf 23 = .ok (.areturn, 1) := by decide +kernel
theorem dX6_agreementOf_0 : decode cX6_agreementOf 0 = .ok (.iload_n 1, 1) := by decide +kernel
theorem dX6_agreementOf_1 : decode cX6_agreementOf 1 = .ok (.ifCond .lt 21, 3) := by decide +kernel
theorem dX6_agreementOf_4 : decode cX6_agreementOf 4 = .ok (.iload_n 1, 1) := by decide +kernel
theorem dX6_agreementOf_5 : decode cX6_agreementOf 5 = .ok (.aload_n 0, 1) := by decide +kernel
theorem dX6_agreementOf_6 : decode cX6_agreementOf 6 = .ok (.getfield 17, 3) := by decide +kernel
theorem dX6_agreementOf_9 : decode cX6_agreementOf 9 = .ok (.arraylength, 1) := by decide +kernel
theorem dX6_agreementOf_10 : decode cX6_agreementOf 10 = .ok (.if_icmp .ge 12, 3) := by decide +kernel
theorem dX6_agreementOf_13 : decode cX6_agreementOf 13 = .ok (.aload_n 0, 1) := by decide +kernel
theorem dX6_agreementOf_14 : decode cX6_agreementOf 14 = .ok (.getfield 17, 3) := by decide +kernel
theorem dX6_agreementOf_17 : decode cX6_agreementOf 17 = .ok (.iload_n 1, 1) := by decide +kernel
theorem dX6_agreementOf_18 : decode cX6_agreementOf 18 = .ok (.iaload, 1) := by decide +kernel
theorem dX6_agreementOf_19 : decode cX6_agreementOf 19 = .ok (.goto 4, 3) := by decide +kernel
theorem dX6_agreementOf_22 : decode cX6_agreementOf 22 = .ok (.iconst (-1), 1) := by decide +kernel
theorem dX6_agreementOf_23 : decode cX6_agreementOf 23 = .ok (.ireturn, 1) := by decide +kernel
theorem dX6_linesOf_0 : decode cX6_linesOf 0 = .ok (.iload_n 1, 1) := by decide +kernel
theorem dX6_linesOf_1 : decode cX6_linesOf 1 = .ok (.ifCond .lt 21, 3) := by decide +kernel
theorem dX6_linesOf_4 : decode cX6_linesOf 4 = .ok (.iload_n 1, 1) := by decide +kernel
theorem dX6_linesOf_5 : decode cX6_linesOf 5 = .ok (.aload_n 0, 1) := by decide +kernel
theorem dX6_linesOf_6 : decode cX6_linesOf 6 = .ok (.getfield 21, 3) := by decide +kernel
theorem dX6_linesOf_9 : decode cX6_linesOf 9 = .ok (.arraylength, 1) := by decide +kernel
theorem dX6_linesOf_10 : decode cX6_linesOf 10 = .ok (.if_icmp .ge 12, 3) := by decide +kernel
theorem dX6_linesOf_13 : decode cX6_linesOf 13 = .ok (.aload_n 0, 1) := by decide +kernel
theorem dX6_linesOf_14 : decode cX6_linesOf 14 = .ok (.getfield 21, 3) := by decide +kernel
theorem dX6_linesOf_17 : decode cX6_linesOf 17 = .ok (.iload_n 1, 1) := by decide +kernel
theorem dX6_linesOf_18 : decode cX6_linesOf 18 = .ok (.iaload, 1) := by decide +kernel
theorem dX6_linesOf_19 : decode cX6_linesOf 19 = .ok (.goto 4, 3) := by decide +kernel
theorem dX6_linesOf_22 : decode cX6_linesOf 22 = .ok (.iconst 0, 1) := by decide +kernel
theorem dX6_linesOf_23 : decode cX6_linesOf 23 = .ok (.ireturn, 1) := by decide +kernel
theorem dX6_lineOf_0 : decode cX6_lineOf 0 = .ok (.iload_n 2, 1) := by decide +kernel
theorem dX6_lineOf_1 : decode cX6_lineOf 1 = .ok (.ifCond .lt 9, 3) := by decide +kernel
theorem dX6_lineOf_4 : decode cX6_lineOf 4 = .ok (.iload_n 2, 1) := by decide +kernel
theorem dX6_lineOf_5 : decode cX6_lineOf 5 = .ok (.bipush 26, 2) := by decide +kernel
theorem dX6_lineOf_7 : decode cX6_lineOf 7 = .ok (.if_icmp .lt 5, 3) := by decide +kernel
theorem dX6_lineOf_10 : decode cX6_lineOf 10 = .ok (.aconst_null, 1) := by decide +kernel
theorem dX6_lineOf_11 : decode cX6_lineOf 11 = .ok (.areturn, 1) := by decide +kernel
theorem dX6_lineOf_12 : decode cX6_lineOf 12 = .ok (.iload_n 1, 1) := by decide +kernel
theorem dX6_lineOf_13 : decode cX6_lineOf 13 = .ok (.bipush 26, 2) := by decide +kernel
theorem dX6_lineOf_15 : decode cX6_lineOf 15 = .ok (.imul, 1) := by decide +kernel
theorem dX6_lineOf_16 : decode cX6_lineOf 16 = .ok (.iload_n 2, 1) := by decide +kernel
theorem dX6_lineOf_17 : decode cX6_lineOf 17 = .ok (.iadd, 1) := by decide +kernel
theorem dX6_lineOf_18 : decode cX6_lineOf 18 = .ok (.istore_n 3, 1) := by decide +kernel
theorem dX6_lineOf_19 : decode cX6_lineOf 19 = .ok (.iload_n 3, 1) := by decide +kernel
theorem dX6_lineOf_20 : decode cX6_lineOf 20 = .ok (.ifCond .lt 21, 3) := by decide +kernel
theorem dX6_lineOf_23 : decode cX6_lineOf 23 = .ok (.iload_n 3, 1) := by decide +kernel
theorem dX6_lineOf_24 : decode cX6_lineOf 24 = .ok (.aload_n 0, 1) := by decide +kernel
theorem dX6_lineOf_25 : decode cX6_lineOf 25 = .ok (.getfield 11, 3) := by decide +kernel
theorem dX6_lineOf_28 : decode cX6_lineOf 28 = .ok (.arraylength, 1) := by decide +kernel
theorem dX6_lineOf_29 : decode cX6_lineOf 29 = .ok (.if_icmp .ge 12, 3) := by decide +kernel
theorem dX6_lineOf_32 : decode cX6_lineOf 32 = .ok (.aload_n 0, 1) := by decide +kernel
theorem dX6_lineOf_33 : decode cX6_lineOf 33 = .ok (.getfield 11, 3) := by decide +kernel
theorem dX6_lineOf_36 : decode cX6_lineOf 36 = .ok (.iload_n 3, 1) := by decide +kernel
theorem dX6_lineOf_37 : decode cX6_lineOf 37 = .ok (.aaload, 1) := by decide +kernel
theorem dX6_lineOf_38 : decode cX6_lineOf 38 = .ok (.goto 4, 3) := by decide +kernel
theorem dX6_lineOf_41 : decode cX6_lineOf 41 = .ok (.aconst_null, 1) := by decide +kernel
theorem dX6_lineOf_42 : decode cX6_lineOf 42 = .ok (.astore 4, 2) := by decide +kernel
theorem dX6_lineOf_44 : decode cX6_lineOf 44 = .ok (.aload 4, 2) := by decide +kernel
theorem dX6_lineOf_46 : decode cX6_lineOf 46 = .ok (.ifnull 11, 3) := by decide +kernel
theorem dX6_lineOf_49 : decode cX6_lineOf 49 = .ok (.aload 4, 2) := by decide +kernel
theorem dX6_lineOf_51 : decode cX6_lineOf 51 = .ok (.getfield 53, 3) := by decide +kernel
theorem dX6_lineOf_54 : decode cX6_lineOf 54 = .ok (.ifCond .eq 7, 3) := by decide +kernel
theorem dX6_lineOf_57 : decode cX6_lineOf 57 = .ok (.aconst_null, 1) := by decide +kernel
theorem dX6_lineOf_58 : decode cX6_lineOf 58 = .ok (.goto 5, 3) := by decide +kernel
theorem dX6_lineOf_61 : decode cX6_lineOf 61 = .ok (.aload 4, 2) := by decide +kernel
theorem dX6_lineOf_63 : decode cX6_lineOf 63 = .ok (.areturn, 1) := by decide +kernel
theorem dX6_numberOf_0 : decode cX6_numberOf 0 = .ok (.aload_n 0, 1) := by decide +kernel
theorem dX6_numberOf_1 : decode cX6_numberOf 1 = .ok (.iload_n 1, 1) := by decide +kernel
theorem dX6_numberOf_2 : decode cX6_numberOf 2 = .ok (.iconst 0, 1) := by decide +kernel
theorem dX6_numberOf_3 : decode cX6_numberOf 3 = .ok (.invokevirtual 57, 3) := by decide +kernel
theorem dX6_numberOf_6 : decode cX6_numberOf 6 = .ok (.astore_n 3, 1) := by decide +kernel
theorem dX6_numberOf_7 : decode cX6_numberOf 7 = .ok (.aload_n 3, 1) := by decide +kernel
theorem dX6_numberOf_8 : decode cX6_numberOf 8 = .ok (.ifnonnull 7, 3) := by decide +kernel
theorem dX6_numberOf_11 : decode cX6_numberOf 11 = .ok (.iload_n 2, 1) := by decide +kernel
theorem dX6_numberOf_12 : decode cX6_numberOf 12 = .ok (.goto 7, 3) := by decide +kernel
theorem dX6_numberOf_15 : decode cX6_numberOf 15 = .ok (.aload_n 3, 1) := by decide +kernel
theorem dX6_numberOf_16 : decode cX6_numberOf 16 = .ok (.getfield 61, 3) := by decide +kernel
theorem dX6_numberOf_19 : decode cX6_numberOf 19 = .ok (.ireturn, 1) := by decide +kernel
theorem dX6_pointsBy_0 : decode cX6_pointsBy 0 = .ok (.iconst 0, 1) := by decide +kernel
theorem dX6_pointsBy_1 : decode cX6_pointsBy 1 = .ok (.istore_n 2, 1) := by decide +kernel
theorem dX6_pointsBy_2 : decode cX6_pointsBy 2 = .ok (.iconst 0, 1) := by decide +kernel
theorem dX6_pointsBy_3 : decode cX6_pointsBy 3 = .ok (.istore_n 3, 1) := by decide +kernel
theorem dX6_pointsBy_4 : decode cX6_pointsBy 4 = .ok (.iload_n 3, 1) := by decide +kernel
theorem dX6_pointsBy_5 : decode cX6_pointsBy 5 = .ok (.bipush 26, 2) := by decide +kernel
theorem dX6_pointsBy_7 : decode cX6_pointsBy 7 = .ok (.if_icmp .ge 39, 3) := by decide +kernel
theorem dX6_pointsBy_10 : decode cX6_pointsBy 10 = .ok (.aload_n 0, 1) := by decide +kernel
theorem dX6_pointsBy_11 : decode cX6_pointsBy 11 = .ok (.iconst 0, 1) := by decide +kernel
theorem dX6_pointsBy_12 : decode cX6_pointsBy 12 = .ok (.iload_n 3, 1) := by decide +kernel
theorem dX6_pointsBy_13 : decode cX6_pointsBy 13 = .ok (.invokevirtual 57, 3) := by decide +kernel
theorem dX6_pointsBy_16 : decode cX6_pointsBy 16 = .ok (.astore 4, 2) := by decide +kernel
theorem dX6_pointsBy_18 : decode cX6_pointsBy 18 = .ok (.aload 4, 2) := by decide +kernel
theorem dX6_pointsBy_20 : decode cX6_pointsBy 20 = .ok (.ifnull 20, 3) := by decide +kernel
theorem dX6_pointsBy_23 : decode cX6_pointsBy 23 = .ok (.aload 4, 2) := by decide +kernel
theorem dX6_pointsBy_25 : decode cX6_pointsBy 25 = .ok (.aload_n 1, 1) := by decide +kernel
theorem dX6_pointsBy_26 : decode cX6_pointsBy 26 = .ok (.invokevirtual 62, 3) := by decide +kernel
theorem dX6_pointsBy_29 : decode cX6_pointsBy 29 = .ok (.ifCond .eq 11, 3) := by decide +kernel
theorem dX6_pointsBy_32 : decode cX6_pointsBy 32 = .ok (.iload_n 2, 1) := by decide +kernel
theorem dX6_pointsBy_33 : decode cX6_pointsBy 33 = .ok (.aload 4, 2) := by decide +kernel
theorem dX6_pointsBy_35 : decode cX6_pointsBy 35 = .ok (.getfield 61, 3) := by decide +kernel
theorem dX6_pointsBy_38 : decode cX6_pointsBy 38 = .ok (.iadd, 1) := by decide +kernel
theorem dX6_pointsBy_39 : decode cX6_pointsBy 39 = .ok (.istore_n 2, 1) := by decide +kernel
theorem dX6_pointsBy_40 : decode cX6_pointsBy 40 = .ok (.iinc 3 1, 3) := by decide +kernel
theorem dX6_pointsBy_43 : decode cX6_pointsBy 43 = .ok (.goto (-39), 3) := by decide +kernel
theorem dX6_pointsBy_46 : decode cX6_pointsBy 46 = .ok (.iload_n 2, 1) := by decide +kernel
theorem dX6_pointsBy_47 : decode cX6_pointsBy 47 = .ok (.ireturn, 1) := by decide +kernel
theorem dX6_gradeBy_0 : decode cX6_gradeBy 0 = .ok (.iconst (-1), 1) := by decide +kernel
theorem dX6_gradeBy_1 : decode cX6_gradeBy 1 = .ok (.istore_n 2, 1) := by decide +kernel
theorem dX6_gradeBy_2 : decode cX6_gradeBy 2 = .ok (.iconst (-1), 1) := by decide +kernel
theorem dX6_gradeBy_3 : decode cX6_gradeBy 3 = .ok (.istore_n 3, 1) := by decide +kernel
theorem dX6_gradeBy_4 : decode cX6_gradeBy 4 = .ok (.iconst 0, 1) := by decide +kernel
theorem dX6_gradeBy_5 : decode cX6_gradeBy 5 = .ok (.istore 4, 2) := by decide +kernel
theorem dX6_gradeBy_7 : decode cX6_gradeBy 7 = .ok (.iload 4, 2) := by decide +kernel
theorem dX6_gradeBy_9 : decode cX6_gradeBy 9 = .ok (.bipush 26, 2) := by decide +kernel
theorem dX6_gradeBy_11 : decode cX6_gradeBy 11 = .ok (.if_icmp .ge 50, 3) := by decide +kernel
theorem dX6_gradeBy_14 : decode cX6_gradeBy 14 = .ok (.aload_n 0, 1) := by decide +kernel
theorem dX6_gradeBy_15 : decode cX6_gradeBy 15 = .ok (.iconst 1, 1) := by decide +kernel
theorem dX6_gradeBy_16 : decode cX6_gradeBy 16 = .ok (.iload 4, 2) := by decide +kernel
theorem dX6_gradeBy_18 : decode cX6_gradeBy 18 = .ok (.invokevirtual 57, 3) := by decide +kernel
theorem dX6_gradeBy_21 : decode cX6_gradeBy 21 = .ok (.astore 5, 2) := by decide +kernel
theorem dX6_gradeBy_23 : decode cX6_gradeBy 23 = .ok (.aload 5, 2) := by decide +kernel
theorem dX6_gradeBy_25 : decode cX6_gradeBy 25 = .ok (.ifnull 30, 3) := by decide +kernel
theorem dX6_gradeBy_28 : decode cX6_gradeBy 28 = .ok (.aload 5, 2) := by decide +kernel
theorem dX6_gradeBy_30 : decode cX6_gradeBy 30 = .ok (.getfield 61, 3) := by decide +kernel
theorem dX6_gradeBy_33 : decode cX6_gradeBy 33 = .ok (.iload_n 1, 1) := by decide +kernel
theorem dX6_gradeBy_34 : decode cX6_gradeBy 34 = .ok (.if_icmp .gt 21, 3) := by decide +kernel
theorem dX6_gradeBy_37 : decode cX6_gradeBy 37 = .ok (.aload 5, 2) := by decide +kernel
theorem dX6_gradeBy_39 : decode cX6_gradeBy 39 = .ok (.getfield 61, 3) := by decide +kernel
theorem dX6_gradeBy_42 : decode cX6_gradeBy 42 = .ok (.iload_n 3, 1) := by decide +kernel
theorem dX6_gradeBy_43 : decode cX6_gradeBy 43 = .ok (.if_icmp .le 12, 3) := by decide +kernel
theorem dX6_gradeBy_46 : decode cX6_gradeBy 46 = .ok (.iload 4, 2) := by decide +kernel
theorem dX6_gradeBy_48 : decode cX6_gradeBy 48 = .ok (.istore_n 2, 1) := by decide +kernel
theorem dX6_gradeBy_49 : decode cX6_gradeBy 49 = .ok (.aload 5, 2) := by decide +kernel
theorem dX6_gradeBy_51 : decode cX6_gradeBy 51 = .ok (.getfield 61, 3) := by decide +kernel
theorem dX6_gradeBy_54 : decode cX6_gradeBy 54 = .ok (.istore_n 3, 1) := by decide +kernel
theorem dX6_gradeBy_55 : decode cX6_gradeBy 55 = .ok (.iinc 4 1, 3) := by decide +kernel
theorem dX6_gradeBy_58 : decode cX6_gradeBy 58 = .ok (.goto (-51), 3) := by decide +kernel
theorem dX6_gradeBy_61 : decode cX6_gradeBy 61 = .ok (.iload_n 2, 1) := by decide +kernel
theorem dX6_gradeBy_62 : decode cX6_gradeBy 62 = .ok (.ireturn, 1) := by decide +kernel
theorem dX6_amountBy_0 : decode cX6_amountBy 0 = .ok (.bipush 100, 2) := by decide +kernel
theorem dX6_amountBy_2 : decode cX6_amountBy 2 = .ok (.iload_n 1, 1) := by decide +kernel
theorem dX6_amountBy_3 : decode cX6_amountBy 3 = .ok (.imul, 1) := by decide +kernel
theorem dX6_amountBy_4 : decode cX6_amountBy 4 = .ok (.istore_n 3, 1) := by decide +kernel
theorem dX6_amountBy_5 : decode cX6_amountBy 5 = .ok (.iconst 0, 1) := by decide +kernel
theorem dX6_amountBy_6 : decode cX6_amountBy 6 = .ok (.istore 4, 2) := by decide +kernel
theorem dX6_amountBy_8 : decode cX6_amountBy 8 = .ok (.iload 4, 2) := by decide +kernel
theorem dX6_amountBy_10 : decode cX6_amountBy 10 = .ok (.bipush 26, 2) := by decide +kernel
theorem dX6_amountBy_12 : decode cX6_amountBy 12 = .ok (.if_icmp .ge 55, 3) := by decide +kernel
theorem dX6_amountBy_15 : decode cX6_amountBy 15 = .ok (.aload_n 0, 1) := by decide +kernel
theorem dX6_amountBy_16 : decode cX6_amountBy 16 = .ok (.iconst 5, 1) := by decide +kernel
theorem dX6_amountBy_17 : decode cX6_amountBy 17 = .ok (.iload 4, 2) := by decide +kernel
theorem dX6_amountBy_19 : decode cX6_amountBy 19 = .ok (.invokevirtual 57, 3) := by decide +kernel
theorem dX6_amountBy_22 : decode cX6_amountBy 22 = .ok (.astore 5, 2) := by decide +kernel
theorem dX6_amountBy_24 : decode cX6_amountBy 24 = .ok (.aload 5, 2) := by decide +kernel
theorem dX6_amountBy_26 : decode cX6_amountBy 26 = .ok (.ifnull 35, 3) := by decide +kernel
theorem dX6_amountBy_29 : decode cX6_amountBy 29 = .ok (.aload 5, 2) := by decide +kernel
theorem dX6_amountBy_31 : decode cX6_amountBy 31 = .ok (.aload_n 2, 1) := by decide +kernel
theorem dX6_amountBy_32 : decode cX6_amountBy 32 = .ok (.invokevirtual 62, 3) := by decide +kernel
theorem dX6_amountBy_35 : decode cX6_amountBy 35 = .ok (.ifCond .eq 26, 3) := by decide +kernel
theorem dX6_amountBy_38 : decode cX6_amountBy 38 = .ok (.iload_n 3, 1) := by decide +kernel
theorem dX6_amountBy_39 : decode cX6_amountBy 39 = .ok (.aload 5, 2) := by decide +kernel
theorem dX6_amountBy_41 : decode cX6_amountBy 41 = .ok (.getfield 61, 3) := by decide +kernel
theorem dX6_amountBy_44 : decode cX6_amountBy 44 = .ok (.aload 5, 2) := by decide +kernel
theorem dX6_amountBy_46 : decode cX6_amountBy 46 = .ok (.getfield 66, 3) := by decide +kernel
theorem dX6_amountBy_49 : decode cX6_amountBy 49 = .ok (.ifCond .eq 7, 3) := by decide +kernel
theorem dX6_amountBy_52 : decode cX6_amountBy 52 = .ok (.iload_n 1, 1) := by decide +kernel
theorem dX6_amountBy_53 : decode cX6_amountBy 53 = .ok (.goto 5, 3) := by decide +kernel
theorem dX6_amountBy_56 : decode cX6_amountBy 56 = .ok (.bipush 100, 2) := by decide +kernel
theorem dX6_amountBy_58 : decode cX6_amountBy 58 = .ok (.imul, 1) := by decide +kernel
theorem dX6_amountBy_59 : decode cX6_amountBy 59 = .ok (.iadd, 1) := by decide +kernel
theorem dX6_amountBy_60 : decode cX6_amountBy 60 = .ok (.istore_n 3, 1) := by decide +kernel
theorem dX6_amountBy_61 : decode cX6_amountBy 61 = .ok (.iinc 4 1, 3) := by decide +kernel
theorem dX6_amountBy_64 : decode cX6_amountBy 64 = .ok (.goto (-56), 3) := by decide +kernel
theorem dX6_amountBy_67 : decode cX6_amountBy 67 = .ok (.iload_n 3, 1) := by decide +kernel
theorem dX6_amountBy_68 : decode cX6_amountBy 68 = .ok (.ireturn, 1) := by decide +kernel
theorem dX7_init_0 : decode cX7_init 0 = .ok (.aload_n 0, 1) := by decide +kernel
theorem dX7_init_1 : decode cX7_init 1 = .ok (.invokespecial 3, 3) := by decide +kernel
theorem dX7_init_4 : decode cX7_init 4 = .ok (.aload_n 0, 1) := by decide +kernel
theorem dX7_init_5 : decode cX7_init 5 = .ok (.new 9, 3) := by decide +kernel
theorem dX7_init_8 : decode cX7_init 8 = .ok (.dup, 1) := by decide +kernel
theorem dX7_init_9 : decode cX7_init 9 = .ok (.invokespecial 11, 3) := by decide +kernel
theorem dX7_init_12 : decode cX7_init 12 = .ok (.putfield 12, 3) := by decide +kernel
theorem dX7_init_15 : decode cX7_init 15 = .ok (.aload_n 0, 1) := by decide +kernel
theorem dX7_init_16 : decode cX7_init 16 = .ok (.bipush 9, 2) := by decide +kernel
theorem dX7_init_18 : decode cX7_init 18 = .ok (.newarray .int, 2) := by decide +kernel
theorem dX7_init_20 : decode cX7_init 20 = .ok (.putfield 18, 3) := by decide +kernel
theorem dX7_init_23 : decode cX7_init 23 = .ok (.aload_n 0, 1) := by decide +kernel
theorem dX7_init_24 : decode cX7_init 24 = .ok (.bipush 8, 2) := by decide +kernel
theorem dX7_init_26 : decode cX7_init 26 = .ok (.newarray .int, 2) := by decide +kernel
theorem dX7_init_28 : decode cX7_init 28 = .ok (.putfield 22, 3) := by decide +kernel
theorem dX7_init_31 : decode cX7_init 31 = .ok (.aload_n 0, 1) := by decide +kernel
theorem dX7_init_32 : decode cX7_init 32 = .ok (.aload_n 1, 1) := by decide +kernel
theorem dX7_init_33 : decode cX7_init 33 = .ok (.putfield 25, 3) := by decide +kernel
theorem dX7_init_36 : decode cX7_init 36 = .ok (.aload_n 0, 1) := by decide +kernel
theorem dX7_init_37 : decode cX7_init 37 = .ok (.aload_n 2, 1) := by decide +kernel
theorem dX7_init_38 : decode cX7_init 38 = .ok (.putfield 29, 3) := by decide +kernel
theorem dX7_init_41 : decode cX7_init 41 = .ok (.aload_n 0, 1) := by decide +kernel
theorem dX7_init_42 : decode cX7_init 42 = .ok (.aload_n 3, 1) := by decide +kernel
theorem dX7_init_43 : decode cX7_init 43 = .ok (.putfield 32, 3) := by decide +kernel
theorem dX7_init_46 : decode cX7_init 46 = .ok (.aload_n 0, 1) := by decide +kernel
theorem dX7_init_47 : decode cX7_init 47 = .ok (.aload 4, 2) := by decide +kernel
theorem dX7_init_49 : decode cX7_init 49 = .ok (.putfield 35, 3) := by decide +kernel
theorem dX7_init_52 : decode cX7_init 52 = .ok (.return_, 1) := by decide +kernel
theorem dX7_begin_0 : decode cX7_begin 0 = .ok (.aload_n 0, 1) := by decide +kernel
theorem dX7_begin_1 : decode cX7_begin 1 = .ok (.iload_n 1, 1) := by decide +kernel
theorem dX7_begin_2 : decode cX7_begin 2 = .ok (.putfield 39, 3) := by decide +kernel
theorem dX7_begin_5 : decode cX7_begin 5 = .ok (.aload_n 0, 1) := by decide +kernel
theorem dX7_begin_6 : decode cX7_begin 6 = .ok (.iload_n 2, 1) := by decide +kernel
theorem dX7_begin_7 : decode cX7_begin 7 = .ok (.putfield 43, 3) := by decide +kernel
theorem dX7_begin_10 : decode cX7_begin 10 = .ok (.aload_n 0, 1) := by decide +kernel
theorem dX7_begin_11 : decode cX7_begin 11 = .ok (.iconst 0, 1) := by decide +kernel
theorem dX7_begin_12 : decode cX7_begin 12 = .ok (.putfield 46, 3) := by decide +kernel
theorem dX7_begin_15 : decode cX7_begin 15 = .ok (.aload_n 0, 1) := by decide +kernel
theorem dX7_begin_16 : decode cX7_begin 16 = .ok (.iconst 0, 1) := by decide +kernel
theorem dX7_begin_17 : decode cX7_begin 17 = .ok (.putfield 49, 3) := by decide +kernel
theorem dX7_begin_20 : decode cX7_begin 20 = .ok (.aload_n 0, 1) := by decide +kernel
theorem dX7_begin_21 : decode cX7_begin 21 = .ok (.iconst 0, 1) := by decide +kernel
theorem dX7_begin_22 : decode cX7_begin 22 = .ok (.putfield 52, 3) := by decide +kernel
theorem dX7_begin_25 : decode cX7_begin 25 = .ok (.aload_n 0, 1) := by decide +kernel
theorem dX7_begin_26 : decode cX7_begin 26 = .ok (.iconst 0, 1) := by decide +kernel
theorem dX7_begin_27 : decode cX7_begin 27 = .ok (.putfield 55, 3) := by decide +kernel
theorem dX7_begin_30 : decode cX7_begin 30 = .ok (.aload_n 0, 1) := by decide +kernel
theorem dX7_begin_31 : decode cX7_begin 31 = .ok (.iconst 0, 1) := by decide +kernel
theorem dX7_begin_32 : decode cX7_begin 32 = .ok (.putfield 58, 3) := by decide +kernel
theorem dX7_begin_35 : decode cX7_begin 35 = .ok (.aload_n 0, 1) := by decide +kernel
theorem dX7_begin_36 : decode cX7_begin 36 = .ok (.iconst 0, 1) := by decide +kernel
theorem dX7_begin_37 : decode cX7_begin 37 = .ok (.putfield 61, 3) := by decide +kernel
theorem dX7_begin_40 : decode cX7_begin 40 = .ok (.aload_n 0, 1) := by decide +kernel
theorem dX7_begin_41 : decode cX7_begin 41 = .ok (.iconst 0, 1) := by decide +kernel
theorem dX7_begin_42 : decode cX7_begin 42 = .ok (.putfield 64, 3) := by decide +kernel
theorem dX7_begin_45 : decode cX7_begin 45 = .ok (.aload_n 0, 1) := by decide +kernel
theorem dX7_begin_46 : decode cX7_begin 46 = .ok (.getfield 35, 3) := by decide +kernel
theorem dX7_begin_49 : decode cX7_begin 49 = .ok (.invokevirtual 67, 3) := by decide +kernel
theorem dX7_begin_52 : decode cX7_begin 52 = .ok (.aload_n 0, 1) := by decide +kernel
theorem dX7_begin_53 : decode cX7_begin 53 = .ok (.getfield 18, 3) := by decide +kernel
theorem dX7_begin_56 : decode cX7_begin 56 = .ok (.iconst 0, 1) := by decide +kernel
theorem dX7_begin_57 : decode cX7_begin 57 = .ok (.invokestatic 72, 3) := by decide +kernel
theorem dX7_begin_60 : decode cX7_begin 60 = .ok (.aload_n 0, 1) := by decide +kernel
theorem dX7_begin_61 : decode cX7_begin 61 = .ok (.getfield 18, 3) := by decide +kernel
theorem dX7_begin_64 : decode cX7_begin 64 = .ok (.bipush 7, 2) := by decide +kernel
theorem dX7_begin_66 : decode cX7_begin 66 = .ok (.bipush 11, 2) := by decide +kernel
theorem dX7_begin_68 : decode cX7_begin 68 = .ok (.iastore, 1) := by decide +kernel
theorem dX7_begin_69 : decode cX7_begin 69 = .ok (.aload_n 0, 1) := by decide +kernel
theorem dX7_begin_70 : decode cX7_begin 70 = .ok (.getfield 22, 3) := by decide +kernel
theorem dX7_begin_73 : decode cX7_begin 73 = .ok (.iconst 0, 1) := by decide +kernel
theorem dX7_begin_74 : decode cX7_begin 74 = .ok (.invokestatic 72, 3) := by decide +kernel
theorem dX7_begin_77 : decode cX7_begin 77 = .ok (.aload_n 0, 1) := by decide +kernel
theorem dX7_begin_78 : decode cX7_begin 78 = .ok (.iconst 1, 1) := by decide +kernel
theorem dX7_begin_79 : decode cX7_begin 79 = .ok (.putfield 78, 3) := by decide +kernel
theorem dX7_begin_82 : decode cX7_begin 82 = .ok (.aload_n 0, 1) := by decide +kernel
theorem dX7_begin_83 : decode cX7_begin 83 = .ok (.invokevirtual 82, 3) := by decide +kernel
theorem dX7_begin_86 : decode cX7_begin 86 = .ok (.return_, 1) := by decide +kernel
theorem dX7_goTo_0 : decode cX7_goTo 0 = .ok (.iconst 0, 1) := by decide +kernel
theorem dX7_goTo_1 : decode cX7_goTo 1 = .ok (.istore_n 2, 1) := by decide +kernel
theorem dX7_goTo_2 : decode cX7_goTo 2 = .ok (.iload_n 2, 1) := by decide +kernel
theorem dX7_goTo_3 : decode cX7_goTo 3 = .ok (.sipush 1200, 3) := by decide +kernel
theorem dX7_goTo_6 : decode cX7_goTo 6 = .ok (.if_icmp .ge 35, 3) := by decide +kernel
theorem dX7_goTo_9 : decode cX7_goTo 9 = .ok (.aload_n 0, 1) := by decide +kernel
theorem dX7_goTo_10 : decode cX7_goTo 10 = .ok (.getfield 46, 3) := by decide +kernel
theorem dX7_goTo_13 : decode cX7_goTo 13 = .ok (.iload_n 1, 1) := by decide +kernel
theorem dX7_goTo_14 : decode cX7_goTo 14 = .ok (.if_icmp .ge 27, 3) := by decide +kernel
theorem dX7_goTo_17 : decode cX7_goTo 17 = .ok (.aload_n 0, 1) := by decide +kernel
theorem dX7_goTo_18 : decode cX7_goTo 18 = .ok (.aload_n 0, 1) := by decide +kernel
theorem dX7_goTo_19 : decode cX7_goTo 19 = .ok (.iload_n 1, 1) := by decide +kernel
theorem dX7_goTo_20 : decode cX7_goTo 20 = .ok (.aload_n 0, 1) := by decide +kernel
theorem dX7_goTo_21 : decode cX7_goTo 21 = .ok (.getfield 46, 3) := by decide +kernel
theorem dX7_goTo_24 : decode cX7_goTo 24 = .ok (.isub, 1) := by decide +kernel
theorem dX7_goTo_25 : decode cX7_goTo 25 = .ok (.invokevirtual 85, 3) := by decide +kernel
theorem dX7_goTo_28 : decode cX7_goTo 28 = .ok (.invokevirtual 89, 3) := by decide +kernel
theorem dX7_goTo_31 : decode cX7_goTo 31 = .ok (.aload_n 0, 1) := by decide +kernel
theorem dX7_goTo_32 : decode cX7_goTo 32 = .ok (.invokevirtual 82, 3) := by decide +kernel
theorem dX7_goTo_35 : decode cX7_goTo 35 = .ok (.iinc 2 1, 3) := by decide +kernel
theorem dX7_goTo_38 : decode cX7_goTo 38 = .ok (.goto (-36), 3) := by decide +kernel
theorem dX7_goTo_41 : decode cX7_goTo 41 = .ok (.return_, 1) := by decide +kernel
theorem dX7_payOfDays_0 : decode cX7_payOfDays 0 = .ok (.lconst 0, 1) := by decide +kernel
theorem dX7_payOfDays_1 : decode cX7_payOfDays 1 = .ok (.lstore_n 2, 1) := by decide +kernel
theorem dX7_payOfDays_2 : decode cX7_payOfDays 2 = .ok (.aload_n 0, 1) := by decide +kernel
theorem dX7_payOfDays_3 : decode cX7_payOfDays 3 = .ok (.getfield 46, 3) := by decide +kernel
theorem dX7_payOfDays_6 : decode cX7_payOfDays 6 = .ok (.iload_n 1, 1) := by decide +kernel
theorem dX7_payOfDays_7 : decode cX7_payOfDays 7 = .ok (.iadd, 1) := by decide +kernel
theorem dX7_payOfDays_8 : decode cX7_payOfDays 8 = .ok (.istore 4, 2) := by decide +kernel
theorem dX7_payOfDays_10 : decode cX7_payOfDays 10 = .ok (.iconst 0, 1) := by decide +kernel
theorem dX7_payOfDays_11 : decode cX7_payOfDays 11 = .ok (.istore 5, 2) := by decide +kernel
theorem dX7_payOfDays_13 : decode cX7_payOfDays 13 = .ok (.iload 5, 2) := by decide +kernel
theorem dX7_payOfDays_15 : decode cX7_payOfDays 15 = .ok (.sipush 1200, 3) := by decide +kernel
theorem dX7_payOfDays_18 : decode cX7_payOfDays 18 = .ok (.if_icmp .ge 52, 3) := by decide +kernel
theorem dX7_payOfDays_21 : decode cX7_payOfDays 21 = .ok (.aload_n 0, 1) := by decide +kernel
theorem dX7_payOfDays_22 : decode cX7_payOfDays 22 = .ok (.getfield 46, 3) := by decide +kernel
theorem dX7_payOfDays_25 : decode cX7_payOfDays 25 = .ok (.iload 4, 2) := by decide +kernel
theorem dX7_payOfDays_27 : decode cX7_payOfDays 27 = .ok (.if_icmp .ge 43, 3) := by decide +kernel
theorem dX7_payOfDays_30 : decode cX7_payOfDays 30 = .ok (.aload_n 0, 1) := by decide +kernel
theorem dX7_payOfDays_31 : decode cX7_payOfDays 31 = .ok (.iload 4, 2) := by decide +kernel
theorem dX7_payOfDays_33 : decode cX7_payOfDays 33 = .ok (.aload_n 0, 1) := by decide +kernel
theorem dX7_payOfDays_34 : decode cX7_payOfDays 34 = .ok (.getfield 46, 3) := by decide +kernel
theorem dX7_payOfDays_37 : decode cX7_payOfDays 37 = .ok (.isub, 1) := by decide +kernel
theorem dX7_payOfDays_38 : decode cX7_payOfDays 38 = .ok (.invokevirtual 85, 3) := by decide +kernel
theorem dX7_payOfDays_41 : decode cX7_payOfDays 41 = .ok (.istore 6, 2) := by decide +kernel
theorem dX7_payOfDays_43 : decode cX7_payOfDays 43 = .ok (.lload_n 2, 1) := by decide +kernel
theorem dX7_payOfDays_44 : decode cX7_payOfDays 44 = .ok (.iload 6, 2) := by decide +kernel
theorem dX7_payOfDays_46 : decode cX7_payOfDays 46 = .ok (.i2l, 1) := by decide +kernel
theorem dX7_payOfDays_47 : decode cX7_payOfDays 47 = .ok (.aload_n 0, 1) := by decide +kernel
theorem dX7_payOfDays_48 : decode cX7_payOfDays 48 = .ok (.invokevirtual 93, 3) := by decide +kernel
theorem dX7_payOfDays_51 : decode cX7_payOfDays 51 = .ok (.lmul, 1) := by decide +kernel
theorem dX7_payOfDays_52 : decode cX7_payOfDays 52 = .ok (.ladd, 1) := by decide +kernel
theorem dX7_payOfDays_53 : decode cX7_payOfDays 53 = .ok (.lstore_n 2, 1) := by decide +kernel
theorem dX7_payOfDays_54 : decode cX7_payOfDays 54 = .ok (.aload_n 0, 1) := by decide +kernel
theorem dX7_payOfDays_55 : decode cX7_payOfDays 55 = .ok (.iload 6, 2) := by decide +kernel
theorem dX7_payOfDays_57 : decode cX7_payOfDays 57 = .ok (.invokevirtual 89, 3) := by decide +kernel
theorem dX7_payOfDays_60 : decode cX7_payOfDays 60 = .ok (.aload_n 0, 1) := by decide +kernel
theorem dX7_payOfDays_61 : decode cX7_payOfDays 61 = .ok (.invokevirtual 82, 3) := by decide +kernel
theorem dX7_payOfDays_64 : decode cX7_payOfDays 64 = .ok (.iinc 5 1, 3) := by decide +kernel
theorem dX7_payOfDays_67 : decode cX7_payOfDays 67 = .ok (.goto (-54), 3) := by decide +kernel
theorem dX7_payOfDays_70 : decode cX7_payOfDays 70 = .ok (.lload_n 2, 1) := by decide +kernel
theorem dX7_payOfDays_71 : decode cX7_payOfDays 71 = .ok (.lreturn, 1) := by decide +kernel
theorem dX7_payOfDay_0 : decode cX7_payOfDay 0 = .ok (.aload_n 0, 1) := by decide +kernel
theorem dX7_payOfDay_1 : decode cX7_payOfDay 1 = .ok (.getfield 18, 3) := by decide +kernel
theorem dX7_payOfDay_4 : decode cX7_payOfDay 4 = .ok (.bipush 7, 2) := by decide +kernel
theorem dX7_payOfDay_6 : decode cX7_payOfDay 6 = .ok (.iaload, 1) := by decide +kernel
theorem dX7_payOfDay_7 : decode cX7_payOfDay 7 = .ok (.bipush 10, 2) := by decide +kernel
theorem dX7_payOfDay_9 : decode cX7_payOfDay 9 = .ok (.idiv, 1) := by decide +kernel
theorem dX7_payOfDay_10 : decode cX7_payOfDay 10 = .ok (.istore_n 1, 1) := by decide +kernel
theorem dX7_payOfDay_11 : decode cX7_payOfDay 11 = .ok (.aload_n 0, 1) := by decide +kernel
theorem dX7_payOfDay_12 : decode cX7_payOfDay 12 = .ok (.getfield 18, 3) := by decide +kernel
theorem dX7_payOfDay_15 : decode cX7_payOfDay 15 = .ok (.bipush 7, 2) := by decide +kernel
theorem dX7_payOfDay_17 : decode cX7_payOfDay 17 = .ok (.iaload, 1) := by decide +kernel
theorem dX7_payOfDay_18 : decode cX7_payOfDay 18 = .ok (.bipush 10, 2) := by decide +kernel
theorem dX7_payOfDay_20 : decode cX7_payOfDay 20 = .ok (.irem, 1) := by decide +kernel
theorem dX7_payOfDay_21 : decode cX7_payOfDay 21 = .ok (.istore_n 2, 1) := by decide +kernel
theorem dX7_payOfDay_22 : decode cX7_payOfDay 22 = .ok (.iload_n 2, 1) := by decide +kernel
theorem dX7_payOfDay_23 : decode cX7_payOfDay 23 = .ok (.ifCond .le 21, 3) := by decide +kernel
theorem dX7_payOfDay_26 : decode cX7_payOfDay 26 = .ok (.ldc2_w 97, 3) := by decide +kernel
theorem dX7_payOfDay_29 : decode cX7_payOfDay 29 = .ok (.aload_n 0, 1) := by decide +kernel
theorem dX7_payOfDay_30 : decode cX7_payOfDay 30 = .ok (.getfield 64, 3) := by decide +kernel
theorem dX7_payOfDay_33 : decode cX7_payOfDay 33 = .ok (.i2l, 1) := by decide +kernel
theorem dX7_payOfDay_34 : decode cX7_payOfDay 34 = .ok (.lmul, 1) := by decide +kernel
theorem dX7_payOfDay_35 : decode cX7_payOfDay 35 = .ok (.iload_n 1, 1) := by decide +kernel
theorem dX7_payOfDay_36 : decode cX7_payOfDay 36 = .ok (.i2l, 1) := by decide +kernel
theorem dX7_payOfDay_37 : decode cX7_payOfDay 37 = .ok (.lmul, 1) := by decide +kernel
theorem dX7_payOfDay_38 : decode cX7_payOfDay 38 = .ok (.iload_n 2, 1) := by decide +kernel
theorem dX7_payOfDay_39 : decode cX7_payOfDay 39 = .ok (.i2l, 1) := by decide +kernel
theorem dX7_payOfDay_40 : decode cX7_payOfDay 40 = .ok (.ldiv, 1) := by decide +kernel
theorem dX7_payOfDay_41 : decode cX7_payOfDay 41 = .ok (.goto 4, 3) := by decide +kernel
theorem dX7_payOfDay_44 : decode cX7_payOfDay 44 = .ok (.lconst 0, 1) := by decide +kernel
theorem dX7_payOfDay_45 : decode cX7_payOfDay 45 = .ok (.lreturn, 1) := by decide +kernel
theorem dX7_isHeld_0 : decode cX7_isHeld 0 = .ok (.aload_n 0, 1) := by decide +kernel
theorem dX7_isHeld_1 : decode cX7_isHeld 1 = .ok (.getfield 18, 3) := by decide +kernel
theorem dX7_isHeld_4 : decode cX7_isHeld 4 = .ok (.bipush 6, 2) := by decide +kernel
theorem dX7_isHeld_6 : decode cX7_isHeld 6 = .ok (.iaload, 1) := by decide +kernel
theorem dX7_isHeld_7 : decode cX7_isHeld 7 = .ok (.iconst 1, 1) := by decide +kernel
theorem dX7_isHeld_8 : decode cX7_isHeld 8 = .ok (.if_icmp .ne 7, 3) := by decide +kernel
theorem dX7_isHeld_11 : decode cX7_isHeld 11 = .ok (.iconst 1, 1) := by decide +kernel
theorem dX7_isHeld_12 : decode cX7_isHeld 12 = .ok (.goto 4, 3) := by decide +kernel
theorem dX7_isHeld_15 : decode cX7_isHeld 15 = .ok (.iconst 0, 1) := by decide +kernel
theorem dX7_isHeld_16 : decode cX7_isHeld 16 = .ok (.ireturn, 1) := by decide +kernel
theorem dX7_tell_0 : decode cX7_tell 0 = .ok (.iload_n 1, 1) := by decide +kernel
theorem dX7_tell_1 : decode cX7_tell 1 = .ok (.ifCond .lt 19, 3) := by decide +kernel
theorem dX7_tell_4 : decode cX7_tell 4 = .ok (.iload_n 1, 1) := by decide +kernel
theorem dX7_tell_5 : decode cX7_tell 5 = .ok (.aload_n 0, 1) := by decide +kernel
theorem dX7_tell_6 : decode cX7_tell 6 = .ok (.getfield 18, 3) := by decide +kernel
theorem dX7_tell_9 : decode cX7_tell 9 = .ok (.arraylength, 1) := by decide +kernel
theorem dX7_tell_10 : decode cX7_tell 10 = .ok (.if_icmp .ge 10, 3) := by decide +kernel
theorem dX7_tell_13 : decode cX7_tell 13 = .ok (.aload_n 0, 1) := by decide +kernel
theorem dX7_tell_14 : decode cX7_tell 14 = .ok (.getfield 18, 3) := by decide +kernel
theorem dX7_tell_17 : decode cX7_tell 17 = .ok (.iload_n 1, 1) := by decide +kernel
theorem dX7_tell_18 : decode cX7_tell 18 = .ok (.iaload, 1) := by decide +kernel
theorem dX7_tell_19 : decode cX7_tell 19 = .ok (.ireturn, 1) := by decide +kernel
theorem dX7_tell_20 : decode cX7_tell 20 = .ok (.iload_n 1, 1) := by decide +kernel
theorem dX7_tell_21 : decode cX7_tell 21 = .ok (.tableswitch 84 9 14 #[39, 47, 55, 60, 68, 76], 39) := by decide +kernel
theorem dX7_tell_60 : decode cX7_tell 60 = .ok (.aload_n 0, 1) := by decide +kernel
theorem dX7_tell_61 : decode cX7_tell 61 = .ok (.getfield 12, 3) := by decide +kernel
theorem dX7_tell_64 : decode cX7_tell 64 = .ok (.getfield 99, 3) := by decide +kernel
theorem dX7_tell_67 : decode cX7_tell 67 = .ok (.ireturn, 1) := by decide +kernel
theorem dX7_tell_68 : decode cX7_tell 68 = .ok (.aload_n 0, 1) := by decide +kernel
theorem dX7_tell_69 : decode cX7_tell 69 = .ok (.getfield 12, 3) := by decide +kernel
theorem dX7_tell_72 : decode cX7_tell 72 = .ok (.getfield 102, 3) := by decide +kernel
theorem dX7_tell_75 : decode cX7_tell 75 = .ok (.ireturn, 1) := by decide +kernel
theorem dX7_tell_76 : decode cX7_tell 76 = .ok (.aload_n 0, 1) := by decide +kernel
theorem dX7_tell_77 : decode cX7_tell 77 = .ok (.getfield 55, 3) := by decide +kernel
theorem dX7_tell_80 : decode cX7_tell 80 = .ok (.ireturn, 1) := by decide +kernel
theorem dX7_tell_81 : decode cX7_tell 81 = .ok (.aload_n 0, 1) := by decide +kernel
theorem dX7_tell_82 : decode cX7_tell 82 = .ok (.getfield 12, 3) := by decide +kernel
theorem dX7_tell_85 : decode cX7_tell 85 = .ok (.getfield 105, 3) := by decide +kernel
theorem dX7_tell_88 : decode cX7_tell 88 = .ok (.ireturn, 1) := by decide +kernel
theorem dX7_tell_89 : decode cX7_tell 89 = .ok (.aload_n 0, 1) := by decide +kernel
theorem dX7_tell_90 : decode cX7_tell 90 = .ok (.getfield 12, 3) := by decide +kernel
theorem dX7_tell_93 : decode cX7_tell 93 = .ok (.getfield 108, 3) := by decide +kernel
theorem dX7_tell_96 : decode cX7_tell 96 = .ok (.ireturn, 1) := by decide +kernel
theorem dX7_tell_97 : decode cX7_tell 97 = .ok (.aload_n 0, 1) := by decide +kernel
theorem dX7_tell_98 : decode cX7_tell 98 = .ok (.getfield 12, 3) := by decide +kernel
theorem dX7_tell_101 : decode cX7_tell 101 = .ok (.getfield 111, 3) := by decide +kernel
theorem dX7_tell_104 : decode cX7_tell 104 = .ok (.ireturn, 1) := by decide +kernel
theorem dX7_tell_105 : decode cX7_tell 105 = .ok (.aload_n 0, 1) := by decide +kernel
theorem dX7_tell_106 : decode cX7_tell 106 = .ok (.getfield 64, 3) := by decide +kernel
theorem dX7_tell_109 : decode cX7_tell 109 = .ok (.ireturn, 1) := by decide +kernel
theorem dX7_daysAlike_0 : decode cX7_daysAlike 0 = .ok (.iload_n 1, 1) := by decide +kernel
theorem dX7_daysAlike_1 : decode cX7_daysAlike 1 = .ok (.istore_n 2, 1) := by decide +kernel
theorem dX7_daysAlike_2 : decode cX7_daysAlike 2 = .ok (.aload_n 0, 1) := by decide +kernel
theorem dX7_daysAlike_3 : decode cX7_daysAlike 3 = .ok (.getfield 49, 3) := by decide +kernel
theorem dX7_daysAlike_6 : decode cX7_daysAlike 6 = .ok (.aload_n 0, 1) := by decide +kernel
theorem dX7_daysAlike_7 : decode cX7_daysAlike 7 = .ok (.getfield 25, 3) := by decide +kernel
theorem dX7_daysAlike_10 : decode cX7_daysAlike 10 = .ok (.invokevirtual 114, 3) := by decide +kernel
theorem dX7_daysAlike_13 : decode cX7_daysAlike 13 = .ok (.if_icmp .ge 30, 3) := by decide +kernel
theorem dX7_daysAlike_16 : decode cX7_daysAlike 16 = .ok (.iload_n 2, 1) := by decide +kernel
theorem dX7_daysAlike_17 : decode cX7_daysAlike 17 = .ok (.aload_n 0, 1) := by decide +kernel
theorem dX7_daysAlike_18 : decode cX7_daysAlike 18 = .ok (.getfield 25, 3) := by decide +kernel
theorem dX7_daysAlike_21 : decode cX7_daysAlike 21 = .ok (.aload_n 0, 1) := by decide +kernel
theorem dX7_daysAlike_22 : decode cX7_daysAlike 22 = .ok (.getfield 49, 3) := by decide +kernel
theorem dX7_daysAlike_25 : decode cX7_daysAlike 25 = .ok (.invokevirtual 120, 3) := by decide +kernel
theorem dX7_daysAlike_28 : decode cX7_daysAlike 28 = .ok (.checkcast 124, 3) := by decide +kernel
theorem dX7_daysAlike_31 : decode cX7_daysAlike 31 = .ok (.getfield 126, 3) := by decide +kernel
theorem dX7_daysAlike_34 : decode cX7_daysAlike 34 = .ok (.aload_n 0, 1) := by decide +kernel
theorem dX7_daysAlike_35 : decode cX7_daysAlike 35 = .ok (.getfield 46, 3) := by decide +kernel
theorem dX7_daysAlike_38 : decode cX7_daysAlike 38 = .ok (.isub, 1) := by decide +kernel
theorem dX7_daysAlike_39 : decode cX7_daysAlike 39 = .ok (.invokestatic 129, 3) := by decide +kernel
theorem dX7_daysAlike_42 : decode cX7_daysAlike 42 = .ok (.istore_n 2, 1) := by decide +kernel
theorem dX7_daysAlike_43 : decode cX7_daysAlike 43 = .ok (.aload_n 0, 1) := by decide +kernel
theorem dX7_daysAlike_44 : decode cX7_daysAlike 44 = .ok (.getfield 52, 3) := by decide +kernel
theorem dX7_daysAlike_47 : decode cX7_daysAlike 47 = .ok (.aload_n 0, 1) := by decide +kernel
theorem dX7_daysAlike_48 : decode cX7_daysAlike 48 = .ok (.getfield 29, 3) := by decide +kernel
theorem dX7_daysAlike_51 : decode cX7_daysAlike 51 = .ok (.invokevirtual 114, 3) := by decide +kernel
theorem dX7_daysAlike_54 : decode cX7_daysAlike 54 = .ok (.if_icmp .ge 30, 3) := by decide +kernel
theorem dX7_daysAlike_57 : decode cX7_daysAlike 57 = .ok (.iload_n 2, 1) := by decide +kernel
theorem dX7_daysAlike_58 : decode cX7_daysAlike 58 = .ok (.aload_n 0, 1) := by decide +kernel
theorem dX7_daysAlike_59 : decode cX7_daysAlike 59 = .ok (.getfield 29, 3) := by decide +kernel
theorem dX7_daysAlike_62 : decode cX7_daysAlike 62 = .ok (.aload_n 0, 1) := by decide +kernel
theorem dX7_daysAlike_63 : decode cX7_daysAlike 63 = .ok (.getfield 52, 3) := by decide +kernel
theorem dX7_daysAlike_66 : decode cX7_daysAlike 66 = .ok (.invokevirtual 120, 3) := by decide +kernel
theorem dX7_daysAlike_69 : decode cX7_daysAlike 69 = .ok (.checkcast 135, 3) := by decide +kernel
theorem dX7_daysAlike_72 : decode cX7_daysAlike 72 = .ok (.getfield 137, 3) := by decide +kernel
theorem dX7_daysAlike_75 : decode cX7_daysAlike 75 = .ok (.aload_n 0, 1) := by decide +kernel
theorem dX7_daysAlike_76 : decode cX7_daysAlike 76 = .ok (.getfield 46, 3) := by decide +kernel
theorem dX7_daysAlike_79 : decode cX7_daysAlike 79 = .ok (.isub, 1) := by decide +kernel
theorem dX7_daysAlike_80 : decode cX7_daysAlike 80 = .ok (.invokestatic 129, 3) := by decide +kernel
theorem dX7_daysAlike_83 : decode cX7_daysAlike 83 = .ok (.istore_n 2, 1) := by decide +kernel
theorem dX7_daysAlike_84 : decode cX7_daysAlike 84 = .ok (.iconst 1, 1) := by decide +kernel
theorem dX7_daysAlike_85 : decode cX7_daysAlike 85 = .ok (.iload_n 2, 1) := by decide +kernel
theorem dX7_daysAlike_86 : decode cX7_daysAlike 86 = .ok (.aload_n 0, 1) := by decide +kernel
theorem dX7_daysAlike_87 : decode cX7_daysAlike 87 = .ok (.getfield 12, 3) := by decide +kernel
theorem dX7_daysAlike_90 : decode cX7_daysAlike 90 = .ok (.aload_n 0, 1) := by decide +kernel
theorem dX7_daysAlike_91 : decode cX7_daysAlike 91 = .ok (.getfield 55, 3) := by decide +kernel
theorem dX7_daysAlike_94 : decode cX7_daysAlike 94 = .ok (.invokevirtual 138, 3) := by decide +kernel
theorem dX7_daysAlike_97 : decode cX7_daysAlike 97 = .ok (.invokestatic 129, 3) := by decide +kernel
theorem dX7_daysAlike_100 : decode cX7_daysAlike 100 = .ok (.invokestatic 141, 3) := by decide +kernel
theorem dX7_daysAlike_103 : decode cX7_daysAlike 103 = .ok (.ireturn, 1) := by decide +kernel
theorem dX7_passDays_0 : decode cX7_passDays 0 = .ok (.aload_n 0, 1) := by decide +kernel
theorem dX7_passDays_1 : decode cX7_passDays 1 = .ok (.dup, 1) := by decide +kernel
theorem dX7_passDays_2 : decode cX7_passDays 2 = .ok (.getfield 46, 3) := by decide +kernel
theorem dX7_passDays_5 : decode cX7_passDays 5 = .ok (.iload_n 1, 1) := by decide +kernel
theorem dX7_passDays_6 : decode cX7_passDays 6 = .ok (.iadd, 1) := by decide +kernel
theorem dX7_passDays_7 : decode cX7_passDays 7 = .ok (.putfield 46, 3) := by decide +kernel
theorem dX7_passDays_10 : decode cX7_passDays 10 = .ok (.aload_n 0, 1) := by decide +kernel
theorem dX7_passDays_11 : decode cX7_passDays 11 = .ok (.invokevirtual 144, 3) := by decide +kernel
theorem dX7_passDays_14 : decode cX7_passDays 14 = .ok (.ifCond .eq 19, 3) := by decide +kernel
theorem dX7_passDays_17 : decode cX7_passDays 17 = .ok (.aload_n 0, 1) := by decide +kernel
theorem dX7_passDays_18 : decode cX7_passDays 18 = .ok (.dup, 1) := by decide +kernel
theorem dX7_passDays_19 : decode cX7_passDays 19 = .ok (.getfield 55, 3) := by decide +kernel
theorem dX7_passDays_22 : decode cX7_passDays 22 = .ok (.iload_n 1, 1) := by decide +kernel
theorem dX7_passDays_23 : decode cX7_passDays 23 = .ok (.iadd, 1) := by decide +kernel
theorem dX7_passDays_24 : decode cX7_passDays 24 = .ok (.putfield 55, 3) := by decide +kernel
theorem dX7_passDays_27 : decode cX7_passDays 27 = .ok (.aload_n 0, 1) := by decide +kernel
theorem dX7_passDays_28 : decode cX7_passDays 28 = .ok (.iconst 0, 1) := by decide +kernel
theorem dX7_passDays_29 : decode cX7_passDays 29 = .ok (.putfield 58, 3) := by decide +kernel
theorem dX7_passDays_32 : decode cX7_passDays 32 = .ok (.return_, 1) := by decide +kernel
theorem dX7_passDays_33 : decode cX7_passDays 33 = .ok (.aload_n 0, 1) := by decide +kernel
theorem dX7_passDays_34 : decode cX7_passDays 34 = .ok (.dup, 1) := by decide +kernel
theorem dX7_passDays_35 : decode cX7_passDays 35 = .ok (.getfield 58, 3) := by decide +kernel
theorem dX7_passDays_38 : decode cX7_passDays 38 = .ok (.iload_n 1, 1) := by decide +kernel
theorem dX7_passDays_39 : decode cX7_passDays 39 = .ok (.iadd, 1) := by decide +kernel
theorem dX7_passDays_40 : decode cX7_passDays 40 = .ok (.putfield 58, 3) := by decide +kernel
theorem dX7_passDays_43 : decode cX7_passDays 43 = .ok (.aload_n 0, 1) := by decide +kernel
theorem dX7_passDays_44 : decode cX7_passDays 44 = .ok (.getfield 58, 3) := by decide +kernel
theorem dX7_passDays_47 : decode cX7_passDays 47 = .ok (.aload_n 0, 1) := by decide +kernel
theorem dX7_passDays_48 : decode cX7_passDays 48 = .ok (.getfield 35, 3) := by decide +kernel
theorem dX7_passDays_51 : decode cX7_passDays 51 = .ok (.iconst 4, 1) := by decide +kernel
theorem dX7_passDays_52 : decode cX7_passDays 52 = .ok (.iconst 0, 1) := by decide +kernel
theorem dX7_passDays_53 : decode cX7_passDays 53 = .ok (.invokevirtual 148, 3) := by decide +kernel
theorem dX7_passDays_56 : decode cX7_passDays 56 = .ok (.if_icmp .le 8, 3) := by decide +kernel
theorem dX7_passDays_59 : decode cX7_passDays 59 = .ok (.aload_n 0, 1) := by decide +kernel
theorem dX7_passDays_60 : decode cX7_passDays 60 = .ok (.iconst 0, 1) := by decide +kernel
theorem dX7_passDays_61 : decode cX7_passDays 61 = .ok (.putfield 55, 3) := by decide +kernel
theorem dX7_passDays_64 : decode cX7_passDays 64 = .ok (.return_, 1) := by decide +kernel
theorem dX7_isServing_0 : decode cX7_isServing 0 = .ok (.aload_n 0, 1) := by decide +kernel
theorem dX7_isServing_1 : decode cX7_isServing 1 = .ok (.getfield 39, 3) := by decide +kernel
theorem dX7_isServing_4 : decode cX7_isServing 4 = .ok (.ifCond .lt 15, 3) := by decide +kernel
theorem dX7_isServing_7 : decode cX7_isServing 7 = .ok (.aload_n 0, 1) := by decide +kernel
theorem dX7_isServing_8 : decode cX7_isServing 8 = .ok (.getfield 39, 3) := by decide +kernel
theorem dX7_isServing_11 : decode cX7_isServing 11 = .ok (.aload_n 0, 1) := by decide +kernel
theorem dX7_isServing_12 : decode cX7_isServing 12 = .ok (.getfield 32, 3) := by decide +kernel
theorem dX7_isServing_15 : decode cX7_isServing 15 = .ok (.arraylength, 1) := by decide +kernel
theorem dX7_isServing_16 : decode cX7_isServing 16 = .ok (.if_icmp .lt 5, 3) := by decide +kernel
theorem dX7_isServing_19 : decode cX7_isServing 19 = .ok (.iconst 0, 1) := by decide +kernel
theorem dX7_isServing_20 : decode cX7_isServing 20 = .ok (.ireturn, 1) := by decide +kernel
theorem dX7_isServing_21 : decode cX7_isServing 21 = .ok (.aload_n 0, 1) := by decide +kernel
theorem dX7_isServing_22 : decode cX7_isServing 22 = .ok (.getfield 32, 3) := by decide +kernel
theorem dX7_isServing_25 : decode cX7_isServing 25 = .ok (.aload_n 0, 1) := by decide +kernel
theorem dX7_isServing_26 : decode cX7_isServing 26 = .ok (.getfield 39, 3) := by decide +kernel
theorem dX7_isServing_29 : decode cX7_isServing 29 = .ok (.iaload, 1) := by decide +kernel
theorem dX7_isServing_30 : decode cX7_isServing 30 = .ok (.istore_n 1, 1) := by decide +kernel
theorem dX7_isServing_31 : decode cX7_isServing 31 = .ok (.iconst 0, 1) := by decide +kernel
theorem dX7_isServing_32 : decode cX7_isServing 32 = .ok (.istore_n 2, 1) := by decide +kernel
theorem dX7_isServing_33 : decode cX7_isServing 33 = .ok (.iload_n 2, 1) := by decide +kernel
theorem dX7_isServing_34 : decode cX7_isServing 34 = .ok (.aload_n 0, 1) := by decide +kernel
theorem dX7_isServing_35 : decode cX7_isServing 35 = .ok (.getfield 22, 3) := by decide +kernel
theorem dX7_isServing_38 : decode cX7_isServing 38 = .ok (.arraylength, 1) := by decide +kernel
theorem dX7_isServing_39 : decode cX7_isServing 39 = .ok (.if_icmp .ge 40, 3) := by decide +kernel
theorem dX7_isServing_42 : decode cX7_isServing 42 = .ok (.iload_n 2, 1) := by decide +kernel
theorem dX7_isServing_43 : decode cX7_isServing 43 = .ok (.aload_n 0, 1) := by decide +kernel
theorem dX7_isServing_44 : decode cX7_isServing 44 = .ok (.getfield 32, 3) := by decide +kernel
theorem dX7_isServing_47 : decode cX7_isServing 47 = .ok (.arraylength, 1) := by decide +kernel
theorem dX7_isServing_48 : decode cX7_isServing 48 = .ok (.if_icmp .ge 31, 3) := by decide +kernel
theorem dX7_isServing_51 : decode cX7_isServing 51 = .ok (.aload_n 0, 1) := by decide +kernel
theorem dX7_isServing_52 : decode cX7_isServing 52 = .ok (.getfield 22, 3) := by decide +kernel
theorem dX7_isServing_55 : decode cX7_isServing 55 = .ok (.iload_n 2, 1) := by decide +kernel
theorem dX7_isServing_56 : decode cX7_isServing 56 = .ok (.iaload, 1) := by decide +kernel
theorem dX7_isServing_57 : decode cX7_isServing 57 = .ok (.iconst 1, 1) := by decide +kernel
theorem dX7_isServing_58 : decode cX7_isServing 58 = .ok (.if_icmp .ne 15, 3) := by decide +kernel
theorem dX7_isServing_61 : decode cX7_isServing 61 = .ok (.aload_n 0, 1) := by decide +kernel
theorem dX7_isServing_62 : decode cX7_isServing 62 = .ok (.getfield 32, 3) := by decide +kernel
theorem dX7_isServing_65 : decode cX7_isServing 65 = .ok (.iload_n 2, 1) := by decide +kernel
theorem dX7_isServing_66 : decode cX7_isServing 66 = .ok (.iaload, 1) := by decide +kernel
theorem dX7_isServing_67 : decode cX7_isServing 67 = .ok (.iload_n 1, 1) := by decide +kernel
theorem dX7_isServing_68 : decode cX7_isServing 68 = .ok (.if_icmp .ne 5, 3) := by decide +kernel
theorem dX7_isServing_71 : decode cX7_isServing 71 = .ok (.iconst 1, 1) := by decide +kernel
theorem dX7_isServing_72 : decode cX7_isServing 72 = .ok (.ireturn, 1) := by decide +kernel
theorem dX7_isServing_73 : decode cX7_isServing 73 = .ok (.iinc 2 1, 3) := by decide +kernel
theorem dX7_isServing_76 : decode cX7_isServing 76 = .ok (.goto (-43), 3) := by decide +kernel
theorem dX7_isServing_79 : decode cX7_isServing 79 = .ok (.iconst 0, 1) := by decide +kernel
theorem dX7_isServing_80 : decode cX7_isServing 80 = .ok (.ireturn, 1) := by decide +kernel
theorem dX7_openDay_0 : decode cX7_openDay 0 = .ok (.aload_n 0, 1) := by decide +kernel
theorem dX7_openDay_1 : decode cX7_openDay 1 = .ok (.invokevirtual 151, 3) := by decide +kernel
theorem dX7_openDay_4 : decode cX7_openDay 4 = .ok (.aload_n 0, 1) := by decide +kernel
theorem dX7_openDay_5 : decode cX7_openDay 5 = .ok (.invokevirtual 154, 3) := by decide +kernel
theorem dX7_openDay_8 : decode cX7_openDay 8 = .ok (.aload_n 0, 1) := by decide +kernel
theorem dX7_openDay_9 : decode cX7_openDay 9 = .ok (.getfield 78, 3) := by decide +kernel
theorem dX7_openDay_12 : decode cX7_openDay 12 = .ok (.ifCond .eq 25, 3) := by decide +kernel
theorem dX7_openDay_15 : decode cX7_openDay 15 = .ok (.aload_n 0, 1) := by decide +kernel
theorem dX7_openDay_16 : decode cX7_openDay 16 = .ok (.getfield 12, 3) := by decide +kernel
theorem dX7_openDay_19 : decode cX7_openDay 19 = .ok (.aload_n 0, 1) := by decide +kernel
theorem dX7_openDay_20 : decode cX7_openDay 20 = .ok (.getfield 35, 3) := by decide +kernel
theorem dX7_openDay_23 : decode cX7_openDay 23 = .ok (.aload_n 0, 1) := by decide +kernel
theorem dX7_openDay_24 : decode cX7_openDay 24 = .ok (.getfield 18, 3) := by decide +kernel
theorem dX7_openDay_27 : decode cX7_openDay 27 = .ok (.aload_n 0, 1) := by decide +kernel
theorem dX7_openDay_28 : decode cX7_openDay 28 = .ok (.getfield 55, 3) := by decide +kernel
theorem dX7_openDay_31 : decode cX7_openDay 31 = .ok (.invokevirtual 157, 3) := by decide +kernel
theorem dX7_openDay_34 : decode cX7_openDay 34 = .ok (.goto 22, 3) := by decide +kernel
theorem dX7_openDay_37 : decode cX7_openDay 37 = .ok (.aload_n 0, 1) := by decide +kernel
theorem dX7_openDay_38 : decode cX7_openDay 38 = .ok (.getfield 12, 3) := by decide +kernel
theorem dX7_openDay_41 : decode cX7_openDay 41 = .ok (.aload_n 0, 1) := by decide +kernel
theorem dX7_openDay_42 : decode cX7_openDay 42 = .ok (.getfield 35, 3) := by decide +kernel
theorem dX7_openDay_45 : decode cX7_openDay 45 = .ok (.aload_n 0, 1) := by decide +kernel
theorem dX7_openDay_46 : decode cX7_openDay 46 = .ok (.getfield 18, 3) := by decide +kernel
theorem dX7_openDay_49 : decode cX7_openDay 49 = .ok (.aload_n 0, 1) := by decide +kernel
theorem dX7_openDay_50 : decode cX7_openDay 50 = .ok (.getfield 55, 3) := by decide +kernel
theorem dX7_openDay_53 : decode cX7_openDay 53 = .ok (.invokevirtual 161, 3) := by decide +kernel
theorem dX7_openDay_56 : decode cX7_openDay 56 = .ok (.aload_n 0, 1) := by decide +kernel
theorem dX7_openDay_57 : decode cX7_openDay 57 = .ok (.iconst 0, 1) := by decide +kernel
theorem dX7_openDay_58 : decode cX7_openDay 58 = .ok (.putfield 78, 3) := by decide +kernel
theorem dX7_openDay_61 : decode cX7_openDay 61 = .ok (.aload_n 0, 1) := by decide +kernel
