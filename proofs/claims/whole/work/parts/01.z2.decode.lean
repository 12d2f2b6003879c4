theorem dX7_openDay_62 : decode cX7_openDay 62 = .ok (.invokevirtual 164, 3) := by decide +kernel
theorem dX7_openDay_65 : decode cX7_openDay 65 = .ok (.return_, 1) := by decide +kernel
theorem dX7_takeAgreements_0 : decode cX7_takeAgreements 0 = .ok (.aload_n 0, 1) := by decide +kernel
theorem dX7_takeAgreements_1 : decode cX7_takeAgreements 1 = .ok (.getfield 49, 3) := by decide +kernel
theorem dX7_takeAgreements_4 : decode cX7_takeAgreements 4 = .ok (.istore_n 1, 1) := by decide +kernel
theorem dX7_takeAgreements_5 : decode cX7_takeAgreements 5 = .ok (.iload_n 1, 1) := by decide +kernel
theorem dX7_takeAgreements_6 : decode cX7_takeAgreements 6 = .ok (.aload_n 0, 1) := by decide +kernel
theorem dX7_takeAgreements_7 : decode cX7_takeAgreements 7 = .ok (.getfield 25, 3) := by decide +kernel
theorem dX7_takeAgreements_10 : decode cX7_takeAgreements 10 = .ok (.invokevirtual 114, 3) := by decide +kernel
theorem dX7_takeAgreements_13 : decode cX7_takeAgreements 13 = .ok (.if_icmp .ge 67, 3) := by decide +kernel
theorem dX7_takeAgreements_16 : decode cX7_takeAgreements 16 = .ok (.aload_n 0, 1) := by decide +kernel
theorem dX7_takeAgreements_17 : decode cX7_takeAgreements 17 = .ok (.getfield 25, 3) := by decide +kernel
theorem dX7_takeAgreements_20 : decode cX7_takeAgreements 20 = .ok (.iload_n 1, 1) := by decide +kernel
theorem dX7_takeAgreements_21 : decode cX7_takeAgreements 21 = .ok (.invokevirtual 120, 3) := by decide +kernel
theorem dX7_takeAgreements_24 : decode cX7_takeAgreements 24 = .ok (.checkcast 124, 3) := by decide +kernel
theorem dX7_takeAgreements_27 : decode cX7_takeAgreements 27 = .ok (.astore_n 2, 1) := by decide +kernel
theorem dX7_takeAgreements_28 : decode cX7_takeAgreements 28 = .ok (.aload_n 2, 1) := by decide +kernel
theorem dX7_takeAgreements_29 : decode cX7_takeAgreements 29 = .ok (.getfield 126, 3) := by decide +kernel
theorem dX7_takeAgreements_32 : decode cX7_takeAgreements 32 = .ok (.aload_n 0, 1) := by decide +kernel
theorem dX7_takeAgreements_33 : decode cX7_takeAgreements 33 = .ok (.getfield 46, 3) := by decide +kernel
theorem dX7_takeAgreements_36 : decode cX7_takeAgreements 36 = .ok (.if_icmp .le 4, 3) := by decide +kernel
theorem dX7_takeAgreements_39 : decode cX7_takeAgreements 39 = .ok (.return_, 1) := by decide +kernel
theorem dX7_takeAgreements_40 : decode cX7_takeAgreements 40 = .ok (.aload_n 2, 1) := by decide +kernel
theorem dX7_takeAgreements_41 : decode cX7_takeAgreements 41 = .ok (.getfield 167, 3) := by decide +kernel
theorem dX7_takeAgreements_44 : decode cX7_takeAgreements 44 = .ok (.aload_n 0, 1) := by decide +kernel
theorem dX7_takeAgreements_45 : decode cX7_takeAgreements 45 = .ok (.getfield 43, 3) := by decide +kernel
theorem dX7_takeAgreements_48 : decode cX7_takeAgreements 48 = .ok (.if_icmp .gt 16, 3) := by decide +kernel
theorem dX7_takeAgreements_51 : decode cX7_takeAgreements 51 = .ok (.aload_n 0, 1) := by decide +kernel
theorem dX7_takeAgreements_52 : decode cX7_takeAgreements 52 = .ok (.getfield 35, 3) := by decide +kernel
theorem dX7_takeAgreements_55 : decode cX7_takeAgreements 55 = .ok (.aload_n 2, 1) := by decide +kernel
theorem dX7_takeAgreements_56 : decode cX7_takeAgreements 56 = .ok (.invokevirtual 170, 3) := by decide +kernel
theorem dX7_takeAgreements_59 : decode cX7_takeAgreements 59 = .ok (.aload_n 0, 1) := by decide +kernel
theorem dX7_takeAgreements_60 : decode cX7_takeAgreements 60 = .ok (.iconst 1, 1) := by decide +kernel
theorem dX7_takeAgreements_61 : decode cX7_takeAgreements 61 = .ok (.putfield 78, 3) := by decide +kernel
theorem dX7_takeAgreements_64 : decode cX7_takeAgreements 64 = .ok (.aload_n 0, 1) := by decide +kernel
theorem dX7_takeAgreements_65 : decode cX7_takeAgreements 65 = .ok (.dup, 1) := by decide +kernel
theorem dX7_takeAgreements_66 : decode cX7_takeAgreements 66 = .ok (.getfield 49, 3) := by decide +kernel
theorem dX7_takeAgreements_69 : decode cX7_takeAgreements 69 = .ok (.iconst 1, 1) := by decide +kernel
theorem dX7_takeAgreements_70 : decode cX7_takeAgreements 70 = .ok (.iadd, 1) := by decide +kernel
theorem dX7_takeAgreements_71 : decode cX7_takeAgreements 71 = .ok (.putfield 49, 3) := by decide +kernel
theorem dX7_takeAgreements_74 : decode cX7_takeAgreements 74 = .ok (.iinc 1 1, 3) := by decide +kernel
theorem dX7_takeAgreements_77 : decode cX7_takeAgreements 77 = .ok (.goto (-72), 3) := by decide +kernel
theorem dX7_takeAgreements_80 : decode cX7_takeAgreements 80 = .ok (.return_, 1) := by decide +kernel
theorem dX7_takeNotes_0 : decode cX7_takeNotes 0 = .ok (.aload_n 0, 1) := by decide +kernel
theorem dX7_takeNotes_1 : decode cX7_takeNotes 1 = .ok (.iconst 0, 1) := by decide +kernel
theorem dX7_takeNotes_2 : decode cX7_takeNotes 2 = .ok (.putfield 174, 3) := by decide +kernel
theorem dX7_takeNotes_5 : decode cX7_takeNotes 5 = .ok (.aload_n 0, 1) := by decide +kernel
theorem dX7_takeNotes_6 : decode cX7_takeNotes 6 = .ok (.getfield 52, 3) := by decide +kernel
theorem dX7_takeNotes_9 : decode cX7_takeNotes 9 = .ok (.istore_n 1, 1) := by decide +kernel
theorem dX7_takeNotes_10 : decode cX7_takeNotes 10 = .ok (.iload_n 1, 1) := by decide +kernel
theorem dX7_takeNotes_11 : decode cX7_takeNotes 11 = .ok (.aload_n 0, 1) := by decide +kernel
theorem dX7_takeNotes_12 : decode cX7_takeNotes 12 = .ok (.getfield 29, 3) := by decide +kernel
theorem dX7_takeNotes_15 : decode cX7_takeNotes 15 = .ok (.invokevirtual 114, 3) := by decide +kernel
theorem dX7_takeNotes_18 : decode cX7_takeNotes 18 = .ok (.if_icmp .ge 59, 3) := by decide +kernel
theorem dX7_takeNotes_21 : decode cX7_takeNotes 21 = .ok (.aload_n 0, 1) := by decide +kernel
theorem dX7_takeNotes_22 : decode cX7_takeNotes 22 = .ok (.getfield 29, 3) := by decide +kernel
theorem dX7_takeNotes_25 : decode cX7_takeNotes 25 = .ok (.iload_n 1, 1) := by decide +kernel
theorem dX7_takeNotes_26 : decode cX7_takeNotes 26 = .ok (.invokevirtual 120, 3) := by decide +kernel
theorem dX7_takeNotes_29 : decode cX7_takeNotes 29 = .ok (.checkcast 135, 3) := by decide +kernel
theorem dX7_takeNotes_32 : decode cX7_takeNotes 32 = .ok (.astore_n 2, 1) := by decide +kernel
theorem dX7_takeNotes_33 : decode cX7_takeNotes 33 = .ok (.aload_n 2, 1) := by decide +kernel
theorem dX7_takeNotes_34 : decode cX7_takeNotes 34 = .ok (.getfield 137, 3) := by decide +kernel
theorem dX7_takeNotes_37 : decode cX7_takeNotes 37 = .ok (.aload_n 0, 1) := by decide +kernel
theorem dX7_takeNotes_38 : decode cX7_takeNotes 38 = .ok (.getfield 46, 3) := by decide +kernel
theorem dX7_takeNotes_41 : decode cX7_takeNotes 41 = .ok (.if_icmp .le 4, 3) := by decide +kernel
theorem dX7_takeNotes_44 : decode cX7_takeNotes 44 = .ok (.return_, 1) := by decide +kernel
theorem dX7_takeNotes_45 : decode cX7_takeNotes 45 = .ok (.aload_n 2, 1) := by decide +kernel
theorem dX7_takeNotes_46 : decode cX7_takeNotes 46 = .ok (.getfield 177, 3) := by decide +kernel
theorem dX7_takeNotes_49 : decode cX7_takeNotes 49 = .ok (.aload_n 0, 1) := by decide +kernel
theorem dX7_takeNotes_50 : decode cX7_takeNotes 50 = .ok (.getfield 43, 3) := by decide +kernel
theorem dX7_takeNotes_53 : decode cX7_takeNotes 53 = .ok (.if_icmp .gt 8, 3) := by decide +kernel
theorem dX7_takeNotes_56 : decode cX7_takeNotes 56 = .ok (.aload_n 0, 1) := by decide +kernel
theorem dX7_takeNotes_57 : decode cX7_takeNotes 57 = .ok (.aload_n 2, 1) := by decide +kernel
theorem dX7_takeNotes_58 : decode cX7_takeNotes 58 = .ok (.invokevirtual 178, 3) := by decide +kernel
theorem dX7_takeNotes_61 : decode cX7_takeNotes 61 = .ok (.aload_n 0, 1) := by decide +kernel
theorem dX7_takeNotes_62 : decode cX7_takeNotes 62 = .ok (.dup, 1) := by decide +kernel
theorem dX7_takeNotes_63 : decode cX7_takeNotes 63 = .ok (.getfield 52, 3) := by decide +kernel
theorem dX7_takeNotes_66 : decode cX7_takeNotes 66 = .ok (.iconst 1, 1) := by decide +kernel
theorem dX7_takeNotes_67 : decode cX7_takeNotes 67 = .ok (.iadd, 1) := by decide +kernel
theorem dX7_takeNotes_68 : decode cX7_takeNotes 68 = .ok (.putfield 52, 3) := by decide +kernel
theorem dX7_takeNotes_71 : decode cX7_takeNotes 71 = .ok (.iinc 1 1, 3) := by decide +kernel
theorem dX7_takeNotes_74 : decode cX7_takeNotes 74 = .ok (.goto (-64), 3) := by decide +kernel
theorem dX7_takeNotes_77 : decode cX7_takeNotes 77 = .ok (.return_, 1) := by decide +kernel
theorem dX7_takeNote_0 : decode cX7_takeNote 0 = .ok (.aload_n 1, 1) := by decide +kernel
theorem dX7_takeNote_1 : decode cX7_takeNote 1 = .ok (.getfield 182, 3) := by decide +kernel
theorem dX7_takeNote_4 : decode cX7_takeNote 4 = .ok (.bipush 6, 2) := by decide +kernel
theorem dX7_takeNote_6 : decode cX7_takeNote 6 = .ok (.if_icmp .ne 35, 3) := by decide +kernel
theorem dX7_takeNote_9 : decode cX7_takeNote 9 = .ok (.aload_n 1, 1) := by decide +kernel
theorem dX7_takeNote_10 : decode cX7_takeNote 10 = .ok (.getfield 185, 3) := by decide +kernel
theorem dX7_takeNote_13 : decode cX7_takeNote 13 = .ok (.ifCond .lt 28, 3) := by decide +kernel
theorem dX7_takeNote_16 : decode cX7_takeNote 16 = .ok (.aload_n 1, 1) := by decide +kernel
theorem dX7_takeNote_17 : decode cX7_takeNote 17 = .ok (.getfield 185, 3) := by decide +kernel
theorem dX7_takeNote_20 : decode cX7_takeNote 20 = .ok (.aload_n 0, 1) := by decide +kernel
theorem dX7_takeNote_21 : decode cX7_takeNote 21 = .ok (.getfield 22, 3) := by decide +kernel
theorem dX7_takeNote_24 : decode cX7_takeNote 24 = .ok (.arraylength, 1) := by decide +kernel
theorem dX7_takeNote_25 : decode cX7_takeNote 25 = .ok (.if_icmp .ge 16, 3) := by decide +kernel
theorem dX7_takeNote_28 : decode cX7_takeNote 28 = .ok (.aload_n 0, 1) := by decide +kernel
theorem dX7_takeNote_29 : decode cX7_takeNote 29 = .ok (.getfield 22, 3) := by decide +kernel
theorem dX7_takeNote_32 : decode cX7_takeNote 32 = .ok (.aload_n 1, 1) := by decide +kernel
theorem dX7_takeNote_33 : decode cX7_takeNote 33 = .ok (.getfield 185, 3) := by decide +kernel
theorem dX7_takeNote_36 : decode cX7_takeNote 36 = .ok (.aload_n 1, 1) := by decide +kernel
theorem dX7_takeNote_37 : decode cX7_takeNote 37 = .ok (.getfield 186, 3) := by decide +kernel
theorem dX7_takeNote_40 : decode cX7_takeNote 40 = .ok (.iastore, 1) := by decide +kernel
theorem dX7_takeNote_41 : decode cX7_takeNote 41 = .ok (.aload_n 1, 1) := by decide +kernel
theorem dX7_takeNote_42 : decode cX7_takeNote 42 = .ok (.getfield 185, 3) := by decide +kernel
theorem dX7_takeNote_45 : decode cX7_takeNote 45 = .ok (.aload_n 0, 1) := by decide +kernel
theorem dX7_takeNote_46 : decode cX7_takeNote 46 = .ok (.getfield 39, 3) := by decide +kernel
theorem dX7_takeNote_49 : decode cX7_takeNote 49 = .ok (.if_icmp .ne 22, 3) := by decide +kernel
theorem dX7_takeNote_52 : decode cX7_takeNote 52 = .ok (.aload_n 1, 1) := by decide +kernel
theorem dX7_takeNote_53 : decode cX7_takeNote 53 = .ok (.getfield 182, 3) := by decide +kernel
theorem dX7_takeNote_56 : decode cX7_takeNote 56 = .ok (.ifCond .lt 15, 3) := by decide +kernel
theorem dX7_takeNote_59 : decode cX7_takeNote 59 = .ok (.aload_n 1, 1) := by decide +kernel
theorem dX7_takeNote_60 : decode cX7_takeNote 60 = .ok (.getfield 182, 3) := by decide +kernel
theorem dX7_takeNote_63 : decode cX7_takeNote 63 = .ok (.aload_n 0, 1) := by decide +kernel
theorem dX7_takeNote_64 : decode cX7_takeNote 64 = .ok (.getfield 18, 3) := by decide +kernel
theorem dX7_takeNote_67 : decode cX7_takeNote 67 = .ok (.arraylength, 1) := by decide +kernel
theorem dX7_takeNote_68 : decode cX7_takeNote 68 = .ok (.if_icmp .lt 4, 3) := by decide +kernel
theorem dX7_takeNote_71 : decode cX7_takeNote 71 = .ok (.return_, 1) := by decide +kernel
theorem dX7_takeNote_72 : decode cX7_takeNote 72 = .ok (.aload_n 0, 1) := by decide +kernel
theorem dX7_takeNote_73 : decode cX7_takeNote 73 = .ok (.getfield 18, 3) := by decide +kernel
theorem dX7_takeNote_76 : decode cX7_takeNote 76 = .ok (.aload_n 1, 1) := by decide +kernel
theorem dX7_takeNote_77 : decode cX7_takeNote 77 = .ok (.getfield 182, 3) := by decide +kernel
theorem dX7_takeNote_80 : decode cX7_takeNote 80 = .ok (.aload_n 1, 1) := by decide +kernel
theorem dX7_takeNote_81 : decode cX7_takeNote 81 = .ok (.getfield 186, 3) := by decide +kernel
theorem dX7_takeNote_84 : decode cX7_takeNote 84 = .ok (.iastore, 1) := by decide +kernel
theorem dX7_takeNote_85 : decode cX7_takeNote 85 = .ok (.aload_n 1, 1) := by decide +kernel
theorem dX7_takeNote_86 : decode cX7_takeNote 86 = .ok (.getfield 182, 3) := by decide +kernel
theorem dX7_takeNote_89 : decode cX7_takeNote 89 = .ok (.bipush 6, 2) := by decide +kernel
theorem dX7_takeNote_91 : decode cX7_takeNote 91 = .ok (.if_icmp .ge 8, 3) := by decide +kernel
theorem dX7_takeNote_94 : decode cX7_takeNote 94 = .ok (.aload_n 0, 1) := by decide +kernel
theorem dX7_takeNote_95 : decode cX7_takeNote 95 = .ok (.iconst 1, 1) := by decide +kernel
theorem dX7_takeNote_96 : decode cX7_takeNote 96 = .ok (.putfield 78, 3) := by decide +kernel
theorem dX7_takeNote_99 : decode cX7_takeNote 99 = .ok (.aload_n 1, 1) := by decide +kernel
theorem dX7_takeNote_100 : decode cX7_takeNote 100 = .ok (.getfield 182, 3) := by decide +kernel
theorem dX7_takeNote_103 : decode cX7_takeNote 103 = .ok (.bipush 8, 2) := by decide +kernel
theorem dX7_takeNote_105 : decode cX7_takeNote 105 = .ok (.if_icmp .ne 8, 3) := by decide +kernel
theorem dX7_takeNote_108 : decode cX7_takeNote 108 = .ok (.aload_n 0, 1) := by decide +kernel
theorem dX7_takeNote_109 : decode cX7_takeNote 109 = .ok (.iconst 1, 1) := by decide +kernel
theorem dX7_takeNote_110 : decode cX7_takeNote 110 = .ok (.putfield 174, 3) := by decide +kernel
theorem dX7_takeNote_113 : decode cX7_takeNote 113 = .ok (.return_, 1) := by decide +kernel
theorem dX7_give_0 : decode cX7_give 0 = .ok (.aload_n 0, 1) := by decide +kernel
theorem dX7_give_1 : decode cX7_give 1 = .ok (.getfield 174, 3) := by decide +kernel
theorem dX7_give_4 : decode cX7_give 4 = .ok (.ifCond .eq 26, 3) := by decide +kernel
theorem dX7_give_7 : decode cX7_give 7 = .ok (.aload_n 0, 1) := by decide +kernel
theorem dX7_give_8 : decode cX7_give 8 = .ok (.aload_n 0, 1) := by decide +kernel
theorem dX7_give_9 : decode cX7_give 9 = .ok (.getfield 18, 3) := by decide +kernel
theorem dX7_give_12 : decode cX7_give 12 = .ok (.bipush 8, 2) := by decide +kernel
theorem dX7_give_14 : decode cX7_give 14 = .ok (.iaload, 1) := by decide +kernel
theorem dX7_give_15 : decode cX7_give 15 = .ok (.iconst 1, 1) := by decide +kernel
theorem dX7_give_16 : decode cX7_give 16 = .ok (.if_icmp .ne 10, 3) := by decide +kernel
theorem dX7_give_19 : decode cX7_give 19 = .ok (.aload_n 0, 1) := by decide +kernel
theorem dX7_give_20 : decode cX7_give 20 = .ok (.getfield 64, 3) := by decide +kernel
theorem dX7_give_23 : decode cX7_give 23 = .ok (.goto 4, 3) := by decide +kernel
theorem dX7_give_26 : decode cX7_give 26 = .ok (.iconst 0, 1) := by decide +kernel
theorem dX7_give_27 : decode cX7_give 27 = .ok (.putfield 61, 3) := by decide +kernel
theorem dX7_give_30 : decode cX7_give 30 = .ok (.aload_n 0, 1) := by decide +kernel
theorem dX7_give_31 : decode cX7_give 31 = .ok (.invokevirtual 189, 3) := by decide +kernel
theorem dX7_give_34 : decode cX7_give 34 = .ok (.ifCond .ne 11, 3) := by decide +kernel
theorem dX7_give_37 : decode cX7_give 37 = .ok (.aload_n 0, 1) := by decide +kernel
theorem dX7_give_38 : decode cX7_give 38 = .ok (.iconst 0, 1) := by decide +kernel
theorem dX7_give_39 : decode cX7_give 39 = .ok (.putfield 64, 3) := by decide +kernel
theorem dX7_give_42 : decode cX7_give 42 = .ok (.goto 44, 3) := by decide +kernel
theorem dX7_give_45 : decode cX7_give 45 = .ok (.aload_n 0, 1) := by decide +kernel
theorem dX7_give_46 : decode cX7_give 46 = .ok (.getfield 12, 3) := by decide +kernel
theorem dX7_give_49 : decode cX7_give 49 = .ok (.getfield 111, 3) := by decide +kernel
theorem dX7_give_52 : decode cX7_give 52 = .ok (.aload_n 0, 1) := by decide +kernel
theorem dX7_give_53 : decode cX7_give 53 = .ok (.getfield 61, 3) := by decide +kernel
theorem dX7_give_56 : decode cX7_give 56 = .ok (.if_icmp .lt 22, 3) := by decide +kernel
theorem dX7_give_59 : decode cX7_give 59 = .ok (.aload_n 0, 1) := by decide +kernel
theorem dX7_give_60 : decode cX7_give 60 = .ok (.iconst 0, 1) := by decide +kernel
theorem dX7_give_61 : decode cX7_give 61 = .ok (.putfield 61, 3) := by decide +kernel
theorem dX7_give_64 : decode cX7_give 64 = .ok (.aload_n 0, 1) := by decide +kernel
theorem dX7_give_65 : decode cX7_give 65 = .ok (.aload_n 0, 1) := by decide +kernel
theorem dX7_give_66 : decode cX7_give 66 = .ok (.getfield 12, 3) := by decide +kernel
theorem dX7_give_69 : decode cX7_give 69 = .ok (.getfield 111, 3) := by decide +kernel
theorem dX7_give_72 : decode cX7_give 72 = .ok (.putfield 64, 3) := by decide +kernel
theorem dX7_give_75 : decode cX7_give 75 = .ok (.goto 11, 3) := by decide +kernel
theorem dX7_give_78 : decode cX7_give 78 = .ok (.aload_n 0, 1) := by decide +kernel
theorem dX7_give_79 : decode cX7_give 79 = .ok (.aload_n 0, 1) := by decide +kernel
theorem dX7_give_80 : decode cX7_give 80 = .ok (.getfield 61, 3) := by decide +kernel
theorem dX7_give_83 : decode cX7_give 83 = .ok (.putfield 64, 3) := by decide +kernel
theorem dX7_give_86 : decode cX7_give 86 = .ok (.return_, 1) := by decide +kernel
theorem dX8_init_0 : decode cX8_init 0 = .ok (.aload_n 0, 1) := by decide +kernel
theorem dX8_init_1 : decode cX8_init 1 = .ok (.invokespecial 3, 3) := by decide +kernel
theorem dX8_init_4 : decode cX8_init 4 = .ok (.aload_n 0, 1) := by decide +kernel
theorem dX8_init_5 : decode cX8_init 5 = .ok (.sipush 2000, 3) := by decide +kernel
theorem dX8_init_8 : decode cX8_init 8 = .ok (.newarray .byte, 2) := by decide +kernel
theorem dX8_init_10 : decode cX8_init 10 = .ok (.putfield 9, 3) := by decide +kernel
theorem dX8_init_13 : decode cX8_init 13 = .ok (.aload_n 0, 1) := by decide +kernel
theorem dX8_init_14 : decode cX8_init 14 = .ok (.new 13, 3) := by decide +kernel
theorem dX8_init_17 : decode cX8_init 17 = .ok (.dup, 1) := by decide +kernel
theorem dX8_init_18 : decode cX8_init 18 = .ok (.aload_n 0, 1) := by decide +kernel
theorem dX8_init_19 : decode cX8_init 19 = .ok (.getfield 9, 3) := by decide +kernel
theorem dX8_init_22 : decode cX8_init 22 = .ok (.invokespecial 15, 3) := by decide +kernel
theorem dX8_init_25 : decode cX8_init 25 = .ok (.putfield 18, 3) := by decide +kernel
theorem dX8_init_28 : decode cX8_init 28 = .ok (.aload_n 0, 1) := by decide +kernel
theorem dX8_init_29 : decode cX8_init 29 = .ok (.new 22, 3) := by decide +kernel
theorem dX8_init_32 : decode cX8_init 32 = .ok (.dup, 1) := by decide +kernel
theorem dX8_init_33 : decode cX8_init 33 = .ok (.invokespecial 24, 3) := by decide +kernel
theorem dX8_init_36 : decode cX8_init 36 = .ok (.putfield 25, 3) := by decide +kernel
theorem dX8_init_39 : decode cX8_init 39 = .ok (.aload_n 0, 1) := by decide +kernel
theorem dX8_init_40 : decode cX8_init 40 = .ok (.new 22, 3) := by decide +kernel
theorem dX8_init_43 : decode cX8_init 43 = .ok (.dup, 1) := by decide +kernel
theorem dX8_init_44 : decode cX8_init 44 = .ok (.invokespecial 24, 3) := by decide +kernel
theorem dX8_init_47 : decode cX8_init 47 = .ok (.putfield 29, 3) := by decide +kernel
theorem dX8_init_50 : decode cX8_init 50 = .ok (.aload_n 0, 1) := by decide +kernel
theorem dX8_init_51 : decode cX8_init 51 = .ok (.bipush 8, 2) := by decide +kernel
theorem dX8_init_53 : decode cX8_init 53 = .ok (.newarray .int, 2) := by decide +kernel
theorem dX8_init_55 : decode cX8_init 55 = .ok (.putfield 32, 3) := by decide +kernel
theorem dX8_init_58 : decode cX8_init 58 = .ok (.aload_n 0, 1) := by decide +kernel
theorem dX8_init_59 : decode cX8_init 59 = .ok (.new 36, 3) := by decide +kernel
theorem dX8_init_62 : decode cX8_init 62 = .ok (.dup, 1) := by decide +kernel
theorem dX8_init_63 : decode cX8_init 63 = .ok (.invokespecial 38, 3) := by decide +kernel
theorem dX8_init_66 : decode cX8_init 66 = .ok (.putfield 39, 3) := by decide +kernel
theorem dX8_init_69 : decode cX8_init 69 = .ok (.aload_n 0, 1) := by decide +kernel
theorem dX8_init_70 : decode cX8_init 70 = .ok (.new 43, 3) := by decide +kernel
theorem dX8_init_73 : decode cX8_init 73 = .ok (.dup, 1) := by decide +kernel
theorem dX8_init_74 : decode cX8_init 74 = .ok (.aload_n 0, 1) := by decide +kernel
theorem dX8_init_75 : decode cX8_init 75 = .ok (.getfield 25, 3) := by decide +kernel
theorem dX8_init_78 : decode cX8_init 78 = .ok (.aload_n 0, 1) := by decide +kernel
theorem dX8_init_79 : decode cX8_init 79 = .ok (.getfield 29, 3) := by decide +kernel
theorem dX8_init_82 : decode cX8_init 82 = .ok (.aload_n 0, 1) := by decide +kernel
theorem dX8_init_83 : decode cX8_init 83 = .ok (.getfield 32, 3) := by decide +kernel
theorem dX8_init_86 : decode cX8_init 86 = .ok (.aload_n 0, 1) := by decide +kernel
theorem dX8_init_87 : decode cX8_init 87 = .ok (.getfield 39, 3) := by decide +kernel
theorem dX8_init_90 : decode cX8_init 90 = .ok (.invokespecial 45, 3) := by decide +kernel
theorem dX8_init_93 : decode cX8_init 93 = .ok (.putfield 48, 3) := by decide +kernel
theorem dX8_init_96 : decode cX8_init 96 = .ok (.aload_n 0, 1) := by decide +kernel
theorem dX8_init_97 : decode cX8_init 97 = .ok (.sipush 320, 3) := by decide +kernel
theorem dX8_init_100 : decode cX8_init 100 = .ok (.newarray .long, 2) := by decide +kernel
theorem dX8_init_102 : decode cX8_init 102 = .ok (.putfield 52, 3) := by decide +kernel
theorem dX8_init_105 : decode cX8_init 105 = .ok (.aload_n 0, 1) := by decide +kernel
theorem dX8_init_106 : decode cX8_init 106 = .ok (.new 56, 3) := by decide +kernel
theorem dX8_init_109 : decode cX8_init 109 = .ok (.dup, 1) := by decide +kernel
theorem dX8_init_110 : decode cX8_init 110 = .ok (.iconst 3, 1) := by decide +kernel
theorem dX8_init_111 : decode cX8_init 111 = .ok (.sipush 320, 3) := by decide +kernel
theorem dX8_init_114 : decode cX8_init 114 = .ok (.invokespecial 58, 3) := by decide +kernel
theorem dX8_init_117 : decode cX8_init 117 = .ok (.putfield 61, 3) := by decide +kernel
theorem dX8_init_120 : decode cX8_init 120 = .ok (.aload_n 0, 1) := by decide +kernel
theorem dX8_init_121 : decode cX8_init 121 = .ok (.new 56, 3) := by decide +kernel
theorem dX8_init_124 : decode cX8_init 124 = .ok (.dup, 1) := by decide +kernel
theorem dX8_init_125 : decode cX8_init 125 = .ok (.iconst 4, 1) := by decide +kernel
theorem dX8_init_126 : decode cX8_init 126 = .ok (.bipush 28, 2) := by decide +kernel
theorem dX8_init_128 : decode cX8_init 128 = .ok (.invokespecial 58, 3) := by decide +kernel
theorem dX8_init_131 : decode cX8_init 131 = .ok (.putfield 65, 3) := by decide +kernel
theorem dX8_init_134 : decode cX8_init 134 = .ok (.aload_n 0, 1) := by decide +kernel
theorem dX8_init_135 : decode cX8_init 135 = .ok (.new 56, 3) := by decide +kernel
theorem dX8_init_138 : decode cX8_init 138 = .ok (.dup, 1) := by decide +kernel
theorem dX8_init_139 : decode cX8_init 139 = .ok (.iconst 4, 1) := by decide +kernel
theorem dX8_init_140 : decode cX8_init 140 = .ok (.sipush 156, 3) := by decide +kernel
theorem dX8_init_143 : decode cX8_init 143 = .ok (.invokespecial 58, 3) := by decide +kernel
theorem dX8_init_146 : decode cX8_init 146 = .ok (.putfield 68, 3) := by decide +kernel
theorem dX8_init_149 : decode cX8_init 149 = .ok (.aload_n 0, 1) := by decide +kernel
theorem dX8_init_150 : decode cX8_init 150 = .ok (.bipush 8, 2) := by decide +kernel
theorem dX8_init_152 : decode cX8_init 152 = .ok (.newarray .int, 2) := by decide +kernel
theorem dX8_init_154 : decode cX8_init 154 = .ok (.putfield 71, 3) := by decide +kernel
theorem dX8_init_157 : decode cX8_init 157 = .ok (.aload_n 0, 1) := by decide +kernel
theorem dX8_init_158 : decode cX8_init 158 = .ok (.bipush 8, 2) := by decide +kernel
theorem dX8_init_160 : decode cX8_init 160 = .ok (.newarray .int, 2) := by decide +kernel
theorem dX8_init_162 : decode cX8_init 162 = .ok (.putfield 74, 3) := by decide +kernel
theorem dX8_init_165 : decode cX8_init 165 = .ok (.return_, 1) := by decide +kernel
theorem dX8_feed_0 : decode cX8_feed 0 = .ok (.aload_n 0, 1) := by decide +kernel
theorem dX8_feed_1 : decode cX8_feed 1 = .ok (.getfield 77, 3) := by decide +kernel
theorem dX8_feed_4 : decode cX8_feed 4 = .ok (.bipush 20, 2) := by decide +kernel
theorem dX8_feed_6 : decode cX8_feed 6 = .ok (.iadd, 1) := by decide +kernel
theorem dX8_feed_7 : decode cX8_feed 7 = .ok (.sipush 2000, 3) := by decide +kernel
theorem dX8_feed_10 : decode cX8_feed 10 = .ok (.if_icmp .le 5, 3) := by decide +kernel
theorem dX8_feed_13 : decode cX8_feed 13 = .ok (.iconst (-1), 1) := by decide +kernel
theorem dX8_feed_14 : decode cX8_feed 14 = .ok (.ireturn, 1) := by decide +kernel
theorem dX8_feed_15 : decode cX8_feed 15 = .ok (.aload_n 0, 1) := by decide +kernel
theorem dX8_feed_16 : decode cX8_feed 16 = .ok (.iload_n 1, 1) := by decide +kernel
theorem dX8_feed_17 : decode cX8_feed 17 = .ok (.invokevirtual 81, 3) := by decide +kernel
theorem dX8_feed_20 : decode cX8_feed 20 = .ok (.aload_n 0, 1) := by decide +kernel
theorem dX8_feed_21 : decode cX8_feed 21 = .ok (.iload_n 2, 1) := by decide +kernel
theorem dX8_feed_22 : decode cX8_feed 22 = .ok (.invokevirtual 81, 3) := by decide +kernel
theorem dX8_feed_25 : decode cX8_feed 25 = .ok (.aload_n 0, 1) := by decide +kernel
theorem dX8_feed_26 : decode cX8_feed 26 = .ok (.iload_n 3, 1) := by decide +kernel
theorem dX8_feed_27 : decode cX8_feed 27 = .ok (.invokevirtual 81, 3) := by decide +kernel
theorem dX8_feed_30 : decode cX8_feed 30 = .ok (.aload_n 0, 1) := by decide +kernel
theorem dX8_feed_31 : decode cX8_feed 31 = .ok (.iload 4, 2) := by decide +kernel
theorem dX8_feed_33 : decode cX8_feed 33 = .ok (.invokevirtual 81, 3) := by decide +kernel
theorem dX8_feed_36 : decode cX8_feed 36 = .ok (.aload_n 0, 1) := by decide +kernel
theorem dX8_feed_37 : decode cX8_feed 37 = .ok (.iload 5, 2) := by decide +kernel
theorem dX8_feed_39 : decode cX8_feed 39 = .ok (.invokevirtual 81, 3) := by decide +kernel
theorem dX8_feed_42 : decode cX8_feed 42 = .ok (.aload_n 0, 1) := by decide +kernel
theorem dX8_feed_43 : decode cX8_feed 43 = .ok (.getfield 77, 3) := by decide +kernel
theorem dX8_feed_46 : decode cX8_feed 46 = .ok (.ireturn, 1) := by decide +kernel
theorem dX8_agree_0 : decode cX8_agree 0 = .ok (.iload_n 1, 1) := by decide +kernel
theorem dX8_agree_1 : decode cX8_agree 1 = .ok (.ifCond .lt 30, 3) := by decide +kernel
theorem dX8_agree_4 : decode cX8_agree 4 = .ok (.iload_n 1, 1) := by decide +kernel
theorem dX8_agree_5 : decode cX8_agree 5 = .ok (.aload_n 0, 1) := by decide +kernel
theorem dX8_agree_6 : decode cX8_agree 6 = .ok (.getfield 77, 3) := by decide +kernel
theorem dX8_agree_9 : decode cX8_agree 9 = .ok (.if_icmp .gt 22, 3) := by decide +kernel
theorem dX8_agree_12 : decode cX8_agree 12 = .ok (.iload_n 2, 1) := by decide +kernel
theorem dX8_agree_13 : decode cX8_agree 13 = .ok (.invokestatic 85, 3) := by decide +kernel
theorem dX8_agree_16 : decode cX8_agree 16 = .ok (.ifCond .eq 15, 3) := by decide +kernel
theorem dX8_agree_19 : decode cX8_agree 19 = .ok (.aload_n 0, 1) := by decide +kernel
theorem dX8_agree_20 : decode cX8_agree 20 = .ok (.getfield 25, 3) := by decide +kernel
theorem dX8_agree_23 : decode cX8_agree 23 = .ok (.invokevirtual 89, 3) := by decide +kernel
theorem dX8_agree_26 : decode cX8_agree 26 = .ok (.bipush 12, 2) := by decide +kernel
theorem dX8_agree_28 : decode cX8_agree 28 = .ok (.if_icmp .lt 6, 3) := by decide +kernel
theorem dX8_agree_31 : decode cX8_agree 31 = .ok (.bipush (-2), 2) := by decide +kernel
theorem dX8_agree_33 : decode cX8_agree 33 = .ok (.ireturn, 1) := by decide +kernel
theorem dX8_agree_34 : decode cX8_agree 34 = .ok (.aload_n 0, 1) := by decide +kernel
theorem dX8_agree_35 : decode cX8_agree 35 = .ok (.iconst 0, 1) := by decide +kernel
theorem dX8_agree_36 : decode cX8_agree 36 = .ok (.putfield 77, 3) := by decide +kernel
theorem dX8_agree_39 : decode cX8_agree 39 = .ok (.aload_n 0, 1) := by decide +kernel
theorem dX8_agree_40 : decode cX8_agree 40 = .ok (.getfield 18, 3) := by decide +kernel
theorem dX8_agree_43 : decode cX8_agree 43 = .ok (.iload_n 1, 1) := by decide +kernel
theorem dX8_agree_44 : decode cX8_agree 44 = .ok (.invokevirtual 93, 3) := by decide +kernel
theorem dX8_agree_47 : decode cX8_agree 47 = .ok (.astore_n 3, 1) := by decide +kernel
theorem dX8_agree_48 : decode cX8_agree 48 = .ok (.aload_n 0, 1) := by decide +kernel
theorem dX8_agree_49 : decode cX8_agree 49 = .ok (.getfield 18, 3) := by decide +kernel
theorem dX8_agree_52 : decode cX8_agree 52 = .ok (.getfield 97, 3) := by decide +kernel
theorem dX8_agree_55 : decode cX8_agree 55 = .ok (.ifCond .eq 5, 3) := by decide +kernel
theorem dX8_agree_58 : decode cX8_agree 58 = .ok (.iconst (-1), 1) := by decide +kernel
theorem dX8_agree_59 : decode cX8_agree 59 = .ok (.ireturn, 1) := by decide +kernel
theorem dX8_agree_60 : decode cX8_agree 60 = .ok (.new 100, 3) := by decide +kernel
theorem dX8_agree_63 : decode cX8_agree 63 = .ok (.dup, 1) := by decide +kernel
theorem dX8_agree_64 : decode cX8_agree 64 = .ok (.aload_n 0, 1) := by decide +kernel
theorem dX8_agree_65 : decode cX8_agree 65 = .ok (.getfield 25, 3) := by decide +kernel
theorem dX8_agree_68 : decode cX8_agree 68 = .ok (.invokevirtual 89, 3) := by decide +kernel
theorem dX8_agree_71 : decode cX8_agree 71 = .ok (.iload_n 2, 1) := by decide +kernel
theorem dX8_agree_72 : decode cX8_agree 72 = .ok (.aload_n 0, 1) := by decide +kernel
theorem dX8_agree_73 : decode cX8_agree 73 = .ok (.getfield 102, 3) := by decide +kernel
theorem dX8_agree_76 : decode cX8_agree 76 = .ok (.aload_n 3, 1) := by decide +kernel
theorem dX8_agree_77 : decode cX8_agree 77 = .ok (.invokespecial 105, 3) := by decide +kernel
theorem dX8_agree_80 : decode cX8_agree 80 = .ok (.astore 4, 2) := by decide +kernel
theorem dX8_agree_82 : decode cX8_agree 82 = .ok (.aload_n 0, 1) := by decide +kernel
theorem dX8_agree_83 : decode cX8_agree 83 = .ok (.getfield 25, 3) := by decide +kernel
theorem dX8_agree_86 : decode cX8_agree 86 = .ok (.aload_n 0, 1) := by decide +kernel
theorem dX8_agree_87 : decode cX8_agree 87 = .ok (.iload_n 2, 1) := by decide +kernel
theorem dX8_agree_88 : decode cX8_agree 88 = .ok (.invokevirtual 108, 3) := by decide +kernel
theorem dX8_agree_91 : decode cX8_agree 91 = .ok (.aload 4, 2) := by decide +kernel
theorem dX8_agree_93 : decode cX8_agree 93 = .ok (.invokevirtual 112, 3) := by decide +kernel
theorem dX8_agree_96 : decode cX8_agree 96 = .ok (.aload_n 0, 1) := by decide +kernel
theorem dX8_agree_97 : decode cX8_agree 97 = .ok (.dup, 1) := by decide +kernel
theorem dX8_agree_98 : decode cX8_agree 98 = .ok (.getfield 116, 3) := by decide +kernel
theorem dX8_agree_101 : decode cX8_agree 101 = .ok (.aload_n 3, 1) := by decide +kernel
theorem dX8_agree_102 : decode cX8_agree 102 = .ok (.invokevirtual 89, 3) := by decide +kernel
theorem dX8_agree_105 : decode cX8_agree 105 = .ok (.iadd, 1) := by decide +kernel
theorem dX8_agree_106 : decode cX8_agree 106 = .ok (.putfield 116, 3) := by decide +kernel
theorem dX8_agree_109 : decode cX8_agree 109 = .ok (.aload 4, 2) := by decide +kernel
theorem dX8_agree_111 : decode cX8_agree 111 = .ok (.getfield 119, 3) := by decide +kernel
theorem dX8_agree_114 : decode cX8_agree 114 = .ok (.ireturn, 1) := by decide +kernel
theorem dX8_fault_0 : decode cX8_fault 0 = .ok (.iload_n 1, 1) := by decide +kernel
theorem dX8_fault_1 : decode cX8_fault 1 = .ok (.ifCond .ne 11, 3) := by decide +kernel
theorem dX8_fault_4 : decode cX8_fault 4 = .ok (.aload_n 0, 1) := by decide +kernel
theorem dX8_fault_5 : decode cX8_fault 5 = .ok (.getfield 18, 3) := by decide +kernel
theorem dX8_fault_8 : decode cX8_fault 8 = .ok (.getfield 97, 3) := by decide +kernel
theorem dX8_fault_11 : decode cX8_fault 11 = .ok (.ireturn, 1) := by decide +kernel
theorem dX8_fault_12 : decode cX8_fault 12 = .ok (.iload_n 1, 1) := by decide +kernel
theorem dX8_fault_13 : decode cX8_fault 13 = .ok (.iconst 1, 1) := by decide +kernel
theorem dX8_fault_14 : decode cX8_fault 14 = .ok (.if_icmp .ne 13, 3) := by decide +kernel
theorem dX8_fault_17 : decode cX8_fault 17 = .ok (.aload_n 0, 1) := by decide +kernel
theorem dX8_fault_18 : decode cX8_fault 18 = .ok (.getfield 18, 3) := by decide +kernel
theorem dX8_fault_21 : decode cX8_fault 21 = .ok (.getfield 122, 3) := by decide +kernel
theorem dX8_fault_24 : decode cX8_fault 24 = .ok (.goto 4, 3) := by decide +kernel
theorem dX8_fault_27 : decode cX8_fault 27 = .ok (.iconst (-1), 1) := by decide +kernel
theorem dX8_fault_28 : decode cX8_fault 28 = .ok (.ireturn, 1) := by decide +kernel
theorem dX8_pass_0 : decode cX8_pass 0 = .ok (.iload_n 1, 1) := by decide +kernel
theorem dX8_pass_1 : decode cX8_pass 1 = .ok (.ifCond .lt 22, 3) := by decide +kernel
theorem dX8_pass_4 : decode cX8_pass 4 = .ok (.iload_n 1, 1) := by decide +kernel
theorem dX8_pass_5 : decode cX8_pass 5 = .ok (.sipush 1200, 3) := by decide +kernel
theorem dX8_pass_8 : decode cX8_pass 8 = .ok (.if_icmp .gt 15, 3) := by decide +kernel
theorem dX8_pass_11 : decode cX8_pass 11 = .ok (.aload_n 0, 1) := by decide +kernel
theorem dX8_pass_12 : decode cX8_pass 12 = .ok (.getfield 102, 3) := by decide +kernel
theorem dX8_pass_15 : decode cX8_pass 15 = .ok (.iload_n 1, 1) := by decide +kernel
theorem dX8_pass_16 : decode cX8_pass 16 = .ok (.iadd, 1) := by decide +kernel
theorem dX8_pass_17 : decode cX8_pass 17 = .ok (.sipush 1200, 3) := by decide +kernel
theorem dX8_pass_20 : decode cX8_pass 20 = .ok (.if_icmp .lt 5, 3) := by decide +kernel
theorem dX8_pass_23 : decode cX8_pass 23 = .ok (.iconst (-1), 1) := by decide +kernel
theorem dX8_pass_24 : decode cX8_pass 24 = .ok (.ireturn, 1) := by decide +kernel
theorem dX8_pass_25 : decode cX8_pass 25 = .ok (.aload_n 0, 1) := by decide +kernel
theorem dX8_pass_26 : decode cX8_pass 26 = .ok (.dup, 1) := by decide +kernel
theorem dX8_pass_27 : decode cX8_pass 27 = .ok (.getfield 102, 3) := by decide +kernel
theorem dX8_pass_30 : decode cX8_pass 30 = .ok (.iload_n 1, 1) := by decide +kernel
theorem dX8_pass_31 : decode cX8_pass 31 = .ok (.iadd, 1) := by decide +kernel
theorem dX8_pass_32 : decode cX8_pass 32 = .ok (.putfield 102, 3) := by decide +kernel
theorem dX8_pass_35 : decode cX8_pass 35 = .ok (.aload_n 0, 1) := by decide +kernel
theorem dX8_pass_36 : decode cX8_pass 36 = .ok (.getfield 102, 3) := by decide +kernel
theorem dX8_pass_39 : decode cX8_pass 39 = .ok (.ireturn, 1) := by decide +kernel
theorem dX8_post_0 : decode cX8_post 0 = .ok (.iload_n 1, 1) := by decide +kernel
theorem dX8_post_1 : decode cX8_post 1 = .ok (.ifCond .lt 18, 3) := by decide +kernel
theorem dX8_post_4 : decode cX8_post 4 = .ok (.iload_n 1, 1) := by decide +kernel
theorem dX8_post_5 : decode cX8_post 5 = .ok (.bipush 8, 2) := by decide +kernel
theorem dX8_post_7 : decode cX8_post 7 = .ok (.if_icmp .ge 12, 3) := by decide +kernel
theorem dX8_post_10 : decode cX8_post 10 = .ok (.aload_n 0, 1) := by decide +kernel
theorem dX8_post_11 : decode cX8_post 11 = .ok (.getfield 125, 3) := by decide +kernel
theorem dX8_post_14 : decode cX8_post 14 = .ok (.bipush 8, 2) := by decide +kernel
theorem dX8_post_16 : decode cX8_post 16 = .ok (.if_icmp .lt 5, 3) := by decide +kernel
theorem dX8_post_19 : decode cX8_post 19 = .ok (.iconst (-1), 1) := by decide +kernel
theorem dX8_post_20 : decode cX8_post 20 = .ok (.ireturn, 1) := by decide +kernel
theorem dX8_post_21 : decode cX8_post 21 = .ok (.aload_n 0, 1) := by decide +kernel
theorem dX8_post_22 : decode cX8_post 22 = .ok (.getfield 32, 3) := by decide +kernel
theorem dX8_post_25 : decode cX8_post 25 = .ok (.aload_n 0, 1) := by decide +kernel
theorem dX8_post_26 : decode cX8_post 26 = .ok (.getfield 125, 3) := by decide +kernel
theorem dX8_post_29 : decode cX8_post 29 = .ok (.iload_n 1, 1) := by decide +kernel
theorem dX8_post_30 : decode cX8_post 30 = .ok (.iastore, 1) := by decide +kernel
theorem dX8_post_31 : decode cX8_post 31 = .ok (.aload_n 0, 1) := by decide +kernel
theorem dX8_post_32 : decode cX8_post 32 = .ok (.dup, 1) := by decide +kernel
theorem dX8_post_33 : decode cX8_post 33 = .ok (.getfield 125, 3) := by decide +kernel
theorem dX8_post_36 : decode cX8_post 36 = .ok (.iconst 1, 1) := by decide +kernel
theorem dX8_post_37 : decode cX8_post 37 = .ok (.iadd, 1) := by decide +kernel
theorem dX8_post_38 : decode cX8_post 38 = .ok (.putfield 125, 3) := by decide +kernel
theorem dX8_post_41 : decode cX8_post 41 = .ok (.aload_n 0, 1) := by decide +kernel
theorem dX8_post_42 : decode cX8_post 42 = .ok (.getfield 125, 3) := by decide +kernel
theorem dX8_post_45 : decode cX8_post 45 = .ok (.iconst 1, 1) := by decide +kernel
theorem dX8_post_46 : decode cX8_post 46 = .ok (.isub, 1) := by decide +kernel
theorem dX8_post_47 : decode cX8_post 47 = .ok (.ireturn, 1) := by decide +kernel
theorem dX8_note_0 : decode cX8_note 0 = .ok (.aload_n 0, 1) := by decide +kernel
theorem dX8_note_1 : decode cX8_note 1 = .ok (.iload_n 1, 1) := by decide +kernel
theorem dX8_note_2 : decode cX8_note 2 = .ok (.invokevirtual 128, 3) := by decide +kernel
theorem dX8_note_5 : decode cX8_note 5 = .ok (.ifCond .eq 32, 3) := by decide +kernel
theorem dX8_note_8 : decode cX8_note 8 = .ok (.iload_n 3, 1) := by decide +kernel
theorem dX8_note_9 : decode cX8_note 9 = .ok (.invokestatic 85, 3) := by decide +kernel
theorem dX8_note_12 : decode cX8_note 12 = .ok (.ifCond .eq 25, 3) := by decide +kernel
theorem dX8_note_15 : decode cX8_note 15 = .ok (.iload_n 2, 1) := by decide +kernel
theorem dX8_note_16 : decode cX8_note 16 = .ok (.iload 4, 2) := by decide +kernel
theorem dX8_note_18 : decode cX8_note 18 = .ok (.invokestatic 131, 3) := by decide +kernel
theorem dX8_note_21 : decode cX8_note 21 = .ok (.ifCond .eq 16, 3) := by decide +kernel
theorem dX8_note_24 : decode cX8_note 24 = .ok (.aload_n 0, 1) := by decide +kernel
theorem dX8_note_25 : decode cX8_note 25 = .ok (.getfield 29, 3) := by decide +kernel
theorem dX8_note_28 : decode cX8_note 28 = .ok (.invokevirtual 89, 3) := by decide +kernel
theorem dX8_note_31 : decode cX8_note 31 = .ok (.sipush 200, 3) := by decide +kernel
theorem dX8_note_34 : decode cX8_note 34 = .ok (.if_icmp .lt 5, 3) := by decide +kernel
theorem dX8_note_37 : decode cX8_note 37 = .ok (.iconst (-1), 1) := by decide +kernel
theorem dX8_note_38 : decode cX8_note 38 = .ok (.ireturn, 1) := by decide +kernel
theorem dX8_note_39 : decode cX8_note 39 = .ok (.aload_n 0, 1) := by decide +kernel
theorem dX8_note_40 : decode cX8_note 40 = .ok (.getfield 29, 3) := by decide +kernel
theorem dX8_note_43 : decode cX8_note 43 = .ok (.aload_n 0, 1) := by decide +kernel
theorem dX8_note_44 : decode cX8_note 44 = .ok (.iload_n 3, 1) := by decide +kernel
theorem dX8_note_45 : decode cX8_note 45 = .ok (.invokevirtual 135, 3) := by decide +kernel
theorem dX8_note_48 : decode cX8_note 48 = .ok (.new 138, 3) := by decide +kernel
theorem dX8_note_51 : decode cX8_note 51 = .ok (.dup, 1) := by decide +kernel
theorem dX8_note_52 : decode cX8_note 52 = .ok (.iload_n 1, 1) := by decide +kernel
theorem dX8_note_53 : decode cX8_note 53 = .ok (.iload_n 2, 1) := by decide +kernel
theorem dX8_note_54 : decode cX8_note 54 = .ok (.iload_n 3, 1) := by decide +kernel
theorem dX8_note_55 : decode cX8_note 55 = .ok (.aload_n 0, 1) := by decide +kernel
theorem dX8_note_56 : decode cX8_note 56 = .ok (.getfield 102, 3) := by decide +kernel
theorem dX8_note_59 : decode cX8_note 59 = .ok (.iload 4, 2) := by decide +kernel
theorem dX8_note_61 : decode cX8_note 61 = .ok (.invokespecial 140, 3) := by decide +kernel
theorem dX8_note_64 : decode cX8_note 64 = .ok (.invokevirtual 112, 3) := by decide +kernel
theorem dX8_note_67 : decode cX8_note 67 = .ok (.aload_n 0, 1) := by decide +kernel
theorem dX8_note_68 : decode cX8_note 68 = .ok (.getfield 29, 3) := by decide +kernel
theorem dX8_note_71 : decode cX8_note 71 = .ok (.invokevirtual 89, 3) := by decide +kernel
theorem dX8_note_74 : decode cX8_note 74 = .ok (.ireturn, 1) := by decide +kernel
theorem dX8_look_0 : decode cX8_look 0 = .ok (.aload_n 0, 1) := by decide +kernel
theorem dX8_look_1 : decode cX8_look 1 = .ok (.iload_n 1, 1) := by decide +kernel
theorem dX8_look_2 : decode cX8_look 2 = .ok (.invokevirtual 128, 3) := by decide +kernel
theorem dX8_look_5 : decode cX8_look 5 = .ok (.ifCond .eq 30, 3) := by decide +kernel
theorem dX8_look_8 : decode cX8_look 8 = .ok (.iload_n 2, 1) := by decide +kernel
theorem dX8_look_9 : decode cX8_look 9 = .ok (.invokestatic 85, 3) := by decide +kernel
theorem dX8_look_12 : decode cX8_look 12 = .ok (.ifCond .eq 23, 3) := by decide +kernel
theorem dX8_look_15 : decode cX8_look 15 = .ok (.aload_n 0, 1) := by decide +kernel
theorem dX8_look_16 : decode cX8_look 16 = .ok (.iload_n 3, 1) := by decide +kernel
theorem dX8_look_17 : decode cX8_look 17 = .ok (.invokevirtual 143, 3) := by decide +kernel
theorem dX8_look_20 : decode cX8_look 20 = .ok (.ifCond .eq 15, 3) := by decide +kernel
theorem dX8_look_23 : decode cX8_look 23 = .ok (.iload 4, 2) := by decide +kernel
theorem dX8_look_25 : decode cX8_look 25 = .ok (.ifCond .lt 10, 3) := by decide +kernel
theorem dX8_look_28 : decode cX8_look 28 = .ok (.iload 4, 2) := by decide +kernel
theorem dX8_look_30 : decode cX8_look 30 = .ok (.bipush 16, 2) := by decide +kernel
theorem dX8_look_32 : decode cX8_look 32 = .ok (.if_icmp .lt 6, 3) := by decide +kernel
theorem dX8_look_35 : decode cX8_look 35 = .ok (.ldc 148, 2) := by decide +kernel
theorem dX8_look_37 : decode cX8_look 37 = .ok (.ireturn, 1) := by decide +kernel
theorem dX8_look_38 : decode cX8_look 38 = .ok (.aload_n 0, 1) := by decide +kernel
theorem dX8_look_39 : decode cX8_look 39 = .ok (.getfield 48, 3) := by decide +kernel
theorem dX8_look_42 : decode cX8_look 42 = .ok (.iload_n 1, 1) := by decide +kernel
theorem dX8_look_43 : decode cX8_look 43 = .ok (.iload_n 3, 1) := by decide +kernel
theorem dX8_look_44 : decode cX8_look 44 = .ok (.invokevirtual 149, 3) := by decide +kernel
theorem dX8_look_47 : decode cX8_look 47 = .ok (.aload_n 0, 1) := by decide +kernel
theorem dX8_look_48 : decode cX8_look 48 = .ok (.getfield 48, 3) := by decide +kernel
theorem dX8_look_51 : decode cX8_look 51 = .ok (.iload_n 2, 1) := by decide +kernel
theorem dX8_look_52 : decode cX8_look 52 = .ok (.invokevirtual 152, 3) := by decide +kernel
theorem dX8_look_55 : decode cX8_look 55 = .ok (.aload_n 0, 1) := by decide +kernel
theorem dX8_look_56 : decode cX8_look 56 = .ok (.getfield 48, 3) := by decide +kernel
theorem dX8_look_59 : decode cX8_look 59 = .ok (.iload 4, 2) := by decide +kernel
theorem dX8_look_61 : decode cX8_look 61 = .ok (.invokevirtual 155, 3) := by decide +kernel
theorem dX8_look_64 : decode cX8_look 64 = .ok (.ireturn, 1) := by decide +kernel
theorem dX8_pay_0 : decode cX8_pay 0 = .ok (.aload_n 0, 1) := by decide +kernel
theorem dX8_pay_1 : decode cX8_pay 1 = .ok (.iload_n 1, 1) := by decide +kernel
theorem dX8_pay_2 : decode cX8_pay 2 = .ok (.invokevirtual 128, 3) := by decide +kernel
theorem dX8_pay_5 : decode cX8_pay 5 = .ok (.ifCond .eq 18, 3) := by decide +kernel
theorem dX8_pay_8 : decode cX8_pay 8 = .ok (.iload_n 2, 1) := by decide +kernel
theorem dX8_pay_9 : decode cX8_pay 9 = .ok (.invokestatic 85, 3) := by decide +kernel
theorem dX8_pay_12 : decode cX8_pay 12 = .ok (.ifCond .eq 11, 3) := by decide +kernel
theorem dX8_pay_15 : decode cX8_pay 15 = .ok (.aload_n 0, 1) := by decide +kernel
theorem dX8_pay_16 : decode cX8_pay 16 = .ok (.iload_n 3, 1) := by decide +kernel
theorem dX8_pay_17 : decode cX8_pay 17 = .ok (.invokevirtual 143, 3) := by decide +kernel
theorem dX8_pay_20 : decode cX8_pay 20 = .ok (.ifCond .ne 7, 3) := by decide +kernel
theorem dX8_pay_23 : decode cX8_pay 23 = .ok (.ldc2_w 158, 3) := by decide +kernel
theorem dX8_pay_26 : decode cX8_pay 26 = .ok (.lreturn, 1) := by decide +kernel
theorem dX8_pay_27 : decode cX8_pay 27 = .ok (.aload_n 0, 1) := by decide +kernel
theorem dX8_pay_28 : decode cX8_pay 28 = .ok (.getfield 48, 3) := by decide +kernel
theorem dX8_pay_31 : decode cX8_pay 31 = .ok (.iload_n 1, 1) := by decide +kernel
theorem dX8_pay_32 : decode cX8_pay 32 = .ok (.iload_n 3, 1) := by decide +kernel
theorem dX8_pay_33 : decode cX8_pay 33 = .ok (.invokevirtual 149, 3) := by decide +kernel
theorem dX8_pay_36 : decode cX8_pay 36 = .ok (.aload_n 0, 1) := by decide +kernel
theorem dX8_pay_37 : decode cX8_pay 37 = .ok (.getfield 48, 3) := by decide +kernel
theorem dX8_pay_40 : decode cX8_pay 40 = .ok (.iload_n 2, 1) := by decide +kernel
theorem dX8_pay_41 : decode cX8_pay 41 = .ok (.invokevirtual 152, 3) := by decide +kernel
theorem dX8_pay_44 : decode cX8_pay 44 = .ok (.aload_n 0, 1) := by decide +kernel
theorem dX8_pay_45 : decode cX8_pay 45 = .ok (.getfield 48, 3) := by decide +kernel
theorem dX8_pay_48 : decode cX8_pay 48 = .ok (.invokevirtual 160, 3) := by decide +kernel
theorem dX8_pay_51 : decode cX8_pay 51 = .ok (.lreturn, 1) := by decide +kernel
theorem dX8_due_0 : decode cX8_due 0 = .ok (.aload_n 0, 1) := by decide +kernel
theorem dX8_due_1 : decode cX8_due 1 = .ok (.iload_n 1, 1) := by decide +kernel
theorem dX8_due_2 : decode cX8_due 2 = .ok (.invokevirtual 128, 3) := by decide +kernel
theorem dX8_due_5 : decode cX8_due 5 = .ok (.ifCond .eq 18, 3) := by decide +kernel
theorem dX8_due_8 : decode cX8_due 8 = .ok (.iload_n 2, 1) := by decide +kernel
theorem dX8_due_9 : decode cX8_due 9 = .ok (.invokestatic 164, 3) := by decide +kernel
theorem dX8_due_12 : decode cX8_due 12 = .ok (.ifCond .eq 11, 3) := by decide +kernel
theorem dX8_due_15 : decode cX8_due 15 = .ok (.aload_n 0, 1) := by decide +kernel
theorem dX8_due_16 : decode cX8_due 16 = .ok (.iload_n 3, 1) := by decide +kernel
theorem dX8_due_17 : decode cX8_due 17 = .ok (.invokevirtual 143, 3) := by decide +kernel
theorem dX8_due_20 : decode cX8_due 20 = .ok (.ifCond .ne 7, 3) := by decide +kernel
theorem dX8_due_23 : decode cX8_due 23 = .ok (.ldc2_w 158, 3) := by decide +kernel
theorem dX8_due_26 : decode cX8_due 26 = .ok (.lreturn, 1) := by decide +kernel
theorem dX8_due_27 : decode cX8_due 27 = .ok (.aload_n 0, 1) := by decide +kernel
theorem dX8_due_28 : decode cX8_due 28 = .ok (.iload_n 1, 1) := by decide +kernel
theorem dX8_due_29 : decode cX8_due 29 = .ok (.iload_n 2, 1) := by decide +kernel
theorem dX8_due_30 : decode cX8_due 30 = .ok (.iload_n 2, 1) := by decide +kernel
theorem dX8_due_31 : decode cX8_due 31 = .ok (.iload_n 3, 1) := by decide +kernel
theorem dX8_due_32 : decode cX8_due 32 = .ok (.invokevirtual 167, 3) := by decide +kernel
theorem dX8_due_35 : decode cX8_due 35 = .ok (.lreturn, 1) := by decide +kernel
theorem dX8_run_0 : decode cX8_run 0 = .ok (.aload_n 0, 1) := by decide +kernel
theorem dX8_run_1 : decode cX8_run 1 = .ok (.getfield 61, 3) := by decide +kernel
theorem dX8_run_4 : decode cX8_run 4 = .ok (.invokevirtual 171, 3) := by decide +kernel
theorem dX8_run_7 : decode cX8_run 7 = .ok (.aload_n 0, 1) := by decide +kernel
theorem dX8_run_8 : decode cX8_run 8 = .ok (.getfield 102, 3) := by decide +kernel
theorem dX8_run_11 : decode cX8_run 11 = .ok (.bipush 30, 2) := by decide +kernel
theorem dX8_run_13 : decode cX8_run 13 = .ok (.idiv, 1) := by decide +kernel
theorem dX8_run_14 : decode cX8_run 14 = .ok (.istore_n 1, 1) := by decide +kernel
theorem dX8_run_15 : decode cX8_run 15 = .ok (.iconst 0, 1) := by decide +kernel
theorem dX8_run_16 : decode cX8_run 16 = .ok (.istore_n 2, 1) := by decide +kernel
theorem dX8_run_17 : decode cX8_run 17 = .ok (.iload_n 2, 1) := by decide +kernel
theorem dX8_run_18 : decode cX8_run 18 = .ok (.aload_n 0, 1) := by decide +kernel
theorem dX8_run_19 : decode cX8_run 19 = .ok (.getfield 125, 3) := by decide +kernel
theorem dX8_run_22 : decode cX8_run 22 = .ok (.if_icmp .ge 49, 3) := by decide +kernel
theorem dX8_run_25 : decode cX8_run 25 = .ok (.aload_n 0, 1) := by decide +kernel
theorem dX8_run_26 : decode cX8_run 26 = .ok (.getfield 48, 3) := by decide +kernel
theorem dX8_run_29 : decode cX8_run 29 = .ok (.iload_n 2, 1) := by decide +kernel
theorem dX8_run_30 : decode cX8_run 30 = .ok (.aload_n 0, 1) := by decide +kernel
theorem dX8_run_31 : decode cX8_run 31 = .ok (.getfield 102, 3) := by decide +kernel
theorem dX8_run_34 : decode cX8_run 34 = .ok (.invokevirtual 149, 3) := by decide +kernel
theorem dX8_run_37 : decode cX8_run 37 = .ok (.iconst 0, 1) := by decide +kernel
theorem dX8_run_38 : decode cX8_run 38 = .ok (.istore_n 3, 1) := by decide +kernel
theorem dX8_run_39 : decode cX8_run 39 = .ok (.iload_n 3, 1) := by decide +kernel
theorem dX8_run_40 : decode cX8_run 40 = .ok (.iload_n 1, 1) := by decide +kernel
theorem dX8_run_41 : decode cX8_run 41 = .ok (.if_icmp .ge 24, 3) := by decide +kernel
theorem dX8_run_44 : decode cX8_run 44 = .ok (.aload_n 0, 1) := by decide +kernel
theorem dX8_run_45 : decode cX8_run 45 = .ok (.iload_n 2, 1) := by decide +kernel
theorem dX8_run_46 : decode cX8_run 46 = .ok (.iload_n 3, 1) := by decide +kernel
theorem dX8_run_47 : decode cX8_run 47 = .ok (.aload_n 0, 1) := by decide +kernel
theorem dX8_run_48 : decode cX8_run 48 = .ok (.getfield 48, 3) := by decide +kernel
theorem dX8_run_51 : decode cX8_run 51 = .ok (.bipush 30, 2) := by decide +kernel
theorem dX8_run_53 : decode cX8_run 53 = .ok (.invokevirtual 174, 3) := by decide +kernel
theorem dX8_run_56 : decode cX8_run 56 = .ok (.invokevirtual 178, 3) := by decide +kernel
theorem dX8_run_59 : decode cX8_run 59 = .ok (.iinc 3 1, 3) := by decide +kernel
theorem dX8_run_62 : decode cX8_run 62 = .ok (.goto (-23), 3) := by decide +kernel
theorem dX8_run_65 : decode cX8_run 65 = .ok (.iinc 2 1, 3) := by decide +kernel
theorem dX8_run_68 : decode cX8_run 68 = .ok (.goto (-51), 3) := by decide +kernel
theorem dX8_run_71 : decode cX8_run 71 = .ok (.aload_n 0, 1) := by decide +kernel
theorem dX8_run_72 : decode cX8_run 72 = .ok (.dup, 1) := by decide +kernel
theorem dX8_run_73 : decode cX8_run 73 = .ok (.getfield 182, 3) := by decide +kernel
theorem dX8_run_76 : decode cX8_run 76 = .ok (.iconst 1, 1) := by decide +kernel
theorem dX8_run_77 : decode cX8_run 77 = .ok (.iadd, 1) := by decide +kernel
theorem dX8_run_78 : decode cX8_run 78 = .ok (.putfield 182, 3) := by decide +kernel
theorem dX8_run_81 : decode cX8_run 81 = .ok (.aload_n 0, 1) := by decide +kernel
theorem dX8_run_82 : decode cX8_run 82 = .ok (.getfield 61, 3) := by decide +kernel
theorem dX8_run_85 : decode cX8_run 85 = .ok (.getfield 185, 3) := by decide +kernel
theorem dX8_run_88 : decode cX8_run 88 = .ok (.ireturn, 1) := by decide +kernel
theorem dX8_payment_0 : decode cX8_payment 0 = .ok (.aload_n 0, 1) := by decide +kernel
theorem dX8_payment_1 : decode cX8_payment 1 = .ok (.getfield 61, 3) := by decide +kernel
theorem dX8_payment_4 : decode cX8_payment 4 = .ok (.iload_n 1, 1) := by decide +kernel
theorem dX8_payment_5 : decode cX8_payment 5 = .ok (.iload_n 2, 1) := by decide +kernel
theorem dX8_payment_6 : decode cX8_payment 6 = .ok (.invokevirtual 187, 3) := by decide +kernel
theorem dX8_payment_9 : decode cX8_payment 9 = .ok (.lreturn, 1) := by decide +kernel
theorem dX8_paid_0 : decode cX8_paid 0 = .ok (.aload_n 0, 1) := by decide +kernel
theorem dX8_paid_1 : decode cX8_paid 1 = .ok (.iload_n 1, 1) := by decide +kernel
theorem dX8_paid_2 : decode cX8_paid 2 = .ok (.invokevirtual 128, 3) := by decide +kernel
theorem dX8_paid_5 : decode cX8_paid 5 = .ok (.ifCond .eq 10, 3) := by decide +kernel
theorem dX8_paid_8 : decode cX8_paid 8 = .ok (.iload_n 2, 1) := by decide +kernel
theorem dX8_paid_9 : decode cX8_paid 9 = .ok (.invokestatic 164, 3) := by decide +kernel
theorem dX8_paid_12 : decode cX8_paid 12 = .ok (.ifCond .ne 7, 3) := by decide +kernel
theorem dX8_paid_15 : decode cX8_paid 15 = .ok (.ldc2_w 158, 3) := by decide +kernel
theorem dX8_paid_18 : decode cX8_paid 18 = .ok (.lreturn, 1) := by decide +kernel
theorem dX8_paid_19 : decode cX8_paid 19 = .ok (.aload_n 0, 1) := by decide +kernel
theorem dX8_paid_20 : decode cX8_paid 20 = .ok (.getfield 52, 3) := by decide +kernel
theorem dX8_paid_23 : decode cX8_paid 23 = .ok (.iload_n 1, 1) := by decide +kernel
theorem dX8_paid_24 : decode cX8_paid 24 = .ok (.bipush 40, 2) := by decide +kernel
theorem dX8_paid_26 : decode cX8_paid 26 = .ok (.imul, 1) := by decide +kernel
theorem dX8_paid_27 : decode cX8_paid 27 = .ok (.iload_n 2, 1) := by decide +kernel
theorem dX8_paid_28 : decode cX8_paid 28 = .ok (.iadd, 1) := by decide +kernel
theorem dX8_paid_29 : decode cX8_paid 29 = .ok (.laload, 1) := by decide +kernel
theorem dX8_paid_30 : decode cX8_paid 30 = .ok (.lreturn, 1) := by decide +kernel
theorem dX8_cost_0 : decode cX8_cost 0 = .ok (.iload_n 1, 1) := by decide +kernel
theorem dX8_cost_1 : decode cX8_cost 1 = .ok (.invokestatic 164, 3) := by decide +kernel
theorem dX8_cost_4 : decode cX8_cost 4 = .ok (.ifCond .eq 23, 3) := by decide +kernel
theorem dX8_cost_7 : decode cX8_cost 7 = .ok (.iload_n 2, 1) := by decide +kernel
theorem dX8_cost_8 : decode cX8_cost 8 = .ok (.invokestatic 164, 3) := by decide +kernel
theorem dX8_cost_11 : decode cX8_cost 11 = .ok (.ifCond .eq 16, 3) := by decide +kernel
theorem dX8_cost_14 : decode cX8_cost 14 = .ok (.iload_n 2, 1) := by decide +kernel
theorem dX8_cost_15 : decode cX8_cost 15 = .ok (.iload_n 1, 1) := by decide +kernel
theorem dX8_cost_16 : decode cX8_cost 16 = .ok (.if_icmp .lt 11, 3) := by decide +kernel
theorem dX8_cost_19 : decode cX8_cost 19 = .ok (.aload_n 0, 1) := by decide +kernel
theorem dX8_cost_20 : decode cX8_cost 20 = .ok (.iload_n 3, 1) := by decide +kernel
theorem dX8_cost_21 : decode cX8_cost 21 = .ok (.invokevirtual 143, 3) := by decide +kernel
theorem dX8_cost_24 : decode cX8_cost 24 = .ok (.ifCond .ne 7, 3) := by decide +kernel
theorem dX8_cost_27 : decode cX8_cost 27 = .ok (.ldc2_w 158, 3) := by decide +kernel
theorem dX8_cost_30 : decode cX8_cost 30 = .ok (.lreturn, 1) := by decide +kernel
theorem dX8_cost_31 : decode cX8_cost 31 = .ok (.lconst 0, 1) := by decide +kernel
theorem dX8_cost_32 : decode cX8_cost 32 = .ok (.lstore 4, 2) := by decide +kernel
theorem dX8_cost_34 : decode cX8_cost 34 = .ok (.iconst 0, 1) := by decide +kernel
theorem dX8_cost_35 : decode cX8_cost 35 = .ok (.istore 6, 2) := by decide +kernel
theorem dX8_cost_37 : decode cX8_cost 37 = .ok (.iload 6, 2) := by decide +kernel
theorem dX8_cost_39 : decode cX8_cost 39 = .ok (.aload_n 0, 1) := by decide +kernel
theorem dX8_cost_40 : decode cX8_cost 40 = .ok (.getfield 125, 3) := by decide +kernel
theorem dX8_cost_43 : decode cX8_cost 43 = .ok (.if_icmp .ge 23, 3) := by decide +kernel
theorem dX8_cost_46 : decode cX8_cost 46 = .ok (.lload 4, 2) := by decide +kernel
theorem dX8_cost_48 : decode cX8_cost 48 = .ok (.aload_n 0, 1) := by decide +kernel
theorem dX8_cost_49 : decode cX8_cost 49 = .ok (.iload 6, 2) := by decide +kernel
theorem dX8_cost_51 : decode cX8_cost 51 = .ok (.iload_n 1, 1) := by decide +kernel
theorem dX8_cost_52 : decode cX8_cost 52 = .ok (.iload_n 2, 1) := by decide +kernel
theorem dX8_cost_53 : decode cX8_cost 53 = .ok (.iload_n 3, 1) := by decide +kernel
theorem dX8_cost_54 : decode cX8_cost 54 = .ok (.invokevirtual 167, 3) := by decide +kernel
theorem dX8_cost_57 : decode cX8_cost 57 = .ok (.ladd, 1) := by decide +kernel
theorem dX8_cost_58 : decode cX8_cost 58 = .ok (.lstore 4, 2) := by decide +kernel
theorem dX8_cost_60 : decode cX8_cost 60 = .ok (.iinc 6 1, 3) := by decide +kernel
theorem dX8_cost_63 : decode cX8_cost 63 = .ok (.goto (-26), 3) := by decide +kernel
theorem dX8_cost_66 : decode cX8_cost 66 = .ok (.lload 4, 2) := by decide +kernel
theorem dX8_cost_68 : decode cX8_cost 68 = .ok (.lreturn, 1) := by decide +kernel
theorem dX8_like_0 : decode cX8_like 0 = .ok (.iload_n 1, 1) := by decide +kernel
theorem dX8_like_1 : decode cX8_like 1 = .ok (.invokestatic 85, 3) := by decide +kernel
theorem dX8_like_4 : decode cX8_like 4 = .ok (.ifCond .eq 21, 3) := by decide +kernel
theorem dX8_like_7 : decode cX8_like 7 = .ok (.aload_n 0, 1) := by decide +kernel
theorem dX8_like_8 : decode cX8_like 8 = .ok (.iload_n 2, 1) := by decide +kernel
theorem dX8_like_9 : decode cX8_like 9 = .ok (.invokevirtual 143, 3) := by decide +kernel
theorem dX8_like_12 : decode cX8_like 12 = .ok (.ifCond .eq 13, 3) := by decide +kernel
theorem dX8_like_15 : decode cX8_like 15 = .ok (.iload_n 3, 1) := by decide +kernel
theorem dX8_like_16 : decode cX8_like 16 = .ok (.ifCond .lt 9, 3) := by decide +kernel
theorem dX8_like_19 : decode cX8_like 19 = .ok (.iload_n 3, 1) := by decide +kernel
theorem dX8_like_20 : decode cX8_like 20 = .ok (.ldc 191, 2) := by decide +kernel
theorem dX8_like_22 : decode cX8_like 22 = .ok (.if_icmp .le 5, 3) := by decide +kernel
theorem dX8_like_25 : decode cX8_like 25 = .ok (.iconst (-1), 1) := by decide +kernel
theorem dX8_like_26 : decode cX8_like 26 = .ok (.ireturn, 1) := by decide +kernel
theorem dX8_like_27 : decode cX8_like 27 = .ok (.iconst 0, 1) := by decide +kernel
theorem dX8_like_28 : decode cX8_like 28 = .ok (.istore 4, 2) := by decide +kernel
theorem dX8_like_30 : decode cX8_like 30 = .ok (.iload 4, 2) := by decide +kernel
theorem dX8_like_32 : decode cX8_like 32 = .ok (.aload_n 0, 1) := by decide +kernel
theorem dX8_like_33 : decode cX8_like 33 = .ok (.getfield 125, 3) := by decide +kernel
theorem dX8_like_36 : decode cX8_like 36 = .ok (.if_icmp .ge 75, 3) := by decide +kernel
theorem dX8_like_39 : decode cX8_like 39 = .ok (.aload_n 0, 1) := by decide +kernel
theorem dX8_like_40 : decode cX8_like 40 = .ok (.getfield 48, 3) := by decide +kernel
theorem dX8_like_43 : decode cX8_like 43 = .ok (.iload 4, 2) := by decide +kernel
theorem dX8_like_45 : decode cX8_like 45 = .ok (.iload_n 2, 1) := by decide +kernel
theorem dX8_like_46 : decode cX8_like 46 = .ok (.invokevirtual 149, 3) := by decide +kernel
theorem dX8_like_49 : decode cX8_like 49 = .ok (.aload_n 0, 1) := by decide +kernel
theorem dX8_like_50 : decode cX8_like 50 = .ok (.getfield 48, 3) := by decide +kernel
theorem dX8_like_53 : decode cX8_like 53 = .ok (.iload_n 1, 1) := by decide +kernel
theorem dX8_like_54 : decode cX8_like 54 = .ok (.invokevirtual 152, 3) := by decide +kernel
theorem dX8_like_57 : decode cX8_like 57 = .ok (.aload_n 0, 1) := by decide +kernel
theorem dX8_like_58 : decode cX8_like 58 = .ok (.getfield 71, 3) := by decide +kernel
theorem dX8_like_61 : decode cX8_like 61 = .ok (.iload 4, 2) := by decide +kernel
theorem dX8_like_63 : decode cX8_like 63 = .ok (.aload_n 0, 1) := by decide +kernel
theorem dX8_like_64 : decode cX8_like 64 = .ok (.getfield 48, 3) := by decide +kernel
theorem dX8_like_67 : decode cX8_like 67 = .ok (.invokevirtual 192, 3) := by decide +kernel
theorem dX8_like_70 : decode cX8_like 70 = .ok (.ifCond .eq 16, 3) := by decide +kernel
theorem dX8_like_73 : decode cX8_like 73 = .ok (.aload_n 0, 1) := by decide +kernel
theorem dX8_like_74 : decode cX8_like 74 = .ok (.getfield 48, 3) := by decide +kernel
theorem dX8_like_77 : decode cX8_like 77 = .ok (.getfield 196, 3) := by decide +kernel
theorem dX8_like_80 : decode cX8_like 80 = .ok (.getfield 200, 3) := by decide +kernel
theorem dX8_like_83 : decode cX8_like 83 = .ok (.goto 4, 3) := by decide +kernel
theorem dX8_like_86 : decode cX8_like 86 = .ok (.iconst (-1), 1) := by decide +kernel
theorem dX8_like_87 : decode cX8_like 87 = .ok (.iastore, 1) := by decide +kernel
theorem dX8_like_88 : decode cX8_like 88 = .ok (.aload_n 0, 1) := by decide +kernel
theorem dX8_like_89 : decode cX8_like 89 = .ok (.getfield 74, 3) := by decide +kernel
theorem dX8_like_92 : decode cX8_like 92 = .ok (.iload 4, 2) := by decide +kernel
theorem dX8_like_94 : decode cX8_like 94 = .ok (.aload_n 0, 1) := by decide +kernel
theorem dX8_like_95 : decode cX8_like 95 = .ok (.getfield 48, 3) := by decide +kernel
theorem dX8_like_98 : decode cX8_like 98 = .ok (.getfield 196, 3) := by decide +kernel
theorem dX8_like_101 : decode cX8_like 101 = .ok (.getfield 205, 3) := by decide +kernel
theorem dX8_like_104 : decode cX8_like 104 = .ok (.iastore, 1) := by decide +kernel
theorem dX8_like_105 : decode cX8_like 105 = .ok (.iinc 4 1, 3) := by decide +kernel
theorem dX8_like_108 : decode cX8_like 108 = .ok (.goto (-78), 3) := by decide +kernel
theorem dX8_like_111 : decode cX8_like 111 = .ok (.aload_n 0, 1) := by decide +kernel
theorem dX8_like_112 : decode cX8_like 112 = .ok (.getfield 65, 3) := by decide +kernel
theorem dX8_like_115 : decode cX8_like 115 = .ok (.invokevirtual 171, 3) := by decide +kernel
theorem dX8_like_118 : decode cX8_like 118 = .ok (.iconst 0, 1) := by decide +kernel
theorem dX8_like_119 : decode cX8_like 119 = .ok (.istore 4, 2) := by decide +kernel
theorem dX8_like_121 : decode cX8_like 121 = .ok (.iload 4, 2) := by decide +kernel
theorem dX8_like_123 : decode cX8_like 123 = .ok (.aload_n 0, 1) := by decide +kernel
theorem dX8_like_124 : decode cX8_like 124 = .ok (.getfield 125, 3) := by decide +kernel
theorem dX8_like_127 : decode cX8_like 127 = .ok (.if_icmp .ge 50, 3) := by decide +kernel
theorem dX8_like_130 : decode cX8_like 130 = .ok (.iload 4, 2) := by decide +kernel
theorem dX8_like_132 : decode cX8_like 132 = .ok (.iconst 1, 1) := by decide +kernel
theorem dX8_like_133 : decode cX8_like 133 = .ok (.iadd, 1) := by decide +kernel
theorem dX8_like_134 : decode cX8_like 134 = .ok (.istore 5, 2) := by decide +kernel
theorem dX8_like_136 : decode cX8_like 136 = .ok (.iload 5, 2) := by decide +kernel
theorem dX8_like_138 : decode cX8_like 138 = .ok (.aload_n 0, 1) := by decide +kernel
theorem dX8_like_139 : decode cX8_like 139 = .ok (.getfield 125, 3) := by decide +kernel
theorem dX8_like_142 : decode cX8_like 142 = .ok (.if_icmp .ge 29, 3) := by decide +kernel
theorem dX8_like_145 : decode cX8_like 145 = .ok (.aload_n 0, 1) := by decide +kernel
theorem dX8_like_146 : decode cX8_like 146 = .ok (.iload 4, 2) := by decide +kernel
theorem dX8_like_148 : decode cX8_like 148 = .ok (.iload 5, 2) := by decide +kernel
theorem dX8_like_150 : decode cX8_like 150 = .ok (.iload_n 3, 1) := by decide +kernel
theorem dX8_like_151 : decode cX8_like 151 = .ok (.invokevirtual 208, 3) := by decide +kernel
theorem dX8_like_154 : decode cX8_like 154 = .ok (.ifCond .eq 11, 3) := by decide +kernel
theorem dX8_like_157 : decode cX8_like 157 = .ok (.aload_n 0, 1) := by decide +kernel
theorem dX8_like_158 : decode cX8_like 158 = .ok (.iload 4, 2) := by decide +kernel
theorem dX8_like_160 : decode cX8_like 160 = .ok (.iload 5, 2) := by decide +kernel
theorem dX8_like_162 : decode cX8_like 162 = .ok (.invokevirtual 212, 3) := by decide +kernel
theorem dX8_like_165 : decode cX8_like 165 = .ok (.iinc 5 1, 3) := by decide +kernel
theorem dX8_like_168 : decode cX8_like 168 = .ok (.goto (-32), 3) := by decide +kernel
theorem dX8_like_171 : decode cX8_like 171 = .ok (.iinc 4 1, 3) := by decide +kernel
theorem dX8_like_174 : decode cX8_like 174 = .ok (.goto (-53), 3) := by decide +kernel
theorem dX8_like_177 : decode cX8_like 177 = .ok (.aload_n 0, 1) := by decide +kernel
theorem dX8_like_178 : decode cX8_like 178 = .ok (.getfield 65, 3) := by decide +kernel
theorem dX8_like_181 : decode cX8_like 181 = .ok (.getfield 185, 3) := by decide +kernel
theorem dX8_like_184 : decode cX8_like 184 = .ok (.ireturn, 1) := by decide +kernel
theorem dX8_pair_0 : decode cX8_pair 0 = .ok (.aload_n 0, 1) := by decide +kernel
theorem dX8_pair_1 : decode cX8_pair 1 = .ok (.getfield 65, 3) := by decide +kernel
theorem dX8_pair_4 : decode cX8_pair 4 = .ok (.iload_n 1, 1) := by decide +kernel
theorem dX8_pair_5 : decode cX8_pair 5 = .ok (.iload_n 2, 1) := by decide +kernel
theorem dX8_pair_6 : decode cX8_pair 6 = .ok (.invokevirtual 187, 3) := by decide +kernel
theorem dX8_pair_9 : decode cX8_pair 9 = .ok (.l2i, 1) := by decide +kernel
theorem dX8_pair_10 : decode cX8_pair 10 = .ok (.ireturn, 1) := by decide +kernel
theorem dX8_meet_0 : decode cX8_meet 0 = .ok (.iload_n 1, 1) := by decide +kernel
theorem dX8_meet_1 : decode cX8_meet 1 = .ok (.invokestatic 85, 3) := by decide +kernel
theorem dX8_meet_4 : decode cX8_meet 4 = .ok (.ifCond .eq 11, 3) := by decide +kernel
theorem dX8_meet_7 : decode cX8_meet 7 = .ok (.aload_n 0, 1) := by decide +kernel
theorem dX8_meet_8 : decode cX8_meet 8 = .ok (.iload_n 2, 1) := by decide +kernel
theorem dX8_meet_9 : decode cX8_meet 9 = .ok (.invokevirtual 143, 3) := by decide +kernel
theorem dX8_meet_12 : decode cX8_meet 12 = .ok (.ifCond .ne 5, 3) := by decide +kernel
theorem dX8_meet_15 : decode cX8_meet 15 = .ok (.iconst (-1), 1) := by decide +kernel
theorem dX8_meet_16 : decode cX8_meet 16 = .ok (.ireturn, 1) := by decide +kernel
theorem dX8_meet_17 : decode cX8_meet 17 = .ok (.aload_n 0, 1) := by decide +kernel
theorem dX8_meet_18 : decode cX8_meet 18 = .ok (.getfield 39, 3) := by decide +kernel
theorem dX8_meet_21 : decode cX8_meet 21 = .ok (.invokevirtual 215, 3) := by decide +kernel
theorem dX8_meet_24 : decode cX8_meet 24 = .ok (.iconst 0, 1) := by decide +kernel
theorem dX8_meet_25 : decode cX8_meet 25 = .ok (.istore_n 3, 1) := by decide +kernel
theorem dX8_meet_26 : decode cX8_meet 26 = .ok (.iload_n 3, 1) := by decide +kernel
theorem dX8_meet_27 : decode cX8_meet 27 = .ok (.aload_n 0, 1) := by decide +kernel
theorem dX8_meet_28 : decode cX8_meet 28 = .ok (.getfield 25, 3) := by decide +kernel
theorem dX8_meet_31 : decode cX8_meet 31 = .ok (.invokevirtual 89, 3) := by decide +kernel
theorem dX8_meet_34 : decode cX8_meet 34 = .ok (.if_icmp .ge 49, 3) := by decide +kernel
theorem dX8_meet_37 : decode cX8_meet 37 = .ok (.aload_n 0, 1) := by decide +kernel
theorem dX8_meet_38 : decode cX8_meet 38 = .ok (.getfield 25, 3) := by decide +kernel
theorem dX8_meet_41 : decode cX8_meet 41 = .ok (.iload_n 3, 1) := by decide +kernel
theorem dX8_meet_42 : decode cX8_meet 42 = .ok (.invokevirtual 216, 3) := by decide +kernel
theorem dX8_meet_45 : decode cX8_meet 45 = .ok (.checkcast 100, 3) := by decide +kernel
theorem dX8_meet_48 : decode cX8_meet 48 = .ok (.astore 4, 2) := by decide +kernel
theorem dX8_meet_50 : decode cX8_meet 50 = .ok (.aload 4, 2) := by decide +kernel
theorem dX8_meet_52 : decode cX8_meet 52 = .ok (.getfield 220, 3) := by decide +kernel
theorem dX8_meet_55 : decode cX8_meet 55 = .ok (.iload_n 1, 1) := by decide +kernel
theorem dX8_meet_56 : decode cX8_meet 56 = .ok (.if_icmp .gt 21, 3) := by decide +kernel
theorem dX8_meet_59 : decode cX8_meet 59 = .ok (.aload 4, 2) := by decide +kernel
theorem dX8_meet_61 : decode cX8_meet 61 = .ok (.getfield 223, 3) := by decide +kernel
theorem dX8_meet_64 : decode cX8_meet 64 = .ok (.iload_n 2, 1) := by decide +kernel
theorem dX8_meet_65 : decode cX8_meet 65 = .ok (.if_icmp .gt 12, 3) := by decide +kernel
theorem dX8_meet_68 : decode cX8_meet 68 = .ok (.aload_n 0, 1) := by decide +kernel
theorem dX8_meet_69 : decode cX8_meet 69 = .ok (.getfield 39, 3) := by decide +kernel
theorem dX8_meet_72 : decode cX8_meet 72 = .ok (.aload 4, 2) := by decide +kernel
theorem dX8_meet_74 : decode cX8_meet 74 = .ok (.invokevirtual 226, 3) := by decide +kernel
theorem dX8_meet_77 : decode cX8_meet 77 = .ok (.iinc 3 1, 3) := by decide +kernel
theorem dX8_meet_80 : decode cX8_meet 80 = .ok (.goto (-54), 3) := by decide +kernel
theorem dX8_meet_83 : decode cX8_meet 83 = .ok (.aload_n 0, 1) := by decide +kernel
theorem dX8_meet_84 : decode cX8_meet 84 = .ok (.getfield 68, 3) := by decide +kernel
theorem dX8_meet_87 : decode cX8_meet 87 = .ok (.invokevirtual 171, 3) := by decide +kernel
theorem dX8_meet_90 : decode cX8_meet 90 = .ok (.iconst 0, 1) := by decide +kernel
theorem dX8_meet_91 : decode cX8_meet 91 = .ok (.istore_n 3, 1) := by decide +kernel
theorem dX8_meet_92 : decode cX8_meet 92 = .ok (.iload_n 3, 1) := by decide +kernel
theorem dX8_meet_93 : decode cX8_meet 93 = .ok (.sipush 156, 3) := by decide +kernel
theorem dX8_meet_96 : decode cX8_meet 96 = .ok (.if_icmp .ge 71, 3) := by decide +kernel
theorem dX8_meet_99 : decode cX8_meet 99 = .ok (.aload_n 0, 1) := by decide +kernel
theorem dX8_meet_100 : decode cX8_meet 100 = .ok (.getfield 39, 3) := by decide +kernel
theorem dX8_meet_103 : decode cX8_meet 103 = .ok (.iload_n 3, 1) := by decide +kernel
theorem dX8_meet_104 : decode cX8_meet 104 = .ok (.invokevirtual 230, 3) := by decide +kernel
theorem dX8_meet_107 : decode cX8_meet 107 = .ok (.astore 4, 2) := by decide +kernel
theorem dX8_meet_109 : decode cX8_meet 109 = .ok (.aload_n 0, 1) := by decide +kernel
theorem dX8_meet_110 : decode cX8_meet 110 = .ok (.getfield 39, 3) := by decide +kernel
theorem dX8_meet_113 : decode cX8_meet 113 = .ok (.iload_n 3, 1) := by decide +kernel
theorem dX8_meet_114 : decode cX8_meet 114 = .ok (.invokevirtual 234, 3) := by decide +kernel
theorem dX8_meet_117 : decode cX8_meet 117 = .ok (.istore 5, 2) := by decide +kernel
theorem dX8_meet_119 : decode cX8_meet 119 = .ok (.aload 4, 2) := by decide +kernel
theorem dX8_meet_121 : decode cX8_meet 121 = .ok (.ifnull 40, 3) := by decide +kernel
theorem dX8_meet_124 : decode cX8_meet 124 = .ok (.iload 5, 2) := by decide +kernel
theorem dX8_meet_126 : decode cX8_meet 126 = .ok (.iconst 1, 1) := by decide +kernel
theorem dX8_meet_127 : decode cX8_meet 127 = .ok (.if_icmp .le 34, 3) := by decide +kernel
theorem dX8_meet_130 : decode cX8_meet 130 = .ok (.aload_n 0, 1) := by decide +kernel
theorem dX8_meet_131 : decode cX8_meet 131 = .ok (.getfield 68, 3) := by decide +kernel
theorem dX8_meet_134 : decode cX8_meet 134 = .ok (.aload 4, 2) := by decide +kernel
theorem dX8_meet_136 : decode cX8_meet 136 = .ok (.getfield 237, 3) := by decide +kernel
theorem dX8_meet_139 : decode cX8_meet 139 = .ok (.i2l, 1) := by decide +kernel
theorem dX8_meet_140 : decode cX8_meet 140 = .ok (.aload 4, 2) := by decide +kernel
theorem dX8_meet_142 : decode cX8_meet 142 = .ok (.getfield 242, 3) := by decide +kernel
theorem dX8_meet_145 : decode cX8_meet 145 = .ok (.i2l, 1) := by decide +kernel
theorem dX8_meet_146 : decode cX8_meet 146 = .ok (.aload_n 0, 1) := by decide +kernel
theorem dX8_meet_147 : decode cX8_meet 147 = .ok (.getfield 39, 3) := by decide +kernel
theorem dX8_meet_150 : decode cX8_meet 150 = .ok (.iload_n 3, 1) := by decide +kernel
theorem dX8_meet_151 : decode cX8_meet 151 = .ok (.invokevirtual 245, 3) := by decide +kernel
theorem dX8_meet_154 : decode cX8_meet 154 = .ok (.i2l, 1) := by decide +kernel
theorem dX8_meet_155 : decode cX8_meet 155 = .ok (.iload 5, 2) := by decide +kernel
theorem dX8_meet_157 : decode cX8_meet 157 = .ok (.i2l, 1) := by decide +kernel
theorem dX8_meet_158 : decode cX8_meet 158 = .ok (.invokevirtual 248, 3) := by decide +kernel
theorem dX8_meet_161 : decode cX8_meet 161 = .ok (.iinc 3 1, 3) := by decide +kernel
theorem dX8_meet_164 : decode cX8_meet 164 = .ok (.goto (-72), 3) := by decide +kernel
theorem dX8_meet_167 : decode cX8_meet 167 = .ok (.aload_n 0, 1) := by decide +kernel
theorem dX8_meet_168 : decode cX8_meet 168 = .ok (.getfield 68, 3) := by decide +kernel
theorem dX8_meet_171 : decode cX8_meet 171 = .ok (.getfield 185, 3) := by decide +kernel
theorem dX8_meet_174 : decode cX8_meet 174 = .ok (.ireturn, 1) := by decide +kernel
theorem dX8_met_0 : decode cX8_met 0 = .ok (.aload_n 0, 1) := by decide +kernel
theorem dX8_met_1 : decode cX8_met 1 = .ok (.getfield 68, 3) := by decide +kernel
theorem dX8_met_4 : decode cX8_met 4 = .ok (.iload_n 1, 1) := by decide +kernel
theorem dX8_met_5 : decode cX8_met 5 = .ok (.iload_n 2, 1) := by decide +kernel
theorem dX8_met_6 : decode cX8_met 6 = .ok (.invokevirtual 187, 3) := by decide +kernel
theorem dX8_met_9 : decode cX8_met 9 = .ok (.l2i, 1) := by decide +kernel
theorem dX8_met_10 : decode cX8_met 10 = .ok (.ireturn, 1) := by decide +kernel
theorem dX8_count_0 : decode cX8_count 0 = .ok (.iload_n 1, 1) := by decide +kernel
theorem dX8_count_1 : decode cX8_count 1 = .ok (.tableswitch 87 0 6 #[43, 48, 56, 61, 69, 74, 82], 43) := by decide +kernel
theorem dX8_count_44 : decode cX8_count 44 = .ok (.aload_n 0, 1) := by decide +kernel
theorem dX8_count_45 : decode cX8_count 45 = .ok (.getfield 102, 3) := by decide +kernel
theorem dX8_count_48 : decode cX8_count 48 = .ok (.ireturn, 1) := by decide +kernel
theorem dX8_count_49 : decode cX8_count 49 = .ok (.aload_n 0, 1) := by decide +kernel
theorem dX8_count_50 : decode cX8_count 50 = .ok (.getfield 25, 3) := by decide +kernel
theorem dX8_count_53 : decode cX8_count 53 = .ok (.invokevirtual 89, 3) := by decide +kernel
theorem dX8_count_56 : decode cX8_count 56 = .ok (.ireturn, 1) := by decide +kernel
theorem dX8_count_57 : decode cX8_count 57 = .ok (.aload_n 0, 1) := by decide +kernel
theorem dX8_count_58 : decode cX8_count 58 = .ok (.getfield 125, 3) := by decide +kernel
theorem dX8_count_61 : decode cX8_count 61 = .ok (.ireturn, 1) := by decide +kernel
theorem dX8_count_62 : decode cX8_count 62 = .ok (.aload_n 0, 1) := by decide +kernel
theorem dX8_count_63 : decode cX8_count 63 = .ok (.getfield 29, 3) := by decide +kernel
theorem dX8_count_66 : decode cX8_count 66 = .ok (.invokevirtual 89, 3) := by decide +kernel
theorem dX8_count_69 : decode cX8_count 69 = .ok (.ireturn, 1) := by decide +kernel
theorem dX8_count_70 : decode cX8_count 70 = .ok (.aload_n 0, 1) := by decide +kernel
theorem dX8_count_71 : decode cX8_count 71 = .ok (.getfield 116, 3) := by decide +kernel
theorem dX8_count_74 : decode cX8_count 74 = .ok (.ireturn, 1) := by decide +kernel
theorem dX8_count_75 : decode cX8_count 75 = .ok (.aload_n 0, 1) := by decide +kernel
theorem dX8_count_76 : decode cX8_count 76 = .ok (.getfield 61, 3) := by decide +kernel
theorem dX8_count_79 : decode cX8_count 79 = .ok (.getfield 185, 3) := by decide +kernel
theorem dX8_count_82 : decode cX8_count 82 = .ok (.ireturn, 1) := by decide +kernel
theorem dX8_count_83 : decode cX8_count 83 = .ok (.aload_n 0, 1) := by decide +kernel
theorem dX8_count_84 : decode cX8_count 84 = .ok (.getfield 182, 3) := by decide +kernel
theorem dX8_count_87 : decode cX8_count 87 = .ok (.ireturn, 1) := by decide +kernel
theorem dX8_count_88 : decode cX8_count 88 = .ok (.iconst (-1), 1) := by decide +kernel
theorem dX8_count_89 : decode cX8_count 89 = .ok (.ireturn, 1) := by decide +kernel
theorem dX8_isPost_0 : decode cX8_isPost 0 = .ok (.iload_n 1, 1) := by decide +kernel
theorem dX8_isPost_1 : decode cX8_isPost 1 = .ok (.ifCond .lt 15, 3) := by decide +kernel
theorem dX8_isPost_4 : decode cX8_isPost 4 = .ok (.iload_n 1, 1) := by decide +kernel
theorem dX8_isPost_5 : decode cX8_isPost 5 = .ok (.aload_n 0, 1) := by decide +kernel
theorem dX8_isPost_6 : decode cX8_isPost 6 = .ok (.getfield 125, 3) := by decide +kernel
theorem dX8_isPost_9 : decode cX8_isPost 9 = .ok (.if_icmp .ge 7, 3) := by decide +kernel
theorem dX8_isPost_12 : decode cX8_isPost 12 = .ok (.iconst 1, 1) := by decide +kernel
theorem dX8_isPost_13 : decode cX8_isPost 13 = .ok (.goto 4, 3) := by decide +kernel
theorem dX8_isPost_16 : decode cX8_isPost 16 = .ok (.iconst 0, 1) := by decide +kernel
theorem dX8_isPost_17 : decode cX8_isPost 17 = .ok (.ireturn, 1) := by decide +kernel
theorem dX8_isDay_0 : decode cX8_isDay 0 = .ok (.iload_n 0, 1) := by decide +kernel
theorem dX8_isDay_1 : decode cX8_isDay 1 = .ok (.ifCond .lt 14, 3) := by decide +kernel
theorem dX8_isDay_4 : decode cX8_isDay 4 = .ok (.iload_n 0, 1) := by decide +kernel
theorem dX8_isDay_5 : decode cX8_isDay 5 = .ok (.sipush 1200, 3) := by decide +kernel
theorem dX8_isDay_8 : decode cX8_isDay 8 = .ok (.if_icmp .ge 7, 3) := by decide +kernel
theorem dX8_isDay_11 : decode cX8_isDay 11 = .ok (.iconst 1, 1) := by decide +kernel
theorem dX8_isDay_12 : decode cX8_isDay 12 = .ok (.goto 4, 3) := by decide +kernel
theorem dX8_isDay_15 : decode cX8_isDay 15 = .ok (.iconst 0, 1) := by decide +kernel
theorem dX8_isDay_16 : decode cX8_isDay 16 = .ok (.ireturn, 1) := by decide +kernel
theorem dX8_isMonth_0 : decode cX8_isMonth 0 = .ok (.iload_n 0, 1) := by decide +kernel
theorem dX8_isMonth_1 : decode cX8_isMonth 1 = .ok (.ifCond .lt 13, 3) := by decide +kernel
theorem dX8_isMonth_4 : decode cX8_isMonth 4 = .ok (.iload_n 0, 1) := by decide +kernel
theorem dX8_isMonth_5 : decode cX8_isMonth 5 = .ok (.bipush 40, 2) := by decide +kernel
theorem dX8_isMonth_7 : decode cX8_isMonth 7 = .ok (.if_icmp .ge 7, 3) := by decide +kernel
theorem dX8_isMonth_10 : decode cX8_isMonth 10 = .ok (.iconst 1, 1) := by decide +kernel
theorem dX8_isMonth_11 : decode cX8_isMonth 11 = .ok (.goto 4, 3) := by decide +kernel
theorem dX8_isMonth_14 : decode cX8_isMonth 14 = .ok (.iconst 0, 1) := by decide +kernel
theorem dX8_isMonth_15 : decode cX8_isMonth 15 = .ok (.ireturn, 1) := by decide +kernel
theorem dX8_isKnown_0 : decode cX8_isKnown 0 = .ok (.iload_n 1, 1) := by decide +kernel
theorem dX8_isKnown_1 : decode cX8_isKnown 1 = .ok (.ifCond .lt 15, 3) := by decide +kernel
theorem dX8_isKnown_4 : decode cX8_isKnown 4 = .ok (.iload_n 1, 1) := by decide +kernel
theorem dX8_isKnown_5 : decode cX8_isKnown 5 = .ok (.aload_n 0, 1) := by decide +kernel
theorem dX8_isKnown_6 : decode cX8_isKnown 6 = .ok (.getfield 102, 3) := by decide +kernel
theorem dX8_isKnown_9 : decode cX8_isKnown 9 = .ok (.if_icmp .gt 7, 3) := by decide +kernel
theorem dX8_isKnown_12 : decode cX8_isKnown 12 = .ok (.iconst 1, 1) := by decide +kernel
theorem dX8_isKnown_13 : decode cX8_isKnown 13 = .ok (.goto 4, 3) := by decide +kernel
theorem dX8_isKnown_16 : decode cX8_isKnown 16 = .ok (.iconst 0, 1) := by decide +kernel
theorem dX8_isKnown_17 : decode cX8_isKnown 17 = .ok (.ireturn, 1) := by decide +kernel
theorem dX8_feedNumber_0 : decode cX8_feedNumber 0 = .ok (.bipush 24, 2) := by decide +kernel
theorem dX8_feedNumber_2 : decode cX8_feedNumber 2 = .ok (.istore_n 2, 1) := by decide +kernel
theorem dX8_feedNumber_3 : decode cX8_feedNumber 3 = .ok (.iload_n 2, 1) := by decide +kernel
theorem dX8_feedNumber_4 : decode cX8_feedNumber 4 = .ok (.ifCond .lt 42, 3) := by decide +kernel
theorem dX8_feedNumber_7 : decode cX8_feedNumber 7 = .ok (.aload_n 0, 1) := by decide +kernel
theorem dX8_feedNumber_8 : decode cX8_feedNumber 8 = .ok (.getfield 77, 3) := by decide +kernel
theorem dX8_feedNumber_11 : decode cX8_feedNumber 11 = .ok (.sipush 2000, 3) := by decide +kernel
theorem dX8_feedNumber_14 : decode cX8_feedNumber 14 = .ok (.if_icmp .ge 26, 3) := by decide +kernel
theorem dX8_feedNumber_17 : decode cX8_feedNumber 17 = .ok (.aload_n 0, 1) := by decide +kernel
theorem dX8_feedNumber_18 : decode cX8_feedNumber 18 = .ok (.getfield 9, 3) := by decide +kernel
theorem dX8_feedNumber_21 : decode cX8_feedNumber 21 = .ok (.aload_n 0, 1) := by decide +kernel
theorem dX8_feedNumber_22 : decode cX8_feedNumber 22 = .ok (.getfield 77, 3) := by decide +kernel
theorem dX8_feedNumber_25 : decode cX8_feedNumber 25 = .ok (.iload_n 1, 1) := by decide +kernel
theorem dX8_feedNumber_26 : decode cX8_feedNumber 26 = .ok (.iload_n 2, 1) := by decide +kernel
theorem dX8_feedNumber_27 : decode cX8_feedNumber 27 = .ok (.ishr, 1) := by decide +kernel
theorem dX8_feedNumber_28 : decode cX8_feedNumber 28 = .ok (.i2b, 1) := by decide +kernel
theorem dX8_feedNumber_29 : decode cX8_feedNumber 29 = .ok (.bastore, 1) := by decide +kernel
theorem dX8_feedNumber_30 : decode cX8_feedNumber 30 = .ok (.aload_n 0, 1) := by decide +kernel
theorem dX8_feedNumber_31 : decode cX8_feedNumber 31 = .ok (.dup, 1) := by decide +kernel
theorem dX8_feedNumber_32 : decode cX8_feedNumber 32 = .ok (.getfield 77, 3) := by decide +kernel
theorem dX8_feedNumber_35 : decode cX8_feedNumber 35 = .ok (.iconst 1, 1) := by decide +kernel
theorem dX8_feedNumber_36 : decode cX8_feedNumber 36 = .ok (.iadd, 1) := by decide +kernel
theorem dX8_feedNumber_37 : decode cX8_feedNumber 37 = .ok (.putfield 77, 3) := by decide +kernel
theorem dX8_feedNumber_40 : decode cX8_feedNumber 40 = .ok (.iinc 2 (-8), 3) := by decide +kernel
theorem dX8_feedNumber_43 : decode cX8_feedNumber 43 = .ok (.goto (-40), 3) := by decide +kernel
theorem dX8_feedNumber_46 : decode cX8_feedNumber 46 = .ok (.return_, 1) := by decide +kernel
theorem dX8_canBecome_0 : decode cX8_canBecome 0 = .ok (.iload_n 0, 1) := by decide +kernel
theorem dX8_canBecome_1 : decode cX8_canBecome 1 = .ok (.ifCond .lt 9, 3) := by decide +kernel
theorem dX8_canBecome_4 : decode cX8_canBecome 4 = .ok (.iload_n 0, 1) := by decide +kernel
theorem dX8_canBecome_5 : decode cX8_canBecome 5 = .ok (.bipush 9, 2) := by decide +kernel
theorem dX8_canBecome_7 : decode cX8_canBecome 7 = .ok (.if_icmp .lt 5, 3) := by decide +kernel
theorem dX8_canBecome_10 : decode cX8_canBecome 10 = .ok (.iconst 0, 1) := by decide +kernel
theorem dX8_canBecome_11 : decode cX8_canBecome 11 = .ok (.ireturn, 1) := by decide +kernel
theorem dX8_canBecome_12 : decode cX8_canBecome 12 = .ok (.iload_n 0, 1) := by decide +kernel
theorem dX8_canBecome_13 : decode cX8_canBecome 13 = .ok (.bipush 6, 2) := by decide +kernel
theorem dX8_canBecome_15 : decode cX8_canBecome 15 = .ok (.if_icmp .ge 23, 3) := by decide +kernel
theorem dX8_canBecome_18 : decode cX8_canBecome 18 = .ok (.iload_n 1, 1) := by decide +kernel
theorem dX8_canBecome_19 : decode cX8_canBecome 19 = .ok (.sipush (-9999), 3) := by decide +kernel
theorem dX8_canBecome_22 : decode cX8_canBecome 22 = .ok (.if_icmp .lt 14, 3) := by decide +kernel
theorem dX8_canBecome_25 : decode cX8_canBecome 25 = .ok (.iload_n 1, 1) := by decide +kernel
theorem dX8_canBecome_26 : decode cX8_canBecome 26 = .ok (.sipush 9999, 3) := by decide +kernel
theorem dX8_canBecome_29 : decode cX8_canBecome 29 = .ok (.if_icmp .gt 7, 3) := by decide +kernel
theorem dX8_canBecome_32 : decode cX8_canBecome 32 = .ok (.iconst 1, 1) := by decide +kernel
theorem dX8_canBecome_33 : decode cX8_canBecome 33 = .ok (.goto 4, 3) := by decide +kernel
theorem dX8_canBecome_36 : decode cX8_canBecome 36 = .ok (.iconst 0, 1) := by decide +kernel
theorem dX8_canBecome_37 : decode cX8_canBecome 37 = .ok (.ireturn, 1) := by decide +kernel
theorem dX8_canBecome_38 : decode cX8_canBecome 38 = .ok (.iload_n 0, 1) := by decide +kernel
theorem dX8_canBecome_39 : decode cX8_canBecome 39 = .ok (.bipush 7, 2) := by decide +kernel
theorem dX8_canBecome_41 : decode cX8_canBecome 41 = .ok (.if_icmp .ne 10, 3) := by decide +kernel
theorem dX8_canBecome_44 : decode cX8_canBecome 44 = .ok (.iload_n 1, 1) := by decide +kernel
theorem dX8_canBecome_45 : decode cX8_canBecome 45 = .ok (.invokestatic 251, 3) := by decide +kernel
theorem dX8_canBecome_48 : decode cX8_canBecome 48 = .ok (.goto 17, 3) := by decide +kernel
theorem dX8_canBecome_51 : decode cX8_canBecome 51 = .ok (.iload_n 1, 1) := by decide +kernel
theorem dX8_canBecome_52 : decode cX8_canBecome 52 = .ok (.ifCond .eq 8, 3) := by decide +kernel
theorem dX8_canBecome_55 : decode cX8_canBecome 55 = .ok (.iload_n 1, 1) := by decide +kernel
theorem dX8_canBecome_56 : decode cX8_canBecome 56 = .ok (.iconst 1, 1) := by decide +kernel
theorem dX8_canBecome_57 : decode cX8_canBecome 57 = .ok (.if_icmp .ne 7, 3) := by decide +kernel
theorem dX8_canBecome_60 : decode cX8_canBecome 60 = .ok (.iconst 1, 1) := by decide +kernel
theorem dX8_canBecome_61 : decode cX8_canBecome 61 = .ok (.goto 4, 3) := by decide +kernel
theorem dX8_canBecome_64 : decode cX8_canBecome 64 = .ok (.iconst 0, 1) := by decide +kernel
theorem dX8_canBecome_65 : decode cX8_canBecome 65 = .ok (.ireturn, 1) := by decide +kernel
theorem dX8_isPart_0 : decode cX8_isPart 0 = .ok (.iload_n 0, 1) := by decide +kernel
theorem dX8_isPart_1 : decode cX8_isPart 1 = .ok (.bipush 10, 2) := by decide +kernel
theorem dX8_isPart_3 : decode cX8_isPart 3 = .ok (.idiv, 1) := by decide +kernel
theorem dX8_isPart_4 : decode cX8_isPart 4 = .ok (.istore_n 1, 1) := by decide +kernel
theorem dX8_isPart_5 : decode cX8_isPart 5 = .ok (.iload_n 0, 1) := by decide +kernel
theorem dX8_isPart_6 : decode cX8_isPart 6 = .ok (.bipush 10, 2) := by decide +kernel
theorem dX8_isPart_8 : decode cX8_isPart 8 = .ok (.irem, 1) := by decide +kernel
theorem dX8_isPart_9 : decode cX8_isPart 9 = .ok (.istore_n 2, 1) := by decide +kernel
theorem dX8_isPart_10 : decode cX8_isPart 10 = .ok (.iload_n 0, 1) := by decide +kernel
theorem dX8_isPart_11 : decode cX8_isPart 11 = .ok (.ifCond .lt 23, 3) := by decide +kernel
theorem dX8_isPart_14 : decode cX8_isPart 14 = .ok (.iload_n 2, 1) := by decide +kernel
theorem dX8_isPart_15 : decode cX8_isPart 15 = .ok (.iconst 1, 1) := by decide +kernel
theorem dX8_isPart_16 : decode cX8_isPart 16 = .ok (.if_icmp .lt 18, 3) := by decide +kernel
theorem dX8_isPart_19 : decode cX8_isPart 19 = .ok (.iload_n 2, 1) := by decide +kernel
theorem dX8_isPart_20 : decode cX8_isPart 20 = .ok (.bipush 8, 2) := by decide +kernel
theorem dX8_isPart_22 : decode cX8_isPart 22 = .ok (.if_icmp .gt 12, 3) := by decide +kernel
theorem dX8_isPart_25 : decode cX8_isPart 25 = .ok (.iload_n 1, 1) := by decide +kernel
theorem dX8_isPart_26 : decode cX8_isPart 26 = .ok (.iload_n 2, 1) := by decide +kernel
theorem dX8_isPart_27 : decode cX8_isPart 27 = .ok (.if_icmp .gt 7, 3) := by decide +kernel
theorem dX8_isPart_30 : decode cX8_isPart 30 = .ok (.iconst 1, 1) := by decide +kernel
theorem dX8_isPart_31 : decode cX8_isPart 31 = .ok (.goto 4, 3) := by decide +kernel
theorem dX8_isPart_34 : decode cX8_isPart 34 = .ok (.iconst 0, 1) := by decide +kernel
theorem dX8_isPart_35 : decode cX8_isPart 35 = .ok (.ireturn, 1) := by decide +kernel
theorem dX8_placeOfAgreement_0 : decode cX8_placeOfAgreement 0 = .ok (.iconst 0, 1) := by decide +kernel
theorem dX8_placeOfAgreement_1 : decode cX8_placeOfAgreement 1 = .ok (.istore_n 2, 1) := by decide +kernel
theorem dX8_placeOfAgreement_2 : decode cX8_placeOfAgreement 2 = .ok (.iload_n 2, 1) := by decide +kernel
theorem dX8_placeOfAgreement_3 : decode cX8_placeOfAgreement 3 = .ok (.aload_n 0, 1) := by decide +kernel
theorem dX8_placeOfAgreement_4 : decode cX8_placeOfAgreement 4 = .ok (.getfield 25, 3) := by decide +kernel
theorem dX8_placeOfAgreement_7 : decode cX8_placeOfAgreement 7 = .ok (.invokevirtual 89, 3) := by decide +kernel
theorem dX8_placeOfAgreement_10 : decode cX8_placeOfAgreement 10 = .ok (.if_icmp .ge 29, 3) := by decide +kernel
theorem dX8_placeOfAgreement_13 : decode cX8_placeOfAgreement 13 = .ok (.aload_n 0, 1) := by decide +kernel
theorem dX8_placeOfAgreement_14 : decode cX8_placeOfAgreement 14 = .ok (.getfield 25, 3) := by decide +kernel
theorem dX8_placeOfAgreement_17 : decode cX8_placeOfAgreement 17 = .ok (.iload_n 2, 1) := by decide +kernel
theorem dX8_placeOfAgreement_18 : decode cX8_placeOfAgreement 18 = .ok (.invokevirtual 216, 3) := by decide +kernel
theorem dX8_placeOfAgreement_21 : decode cX8_placeOfAgreement 21 = .ok (.checkcast 100, 3) := by decide +kernel
theorem dX8_placeOfAgreement_24 : decode cX8_placeOfAgreement 24 = .ok (.getfield 220, 3) := by decide +kernel
theorem dX8_placeOfAgreement_27 : decode cX8_placeOfAgreement 27 = .ok (.iload_n 1, 1) := by decide +kernel
theorem dX8_placeOfAgreement_28 : decode cX8_placeOfAgreement 28 = .ok (.if_icmp .le 5, 3) := by decide +kernel
theorem dX8_placeOfAgreement_31 : decode cX8_placeOfAgreement 31 = .ok (.iload_n 2, 1) := by decide +kernel
theorem dX8_placeOfAgreement_32 : decode cX8_placeOfAgreement 32 = .ok (.ireturn, 1) := by decide +kernel
theorem dX8_placeOfAgreement_33 : decode cX8_placeOfAgreement 33 = .ok (.iinc 2 1, 3) := by decide +kernel
theorem dX8_placeOfAgreement_36 : decode cX8_placeOfAgreement 36 = .ok (.goto (-34), 3) := by decide +kernel
theorem dX8_placeOfAgreement_39 : decode cX8_placeOfAgreement 39 = .ok (.aload_n 0, 1) := by decide +kernel
theorem dX8_placeOfAgreement_40 : decode cX8_placeOfAgreement 40 = .ok (.getfield 25, 3) := by decide +kernel
theorem dX8_placeOfAgreement_43 : decode cX8_placeOfAgreement 43 = .ok (.invokevirtual 89, 3) := by decide +kernel
theorem dX8_placeOfAgreement_46 : decode cX8_placeOfAgreement 46 = .ok (.ireturn, 1) := by decide +kernel
theorem dX8_placeOfNote_0 : decode cX8_placeOfNote 0 = .ok (.iconst 0, 1) := by decide +kernel
theorem dX8_placeOfNote_1 : decode cX8_placeOfNote 1 = .ok (.istore_n 2, 1) := by decide +kernel
theorem dX8_placeOfNote_2 : decode cX8_placeOfNote 2 = .ok (.iload_n 2, 1) := by decide +kernel
theorem dX8_placeOfNote_3 : decode cX8_placeOfNote 3 = .ok (.aload_n 0, 1) := by decide +kernel
theorem dX8_placeOfNote_4 : decode cX8_placeOfNote 4 = .ok (.getfield 29, 3) := by decide +kernel
theorem dX8_placeOfNote_7 : decode cX8_placeOfNote 7 = .ok (.invokevirtual 89, 3) := by decide +kernel
theorem dX8_placeOfNote_10 : decode cX8_placeOfNote 10 = .ok (.if_icmp .ge 29, 3) := by decide +kernel
theorem dX8_placeOfNote_13 : decode cX8_placeOfNote 13 = .ok (.aload_n 0, 1) := by decide +kernel
theorem dX8_placeOfNote_14 : decode cX8_placeOfNote 14 = .ok (.getfield 29, 3) := by decide +kernel
theorem dX8_placeOfNote_17 : decode cX8_placeOfNote 17 = .ok (.iload_n 2, 1) := by decide +kernel
theorem dX8_placeOfNote_18 : decode cX8_placeOfNote 18 = .ok (.invokevirtual 216, 3) := by decide +kernel
theorem dX8_placeOfNote_21 : decode cX8_placeOfNote 21 = .ok (.checkcast 138, 3) := by decide +kernel
theorem dX8_placeOfNote_24 : decode cX8_placeOfNote 24 = .ok (.getfield 254, 3) := by decide +kernel
theorem dX8_placeOfNote_27 : decode cX8_placeOfNote 27 = .ok (.iload_n 1, 1) := by decide +kernel
theorem dX8_placeOfNote_28 : decode cX8_placeOfNote 28 = .ok (.if_icmp .le 5, 3) := by decide +kernel
theorem dX8_placeOfNote_31 : decode cX8_placeOfNote 31 = .ok (.iload_n 2, 1) := by decide +kernel
theorem dX8_placeOfNote_32 : decode cX8_placeOfNote 32 = .ok (.ireturn, 1) := by decide +kernel
theorem dX8_placeOfNote_33 : decode cX8_placeOfNote 33 = .ok (.iinc 2 1, 3) := by decide +kernel
theorem dX8_placeOfNote_36 : decode cX8_placeOfNote 36 = .ok (.goto (-34), 3) := by decide +kernel
theorem dX8_placeOfNote_39 : decode cX8_placeOfNote 39 = .ok (.aload_n 0, 1) := by decide +kernel
theorem dX8_placeOfNote_40 : decode cX8_placeOfNote 40 = .ok (.getfield 29, 3) := by decide +kernel
theorem dX8_placeOfNote_43 : decode cX8_placeOfNote 43 = .ok (.invokevirtual 89, 3) := by decide +kernel
theorem dX8_placeOfNote_46 : decode cX8_placeOfNote 46 = .ok (.ireturn, 1) := by decide +kernel
theorem dX8_dueOfMonths_0 : decode cX8_dueOfMonths 0 = .ok (.aload_n 0, 1) := by decide +kernel
theorem dX8_dueOfMonths_1 : decode cX8_dueOfMonths 1 = .ok (.getfield 48, 3) := by decide +kernel
theorem dX8_dueOfMonths_4 : decode cX8_dueOfMonths 4 = .ok (.iload_n 1, 1) := by decide +kernel
theorem dX8_dueOfMonths_5 : decode cX8_dueOfMonths 5 = .ok (.iload 4, 2) := by decide +kernel
theorem dX8_dueOfMonths_7 : decode cX8_dueOfMonths 7 = .ok (.invokevirtual 149, 3) := by decide +kernel
theorem dX8_dueOfMonths_10 : decode cX8_dueOfMonths 10 = .ok (.aload_n 0, 1) := by decide +kernel
theorem dX8_dueOfMonths_11 : decode cX8_dueOfMonths 11 = .ok (.getfield 48, 3) := by decide +kernel
theorem dX8_dueOfMonths_14 : decode cX8_dueOfMonths 14 = .ok (.iload_n 2, 1) := by decide +kernel
theorem dX8_dueOfMonths_15 : decode cX8_dueOfMonths 15 = .ok (.bipush 30, 2) := by decide +kernel
theorem dX8_dueOfMonths_17 : decode cX8_dueOfMonths 17 = .ok (.imul, 1) := by decide +kernel
theorem dX8_dueOfMonths_18 : decode cX8_dueOfMonths 18 = .ok (.invokevirtual 152, 3) := by decide +kernel
theorem dX8_dueOfMonths_21 : decode cX8_dueOfMonths 21 = .ok (.aload_n 0, 1) := by decide +kernel
theorem dX8_dueOfMonths_22 : decode cX8_dueOfMonths 22 = .ok (.getfield 48, 3) := by decide +kernel
theorem dX8_dueOfMonths_25 : decode cX8_dueOfMonths 25 = .ok (.iload_n 3, 1) := by decide +kernel
theorem dX8_dueOfMonths_26 : decode cX8_dueOfMonths 26 = .ok (.iload_n 2, 1) := by decide +kernel
theorem dX8_dueOfMonths_27 : decode cX8_dueOfMonths 27 = .ok (.isub, 1) := by decide +kernel
theorem dX8_dueOfMonths_28 : decode cX8_dueOfMonths 28 = .ok (.iconst 1, 1) := by decide +kernel
theorem dX8_dueOfMonths_29 : decode cX8_dueOfMonths 29 = .ok (.iadd, 1) := by decide +kernel
theorem dX8_dueOfMonths_30 : decode cX8_dueOfMonths 30 = .ok (.bipush 30, 2) := by decide +kernel
theorem dX8_dueOfMonths_32 : decode cX8_dueOfMonths 32 = .ok (.imul, 1) := by decide +kernel
theorem dX8_dueOfMonths_33 : decode cX8_dueOfMonths 33 = .ok (.invokevirtual 174, 3) := by decide +kernel
theorem dX8_dueOfMonths_36 : decode cX8_dueOfMonths 36 = .ok (.lreturn, 1) := by decide +kernel
theorem dX8_settle_0 : decode cX8_settle 0 = .ok (.iload_n 1, 1) := by decide +kernel
theorem dX8_settle_1 : decode cX8_settle 1 = .ok (.bipush 40, 2) := by decide +kernel
theorem dX8_settle_3 : decode cX8_settle 3 = .ok (.imul, 1) := by decide +kernel
theorem dX8_settle_4 : decode cX8_settle 4 = .ok (.iload_n 2, 1) := by decide +kernel
theorem dX8_settle_5 : decode cX8_settle 5 = .ok (.iadd, 1) := by decide +kernel
theorem dX8_settle_6 : decode cX8_settle 6 = .ok (.istore 5, 2) := by decide +kernel
theorem dX8_settle_8 : decode cX8_settle 8 = .ok (.iload 5, 2) := by decide +kernel
theorem dX8_settle_10 : decode cX8_settle 10 = .ok (.ifCond .lt 13, 3) := by decide +kernel
theorem dX8_settle_13 : decode cX8_settle 13 = .ok (.iload 5, 2) := by decide +kernel
theorem dX8_settle_15 : decode cX8_settle 15 = .ok (.aload_n 0, 1) := by decide +kernel
theorem dX8_settle_16 : decode cX8_settle 16 = .ok (.getfield 52, 3) := by decide +kernel
theorem dX8_settle_19 : decode cX8_settle 19 = .ok (.arraylength, 1) := by decide +kernel
theorem dX8_settle_20 : decode cX8_settle 20 = .ok (.if_icmp .lt 4, 3) := by decide +kernel
theorem dX8_settle_23 : decode cX8_settle 23 = .ok (.return_, 1) := by decide +kernel
theorem dX8_settle_24 : decode cX8_settle 24 = .ok (.lload_n 3, 1) := by decide +kernel
theorem dX8_settle_25 : decode cX8_settle 25 = .ok (.aload_n 0, 1) := by decide +kernel
theorem dX8_settle_26 : decode cX8_settle 26 = .ok (.getfield 52, 3) := by decide +kernel
theorem dX8_settle_29 : decode cX8_settle 29 = .ok (.iload 5, 2) := by decide +kernel
theorem dX8_settle_31 : decode cX8_settle 31 = .ok (.laload, 1) := by decide +kernel
theorem dX8_settle_32 : decode cX8_settle 32 = .ok (.lsub, 1) := by decide +kernel
theorem dX8_settle_33 : decode cX8_settle 33 = .ok (.lstore 6, 2) := by decide +kernel
theorem dX8_settle_35 : decode cX8_settle 35 = .ok (.lload 6, 2) := by decide +kernel
theorem dX8_settle_37 : decode cX8_settle 37 = .ok (.lconst 0, 1) := by decide +kernel
theorem dX8_settle_38 : decode cX8_settle 38 = .ok (.lcmp, 1) := by decide +kernel
theorem dX8_settle_39 : decode cX8_settle 39 = .ok (.ifCond .eq 25, 3) := by decide +kernel
theorem dX8_settle_42 : decode cX8_settle 42 = .ok (.aload_n 0, 1) := by decide +kernel
theorem dX8_settle_43 : decode cX8_settle 43 = .ok (.getfield 52, 3) := by decide +kernel
theorem dX8_settle_46 : decode cX8_settle 46 = .ok (.iload 5, 2) := by decide +kernel
theorem dX8_settle_48 : decode cX8_settle 48 = .ok (.lload_n 3, 1) := by decide +kernel
theorem dX8_settle_49 : decode cX8_settle 49 = .ok (.lastore, 1) := by decide +kernel
theorem dX8_settle_50 : decode cX8_settle 50 = .ok (.aload_n 0, 1) := by decide +kernel
theorem dX8_settle_51 : decode cX8_settle 51 = .ok (.getfield 61, 3) := by decide +kernel
theorem dX8_settle_54 : decode cX8_settle 54 = .ok (.iload_n 1, 1) := by decide +kernel
theorem dX8_settle_55 : decode cX8_settle 55 = .ok (.i2l, 1) := by decide +kernel
theorem dX8_settle_56 : decode cX8_settle 56 = .ok (.iload_n 2, 1) := by decide +kernel
theorem dX8_settle_57 : decode cX8_settle 57 = .ok (.i2l, 1) := by decide +kernel
theorem dX8_settle_58 : decode cX8_settle 58 = .ok (.lload 6, 2) := by decide +kernel
theorem dX8_settle_60 : decode cX8_settle 60 = .ok (.lconst 0, 1) := by decide +kernel
theorem dX8_settle_61 : decode cX8_settle 61 = .ok (.invokevirtual 248, 3) := by decide +kernel
theorem dX8_settle_64 : decode cX8_settle 64 = .ok (.return_, 1) := by decide +kernel
theorem dX8_areLike_0 : decode cX8_areLike 0 = .ok (.aload_n 0, 1) := by decide +kernel
theorem dX8_areLike_1 : decode cX8_areLike 1 = .ok (.getfield 71, 3) := by decide +kernel
theorem dX8_areLike_4 : decode cX8_areLike 4 = .ok (.iload_n 1, 1) := by decide +kernel
theorem dX8_areLike_5 : decode cX8_areLike 5 = .ok (.iaload, 1) := by decide +kernel
theorem dX8_areLike_6 : decode cX8_areLike 6 = .ok (.istore 4, 2) := by decide +kernel
theorem dX8_areLike_8 : decode cX8_areLike 8 = .ok (.aload_n 0, 1) := by decide +kernel
theorem dX8_areLike_9 : decode cX8_areLike 9 = .ok (.getfield 71, 3) := by decide +kernel
theorem dX8_areLike_12 : decode cX8_areLike 12 = .ok (.iload_n 2, 1) := by decide +kernel
theorem dX8_areLike_13 : decode cX8_areLike 13 = .ok (.iaload, 1) := by decide +kernel
theorem dX8_areLike_14 : decode cX8_areLike 14 = .ok (.istore 5, 2) := by decide +kernel
theorem dX8_areLike_16 : decode cX8_areLike 16 = .ok (.iload 4, 2) := by decide +kernel
theorem dX8_areLike_18 : decode cX8_areLike 18 = .ok (.iconst (-1), 1) := by decide +kernel
theorem dX8_areLike_19 : decode cX8_areLike 19 = .ok (.if_icmp .eq 13, 3) := by decide +kernel
theorem dX8_areLike_22 : decode cX8_areLike 22 = .ok (.iload 5, 2) := by decide +kernel
theorem dX8_areLike_24 : decode cX8_areLike 24 = .ok (.iconst (-1), 1) := by decide +kernel
theorem dX8_areLike_25 : decode cX8_areLike 25 = .ok (.if_icmp .eq 7, 3) := by decide +kernel
theorem dX8_areLike_28 : decode cX8_areLike 28 = .ok (.iconst 1, 1) := by decide +kernel
theorem dX8_areLike_29 : decode cX8_areLike 29 = .ok (.goto 4, 3) := by decide +kernel
theorem dX8_areLike_32 : decode cX8_areLike 32 = .ok (.iconst 0, 1) := by decide +kernel
theorem dX8_areLike_33 : decode cX8_areLike 33 = .ok (.istore 6, 2) := by decide +kernel
theorem dX8_areLike_35 : decode cX8_areLike 35 = .ok (.iload 6, 2) := by decide +kernel
theorem dX8_areLike_37 : decode cX8_areLike 37 = .ok (.ifCond .eq 34, 3) := by decide +kernel
theorem dX8_areLike_40 : decode cX8_areLike 40 = .ok (.iload 4, 2) := by decide +kernel
theorem dX8_areLike_42 : decode cX8_areLike 42 = .ok (.iload 5, 2) := by decide +kernel
theorem dX8_areLike_44 : decode cX8_areLike 44 = .ok (.isub, 1) := by decide +kernel
theorem dX8_areLike_45 : decode cX8_areLike 45 = .ok (.invokestatic 255, 3) := by decide +kernel
theorem dX8_areLike_48 : decode cX8_areLike 48 = .ok (.iload_n 3, 1) := by decide +kernel
theorem dX8_areLike_49 : decode cX8_areLike 49 = .ok (.if_icmp .gt 22, 3) := by decide +kernel
theorem dX8_areLike_52 : decode cX8_areLike 52 = .ok (.aload_n 0, 1) := by decide +kernel
theorem dX8_areLike_53 : decode cX8_areLike 53 = .ok (.getfield 74, 3) := by decide +kernel
theorem dX8_areLike_56 : decode cX8_areLike 56 = .ok (.iload_n 1, 1) := by decide +kernel
theorem dX8_areLike_57 : decode cX8_areLike 57 = .ok (.iaload, 1) := by decide +kernel
theorem dX8_areLike_58 : decode cX8_areLike 58 = .ok (.aload_n 0, 1) := by decide +kernel
theorem dX8_areLike_59 : decode cX8_areLike 59 = .ok (.getfield 74, 3) := by decide +kernel
theorem dX8_areLike_62 : decode cX8_areLike 62 = .ok (.iload_n 2, 1) := by decide +kernel
theorem dX8_areLike_63 : decode cX8_areLike 63 = .ok (.iaload, 1) := by decide +kernel
theorem dX8_areLike_64 : decode cX8_areLike 64 = .ok (.if_icmp .eq 7, 3) := by decide +kernel
theorem dX8_areLike_67 : decode cX8_areLike 67 = .ok (.iconst 1, 1) := by decide +kernel
theorem dX8_areLike_68 : decode cX8_areLike 68 = .ok (.goto 4, 3) := by decide +kernel
theorem dX8_areLike_71 : decode cX8_areLike 71 = .ok (.iconst 0, 1) := by decide +kernel
theorem dX8_areLike_72 : decode cX8_areLike 72 = .ok (.ireturn, 1) := by decide +kernel
theorem dX8_addPair_0 : decode cX8_addPair 0 = .ok (.aload_n 0, 1) := by decide +kernel
theorem dX8_addPair_1 : decode cX8_addPair 1 = .ok (.getfield 74, 3) := by decide +kernel
theorem dX8_addPair_4 : decode cX8_addPair 4 = .ok (.iload_n 1, 1) := by decide +kernel
theorem dX8_addPair_5 : decode cX8_addPair 5 = .ok (.iaload, 1) := by decide +kernel
theorem dX8_addPair_6 : decode cX8_addPair 6 = .ok (.istore_n 3, 1) := by decide +kernel
theorem dX8_addPair_7 : decode cX8_addPair 7 = .ok (.aload_n 0, 1) := by decide +kernel
theorem dX8_addPair_8 : decode cX8_addPair 8 = .ok (.getfield 74, 3) := by decide +kernel
theorem dX8_addPair_11 : decode cX8_addPair 11 = .ok (.iload_n 2, 1) := by decide +kernel
theorem dX8_addPair_12 : decode cX8_addPair 12 = .ok (.iaload, 1) := by decide +kernel
theorem dX8_addPair_13 : decode cX8_addPair 13 = .ok (.istore 4, 2) := by decide +kernel
theorem dX8_addPair_15 : decode cX8_addPair 15 = .ok (.iload_n 3, 1) := by decide +kernel
theorem dX8_addPair_16 : decode cX8_addPair 16 = .ok (.iload 4, 2) := by decide +kernel
theorem dX8_addPair_18 : decode cX8_addPair 18 = .ok (.invokestatic 260, 3) := by decide +kernel
theorem dX8_addPair_21 : decode cX8_addPair 21 = .ok (.istore 5, 2) := by decide +kernel
theorem dX8_addPair_23 : decode cX8_addPair 23 = .ok (.iload 5, 2) := by decide +kernel
theorem dX8_addPair_25 : decode cX8_addPair 25 = .ok (.ifCond .le 25, 3) := by decide +kernel
theorem dX8_addPair_28 : decode cX8_addPair 28 = .ok (.aload_n 0, 1) := by decide +kernel
theorem dX8_addPair_29 : decode cX8_addPair 29 = .ok (.getfield 65, 3) := by decide +kernel
theorem dX8_addPair_32 : decode cX8_addPair 32 = .ok (.iload_n 1, 1) := by decide +kernel
theorem dX8_addPair_33 : decode cX8_addPair 33 = .ok (.i2l, 1) := by decide +kernel
theorem dX8_addPair_34 : decode cX8_addPair 34 = .ok (.iload_n 2, 1) := by decide +kernel
theorem dX8_addPair_35 : decode cX8_addPair 35 = .ok (.i2l, 1) := by decide +kernel
theorem dX8_addPair_36 : decode cX8_addPair 36 = .ok (.iload_n 3, 1) := by decide +kernel
theorem dX8_addPair_37 : decode cX8_addPair 37 = .ok (.iload 5, 2) := by decide +kernel
theorem dX8_addPair_39 : decode cX8_addPair 39 = .ok (.idiv, 1) := by decide +kernel
theorem dX8_addPair_40 : decode cX8_addPair 40 = .ok (.i2l, 1) := by decide +kernel
theorem dX8_addPair_41 : decode cX8_addPair 41 = .ok (.iload 4, 2) := by decide +kernel
theorem dX8_addPair_43 : decode cX8_addPair 43 = .ok (.iload 5, 2) := by decide +kernel
theorem dX8_addPair_45 : decode cX8_addPair 45 = .ok (.idiv, 1) := by decide +kernel
theorem dX8_addPair_46 : decode cX8_addPair 46 = .ok (.i2l, 1) := by decide +kernel
theorem dX8_addPair_47 : decode cX8_addPair 47 = .ok (.invokevirtual 248, 3) := by decide +kernel
theorem dX8_addPair_50 : decode cX8_addPair 50 = .ok (.return_, 1) := by decide +kernel
theorem dX8_commonDivisor_0 : decode cX8_commonDivisor 0 = .ok (.iload_n 0, 1) := by decide +kernel
theorem dX8_commonDivisor_1 : decode cX8_commonDivisor 1 = .ok (.istore_n 2, 1) := by decide +kernel
theorem dX8_commonDivisor_2 : decode cX8_commonDivisor 2 = .ok (.iload_n 1, 1) := by decide +kernel
theorem dX8_commonDivisor_3 : decode cX8_commonDivisor 3 = .ok (.istore_n 3, 1) := by decide +kernel
theorem dX8_commonDivisor_4 : decode cX8_commonDivisor 4 = .ok (.iconst 0, 1) := by decide +kernel
theorem dX8_commonDivisor_5 : decode cX8_commonDivisor 5 = .ok (.istore 4, 2) := by decide +kernel
theorem dX8_commonDivisor_7 : decode cX8_commonDivisor 7 = .ok (.iload 4, 2) := by decide +kernel
theorem dX8_commonDivisor_9 : decode cX8_commonDivisor 9 = .ok (.bipush 64, 2) := by decide +kernel
theorem dX8_commonDivisor_11 : decode cX8_commonDivisor 11 = .ok (.if_icmp .ge 23, 3) := by decide +kernel
theorem dX8_commonDivisor_14 : decode cX8_commonDivisor 14 = .ok (.iload_n 3, 1) := by decide +kernel
theorem dX8_commonDivisor_15 : decode cX8_commonDivisor 15 = .ok (.ifCond .eq 19, 3) := by decide +kernel
theorem dX8_commonDivisor_18 : decode cX8_commonDivisor 18 = .ok (.iload_n 2, 1) := by decide +kernel
theorem dX8_commonDivisor_19 : decode cX8_commonDivisor 19 = .ok (.iload_n 3, 1) := by decide +kernel
theorem dX8_commonDivisor_20 : decode cX8_commonDivisor 20 = .ok (.irem, 1) := by decide +kernel
theorem dX8_commonDivisor_21 : decode cX8_commonDivisor 21 = .ok (.istore 5, 2) := by decide +kernel
theorem dX8_commonDivisor_23 : decode cX8_commonDivisor 23 = .ok (.iload_n 3, 1) := by decide +kernel
theorem dX8_commonDivisor_24 : decode cX8_commonDivisor 24 = .ok (.istore_n 2, 1) := by decide +kernel
theorem dX8_commonDivisor_25 : decode cX8_commonDivisor 25 = .ok (.iload 5, 2) := by decide +kernel
theorem dX8_commonDivisor_27 : decode cX8_commonDivisor 27 = .ok (.istore_n 3, 1) := by decide +kernel
theorem dX8_commonDivisor_28 : decode cX8_commonDivisor 28 = .ok (.iinc 4 1, 3) := by decide +kernel
theorem dX8_commonDivisor_31 : decode cX8_commonDivisor 31 = .ok (.goto (-24), 3) := by decide +kernel
theorem dX8_commonDivisor_34 : decode cX8_commonDivisor 34 = .ok (.iload_n 2, 1) := by decide +kernel
theorem dX8_commonDivisor_35 : decode cX8_commonDivisor 35 = .ok (.ireturn, 1) := by decide +kernel
theorem dX9_init_0 : decode cX9_init 0 = .ok (.aload_n 0, 1) := by decide +kernel
theorem dX9_init_1 : decode cX9_init 1 = .ok (.invokespecial 1, 3) := by decide +kernel
theorem dX9_init_4 : decode cX9_init 4 = .ok (.aload_n 0, 1) := by decide +kernel
theorem dX9_init_5 : decode cX9_init 5 = .ok (.sipush 2000, 3) := by decide +kernel
theorem dX9_init_8 : decode cX9_init 8 = .ok (.newarray .int, 2) := by decide +kernel
theorem dX9_init_10 : decode cX9_init 10 = .ok (.putfield 7, 3) := by decide +kernel
theorem dX9_init_13 : decode cX9_init 13 = .ok (.aload_n 0, 1) := by decide +kernel
theorem dX9_init_14 : decode cX9_init 14 = .ok (.bipush 12, 2) := by decide +kernel
theorem dX9_init_16 : decode cX9_init 16 = .ok (.newarray .int, 2) := by decide +kernel
theorem dX9_init_18 : decode cX9_init 18 = .ok (.putfield 13, 3) := by decide +kernel
theorem dX9_init_21 : decode cX9_init 21 = .ok (.aload_n 0, 1) := by decide +kernel
theorem dX9_init_22 : decode cX9_init 22 = .ok (.bipush 12, 2) := by decide +kernel
theorem dX9_init_24 : decode cX9_init 24 = .ok (.newarray .int, 2) := by decide +kernel
theorem dX9_init_26 : decode cX9_init 26 = .ok (.putfield 16, 3) := by decide +kernel
theorem dX9_init_29 : decode cX9_init 29 = .ok (.aload_n 0, 1) := by decide +kernel
theorem dX9_init_30 : decode cX9_init 30 = .ok (.bipush 13, 2) := by decide +kernel
theorem dX9_init_32 : decode cX9_init 32 = .ok (.newarray .int, 2) := by decide +kernel
theorem dX9_init_34 : decode cX9_init 34 = .ok (.putfield 19, 3) := by decide +kernel
theorem dX9_init_37 : decode cX9_init 37 = .ok (.aload_n 0, 1) := by decide +kernel
theorem dX9_init_38 : decode cX9_init 38 = .ok (.sipush 481, 3) := by decide +kernel
theorem dX9_init_41 : decode cX9_init 41 = .ok (.newarray .int, 2) := by decide +kernel
theorem dX9_init_43 : decode cX9_init 43 = .ok (.putfield 22, 3) := by decide +kernel
theorem dX9_init_46 : decode cX9_init 46 = .ok (.aload_n 0, 1) := by decide +kernel
theorem dX9_init_47 : decode cX9_init 47 = .ok (.sipush 481, 3) := by decide +kernel
theorem dX9_init_50 : decode cX9_init 50 = .ok (.newarray .boolean, 2) := by decide +kernel
theorem dX9_init_52 : decode cX9_init 52 = .ok (.putfield 25, 3) := by decide +kernel
theorem dX9_init_55 : decode cX9_init 55 = .ok (.aload_n 0, 1) := by decide +kernel
theorem dX9_init_56 : decode cX9_init 56 = .ok (.sipush 481, 3) := by decide +kernel
theorem dX9_init_59 : decode cX9_init 59 = .ok (.newarray .int, 2) := by decide +kernel
theorem dX9_init_61 : decode cX9_init 61 = .ok (.putfield 29, 3) := by decide +kernel
theorem dX9_init_64 : decode cX9_init 64 = .ok (.aload_n 0, 1) := by decide +kernel
theorem dX9_init_65 : decode cX9_init 65 = .ok (.sipush 481, 3) := by decide +kernel
theorem dX9_init_68 : decode cX9_init 68 = .ok (.newarray .int, 2) := by decide +kernel
theorem dX9_init_70 : decode cX9_init 70 = .ok (.putfield 32, 3) := by decide +kernel
theorem dX9_init_73 : decode cX9_init 73 = .ok (.aload_n 0, 1) := by decide +kernel
theorem dX9_init_74 : decode cX9_init 74 = .ok (.sipush 481, 3) := by decide +kernel
theorem dX9_init_77 : decode cX9_init 77 = .ok (.newarray .int, 2) := by decide +kernel
theorem dX9_init_79 : decode cX9_init 79 = .ok (.putfield 35, 3) := by decide +kernel
theorem dX9_init_82 : decode cX9_init 82 = .ok (.aload_n 0, 1) := by decide +kernel
theorem dX9_init_83 : decode cX9_init 83 = .ok (.sipush 481, 3) := by decide +kernel
theorem dX9_init_86 : decode cX9_init 86 = .ok (.newarray .int, 2) := by decide +kernel
theorem dX9_init_88 : decode cX9_init 88 = .ok (.putfield 38, 3) := by decide +kernel
theorem dX9_init_91 : decode cX9_init 91 = .ok (.aload_n 0, 1) := by decide +kernel
theorem dX9_init_92 : decode cX9_init 92 = .ok (.sipush 481, 3) := by decide +kernel
theorem dX9_init_95 : decode cX9_init 95 = .ok (.newarray .boolean, 2) := by decide +kernel
theorem dX9_init_97 : decode cX9_init 97 = .ok (.putfield 41, 3) := by decide +kernel
theorem dX9_init_100 : decode cX9_init 100 = .ok (.aload_n 0, 1) := by decide +kernel
theorem dX9_init_101 : decode cX9_init 101 = .ok (.sipush 3848, 3) := by decide +kernel
theorem dX9_init_104 : decode cX9_init 104 = .ok (.newarray .int, 2) := by decide +kernel
theorem dX9_init_106 : decode cX9_init 106 = .ok (.putfield 44, 3) := by decide +kernel
theorem dX9_init_109 : decode cX9_init 109 = .ok (.aload_n 0, 1) := by decide +kernel
theorem dX9_init_110 : decode cX9_init 110 = .ok (.sipush 481, 3) := by decide +kernel
theorem dX9_init_113 : decode cX9_init 113 = .ok (.newarray .int, 2) := by decide +kernel
theorem dX9_init_115 : decode cX9_init 115 = .ok (.putfield 47, 3) := by decide +kernel
theorem dX9_init_118 : decode cX9_init 118 = .ok (.aload_n 0, 1) := by decide +kernel
theorem dX9_init_119 : decode cX9_init 119 = .ok (.iconst (-1), 1) := by decide +kernel
theorem dX9_init_120 : decode cX9_init 120 = .ok (.putfield 50, 3) := by decide +kernel
theorem dX9_init_123 : decode cX9_init 123 = .ok (.aload_n 0, 1) := by decide +kernel
theorem dX9_init_124 : decode cX9_init 124 = .ok (.bipush 8, 2) := by decide +kernel
theorem dX9_init_126 : decode cX9_init 126 = .ok (.newarray .int, 2) := by decide +kernel
theorem dX9_init_128 : decode cX9_init 128 = .ok (.putfield 54, 3) := by decide +kernel
theorem dX9_init_131 : decode cX9_init 131 = .ok (.aload_n 0, 1) := by decide +kernel
theorem dX9_init_132 : decode cX9_init 132 = .ok (.sipush 200, 3) := by decide +kernel
theorem dX9_init_135 : decode cX9_init 135 = .ok (.newarray .int, 2) := by decide +kernel
theorem dX9_init_137 : decode cX9_init 137 = .ok (.putfield 57, 3) := by decide +kernel
theorem dX9_init_140 : decode cX9_init 140 = .ok (.aload_n 0, 1) := by decide +kernel
theorem dX9_init_141 : decode cX9_init 141 = .ok (.sipush 200, 3) := by decide +kernel
theorem dX9_init_144 : decode cX9_init 144 = .ok (.newarray .int, 2) := by decide +kernel
theorem dX9_init_146 : decode cX9_init 146 = .ok (.putfield 60, 3) := by decide +kernel
theorem dX9_init_149 : decode cX9_init 149 = .ok (.aload_n 0, 1) := by decide +kernel
theorem dX9_init_150 : decode cX9_init 150 = .ok (.sipush 200, 3) := by decide +kernel
theorem dX9_init_153 : decode cX9_init 153 = .ok (.newarray .int, 2) := by decide +kernel
theorem dX9_init_155 : decode cX9_init 155 = .ok (.putfield 63, 3) := by decide +kernel
theorem dX9_init_158 : decode cX9_init 158 = .ok (.aload_n 0, 1) := by decide +kernel
theorem dX9_init_159 : decode cX9_init 159 = .ok (.sipush 200, 3) := by decide +kernel
theorem dX9_init_162 : decode cX9_init 162 = .ok (.newarray .int, 2) := by decide +kernel
theorem dX9_init_164 : decode cX9_init 164 = .ok (.putfield 66, 3) := by decide +kernel
theorem dX9_init_167 : decode cX9_init 167 = .ok (.aload_n 0, 1) := by decide +kernel
theorem dX9_init_168 : decode cX9_init 168 = .ok (.sipush 200, 3) := by decide +kernel
theorem dX9_init_171 : decode cX9_init 171 = .ok (.newarray .int, 2) := by decide +kernel
theorem dX9_init_173 : decode cX9_init 173 = .ok (.putfield 69, 3) := by decide +kernel
theorem dX9_init_176 : decode cX9_init 176 = .ok (.aload_n 0, 1) := by decide +kernel
theorem dX9_init_177 : decode cX9_init 177 = .ok (.sipush 156, 3) := by decide +kernel
theorem dX9_init_180 : decode cX9_init 180 = .ok (.newarray .int, 2) := by decide +kernel
theorem dX9_init_182 : decode cX9_init 182 = .ok (.putfield 72, 3) := by decide +kernel
theorem dX9_init_185 : decode cX9_init 185 = .ok (.aload_n 0, 1) := by decide +kernel
theorem dX9_init_186 : decode cX9_init 186 = .ok (.sipush 156, 3) := by decide +kernel
theorem dX9_init_189 : decode cX9_init 189 = .ok (.newarray .int, 2) := by decide +kernel
theorem dX9_init_191 : decode cX9_init 191 = .ok (.putfield 75, 3) := by decide +kernel
theorem dX9_init_194 : decode cX9_init 194 = .ok (.aload_n 0, 1) := by decide +kernel
theorem dX9_init_195 : decode cX9_init 195 = .ok (.sipush 156, 3) := by decide +kernel
theorem dX9_init_198 : decode cX9_init 198 = .ok (.newarray .int, 2) := by decide +kernel
theorem dX9_init_200 : decode cX9_init 200 = .ok (.putfield 78, 3) := by decide +kernel
theorem dX9_init_203 : decode cX9_init 203 = .ok (.aload_n 0, 1) := by decide +kernel
theorem dX9_init_204 : decode cX9_init 204 = .ok (.bipush 72, 2) := by decide +kernel
theorem dX9_init_206 : decode cX9_init 206 = .ok (.newarray .int, 2) := by decide +kernel
theorem dX9_init_208 : decode cX9_init 208 = .ok (.putfield 81, 3) := by decide +kernel
theorem dX9_init_211 : decode cX9_init 211 = .ok (.aload_n 0, 1) := by decide +kernel
theorem dX9_init_212 : decode cX9_init 212 = .ok (.bipush 8, 2) := by decide +kernel
theorem dX9_init_214 : decode cX9_init 214 = .ok (.newarray .int, 2) := by decide +kernel
theorem dX9_init_216 : decode cX9_init 216 = .ok (.putfield 84, 3) := by decide +kernel
theorem dX9_init_219 : decode cX9_init 219 = .ok (.aload_n 0, 1) := by decide +kernel
theorem dX9_init_220 : decode cX9_init 220 = .ok (.bipush 8, 2) := by decide +kernel
theorem dX9_init_222 : decode cX9_init 222 = .ok (.newarray .int, 2) := by decide +kernel
theorem dX9_init_224 : decode cX9_init 224 = .ok (.putfield 87, 3) := by decide +kernel
theorem dX9_init_227 : decode cX9_init 227 = .ok (.aload_n 0, 1) := by decide +kernel
theorem dX9_init_228 : decode cX9_init 228 = .ok (.bipush 8, 2) := by decide +kernel
theorem dX9_init_230 : decode cX9_init 230 = .ok (.newarray .int, 2) := by decide +kernel
theorem dX9_init_232 : decode cX9_init 232 = .ok (.putfield 90, 3) := by decide +kernel
theorem dX9_init_235 : decode cX9_init 235 = .ok (.aload_n 0, 1) := by decide +kernel
theorem dX9_init_236 : decode cX9_init 236 = .ok (.bipush 8, 2) := by decide +kernel
theorem dX9_init_238 : decode cX9_init 238 = .ok (.newarray .int, 2) := by decide +kernel
theorem dX9_init_240 : decode cX9_init 240 = .ok (.putfield 93, 3) := by decide +kernel
theorem dX9_init_243 : decode cX9_init 243 = .ok (.aload_n 0, 1) := by decide +kernel
theorem dX9_init_244 : decode cX9_init 244 = .ok (.bipush 8, 2) := by decide +kernel
theorem dX9_init_246 : decode cX9_init 246 = .ok (.newarray .int, 2) := by decide +kernel
theorem dX9_init_248 : decode cX9_init 248 = .ok (.putfield 96, 3) := by decide +kernel
theorem dX9_init_251 : decode cX9_init 251 = .ok (.aload_n 0, 1) := by decide +kernel
theorem dX9_init_252 : decode cX9_init 252 = .ok (.bipush 8, 2) := by decide +kernel
theorem dX9_init_254 : decode cX9_init 254 = .ok (.newarray .int, 2) := by decide +kernel
theorem dX9_init_256 : decode cX9_init 256 = .ok (.putfield 99, 3) := by decide +kernel
theorem dX9_init_259 : decode cX9_init 259 = .ok (.aload_n 0, 1) := by decide +kernel
theorem dX9_init_260 : decode cX9_init 260 = .ok (.bipush 8, 2) := by decide +kernel
theorem dX9_init_262 : decode cX9_init 262 = .ok (.newarray .int, 2) := by decide +kernel
theorem dX9_init_264 : decode cX9_init 264 = .ok (.putfield 102, 3) := by decide +kernel
theorem dX9_init_267 : decode cX9_init 267 = .ok (.aload_n 0, 1) := by decide +kernel
theorem dX9_init_268 : decode cX9_init 268 = .ok (.bipush 8, 2) := by decide +kernel
theorem dX9_init_270 : decode cX9_init 270 = .ok (.newarray .int, 2) := by decide +kernel
theorem dX9_init_272 : decode cX9_init 272 = .ok (.putfield 105, 3) := by decide +kernel
theorem dX9_init_275 : decode cX9_init 275 = .ok (.aload_n 0, 1) := by decide +kernel
theorem dX9_init_276 : decode cX9_init 276 = .ok (.bipush 8, 2) := by decide +kernel
theorem dX9_init_278 : decode cX9_init 278 = .ok (.newarray .int, 2) := by decide +kernel
theorem dX9_init_280 : decode cX9_init 280 = .ok (.putfield 108, 3) := by decide +kernel
theorem dX9_init_283 : decode cX9_init 283 = .ok (.aload_n 0, 1) := by decide +kernel
theorem dX9_init_284 : decode cX9_init 284 = .ok (.bipush 8, 2) := by decide +kernel
theorem dX9_init_286 : decode cX9_init 286 = .ok (.newarray .boolean, 2) := by decide +kernel
theorem dX9_init_288 : decode cX9_init 288 = .ok (.putfield 111, 3) := by decide +kernel
theorem dX9_init_291 : decode cX9_init 291 = .ok (.aload_n 0, 1) := by decide +kernel
theorem dX9_init_292 : decode cX9_init 292 = .ok (.sipush 320, 3) := by decide +kernel
theorem dX9_init_295 : decode cX9_init 295 = .ok (.newarray .long, 2) := by decide +kernel
theorem dX9_init_297 : decode cX9_init 297 = .ok (.putfield 114, 3) := by decide +kernel
theorem dX9_init_300 : decode cX9_init 300 = .ok (.aload_n 0, 1) := by decide +kernel
theorem dX9_init_301 : decode cX9_init 301 = .ok (.sipush 320, 3) := by decide +kernel
theorem dX9_init_304 : decode cX9_init 304 = .ok (.newarray .long, 2) := by decide +kernel
theorem dX9_init_306 : decode cX9_init 306 = .ok (.putfield 118, 3) := by decide +kernel
theorem dX9_init_309 : decode cX9_init 309 = .ok (.aload_n 0, 1) := by decide +kernel
theorem dX9_init_310 : decode cX9_init 310 = .ok (.sipush 320, 3) := by decide +kernel
theorem dX9_init_313 : decode cX9_init 313 = .ok (.newarray .int, 2) := by decide +kernel
theorem dX9_init_315 : decode cX9_init 315 = .ok (.putfield 121, 3) := by decide +kernel
theorem dX9_init_318 : decode cX9_init 318 = .ok (.aload_n 0, 1) := by decide +kernel
theorem dX9_init_319 : decode cX9_init 319 = .ok (.sipush 320, 3) := by decide +kernel
theorem dX9_init_322 : decode cX9_init 322 = .ok (.newarray .int, 2) := by decide +kernel
theorem dX9_init_324 : decode cX9_init 324 = .ok (.putfield 124, 3) := by decide +kernel
theorem dX9_init_327 : decode cX9_init 327 = .ok (.aload_n 0, 1) := by decide +kernel
theorem dX9_init_328 : decode cX9_init 328 = .ok (.sipush 320, 3) := by decide +kernel
theorem dX9_init_331 : decode cX9_init 331 = .ok (.newarray .long, 2) := by decide +kernel
theorem dX9_init_333 : decode cX9_init 333 = .ok (.putfield 127, 3) := by decide +kernel
theorem dX9_init_336 : decode cX9_init 336 = .ok (.aload_n 0, 1) := by decide +kernel
theorem dX9_init_337 : decode cX9_init 337 = .ok (.bipush 112, 2) := by decide +kernel
theorem dX9_init_339 : decode cX9_init 339 = .ok (.newarray .int, 2) := by decide +kernel
theorem dX9_init_341 : decode cX9_init 341 = .ok (.putfield 130, 3) := by decide +kernel
theorem dX9_init_344 : decode cX9_init 344 = .ok (.aload_n 0, 1) := by decide +kernel
theorem dX9_init_345 : decode cX9_init 345 = .ok (.sipush 624, 3) := by decide +kernel
theorem dX9_init_348 : decode cX9_init 348 = .ok (.newarray .int, 2) := by decide +kernel
theorem dX9_init_350 : decode cX9_init 350 = .ok (.putfield 133, 3) := by decide +kernel
theorem dX9_init_353 : decode cX9_init 353 = .ok (.return_, 1) := by decide +kernel
theorem dX9_feed_0 : decode cX9_feed 0 = .ok (.aload_n 0, 1) := by decide +kernel
theorem dX9_feed_1 : decode cX9_feed 1 = .ok (.iconst 0, 1) := by decide +kernel
theorem dX9_feed_2 : decode cX9_feed 2 = .ok (.putfield 136, 3) := by decide +kernel
theorem dX9_feed_5 : decode cX9_feed 5 = .ok (.aload_n 0, 1) := by decide +kernel
theorem dX9_feed_6 : decode cX9_feed 6 = .ok (.getfield 139, 3) := by decide +kernel
theorem dX9_feed_9 : decode cX9_feed 9 = .ok (.sipush 1980, 3) := by decide +kernel
theorem dX9_feed_12 : decode cX9_feed 12 = .ok (.if_icmp .le 5, 3) := by decide +kernel
theorem dX9_feed_15 : decode cX9_feed 15 = .ok (.iconst (-1), 1) := by decide +kernel
theorem dX9_feed_16 : decode cX9_feed 16 = .ok (.ireturn, 1) := by decide +kernel
theorem dX9_feed_17 : decode cX9_feed 17 = .ok (.iconst 0, 1) := by decide +kernel
theorem dX9_feed_18 : decode cX9_feed 18 = .ok (.istore 6, 2) := by decide +kernel
theorem dX9_feed_20 : decode cX9_feed 20 = .ok (.iload 6, 2) := by decide +kernel
theorem dX9_feed_22 : decode cX9_feed 22 = .ok (.bipush 20, 2) := by decide +kernel
theorem dX9_feed_24 : decode cX9_feed 24 = .ok (.if_icmp .ge 86, 3) := by decide +kernel
theorem dX9_feed_27 : decode cX9_feed 27 = .ok (.iload 6, 2) := by decide +kernel
theorem dX9_feed_29 : decode cX9_feed 29 = .ok (.iconst 4, 1) := by decide +kernel
theorem dX9_feed_30 : decode cX9_feed 30 = .ok (.if_icmp .ge 7, 3) := by decide +kernel
theorem dX9_feed_33 : decode cX9_feed 33 = .ok (.iload_n 1, 1) := by decide +kernel
theorem dX9_feed_34 : decode cX9_feed 34 = .ok (.goto 39, 3) := by decide +kernel
theorem dX9_feed_37 : decode cX9_feed 37 = .ok (.iload 6, 2) := by decide +kernel
theorem dX9_feed_39 : decode cX9_feed 39 = .ok (.bipush 8, 2) := by decide +kernel
theorem dX9_feed_41 : decode cX9_feed 41 = .ok (.if_icmp .ge 7, 3) := by decide +kernel
theorem dX9_feed_44 : decode cX9_feed 44 = .ok (.iload_n 2, 1) := by decide +kernel
theorem dX9_feed_45 : decode cX9_feed 45 = .ok (.goto 28, 3) := by decide +kernel
theorem dX9_feed_48 : decode cX9_feed 48 = .ok (.iload 6, 2) := by decide +kernel
theorem dX9_feed_50 : decode cX9_feed 50 = .ok (.bipush 12, 2) := by decide +kernel
theorem dX9_feed_52 : decode cX9_feed 52 = .ok (.if_icmp .ge 7, 3) := by decide +kernel
theorem dX9_feed_55 : decode cX9_feed 55 = .ok (.iload_n 3, 1) := by decide +kernel
theorem dX9_feed_56 : decode cX9_feed 56 = .ok (.goto 17, 3) := by decide +kernel
theorem dX9_feed_59 : decode cX9_feed 59 = .ok (.iload 6, 2) := by decide +kernel
theorem dX9_feed_61 : decode cX9_feed 61 = .ok (.bipush 16, 2) := by decide +kernel
theorem dX9_feed_63 : decode cX9_feed 63 = .ok (.if_icmp .ge 8, 3) := by decide +kernel
theorem dX9_feed_66 : decode cX9_feed 66 = .ok (.iload 4, 2) := by decide +kernel
theorem dX9_feed_68 : decode cX9_feed 68 = .ok (.goto 5, 3) := by decide +kernel
theorem dX9_feed_71 : decode cX9_feed 71 = .ok (.iload 5, 2) := by decide +kernel
theorem dX9_feed_73 : decode cX9_feed 73 = .ok (.istore 7, 2) := by decide +kernel
theorem dX9_feed_75 : decode cX9_feed 75 = .ok (.aload_n 0, 1) := by decide +kernel
theorem dX9_feed_76 : decode cX9_feed 76 = .ok (.getfield 7, 3) := by decide +kernel
theorem dX9_feed_79 : decode cX9_feed 79 = .ok (.aload_n 0, 1) := by decide +kernel
theorem dX9_feed_80 : decode cX9_feed 80 = .ok (.getfield 139, 3) := by decide +kernel
theorem dX9_feed_83 : decode cX9_feed 83 = .ok (.iload 6, 2) := by decide +kernel
theorem dX9_feed_85 : decode cX9_feed 85 = .ok (.iadd, 1) := by decide +kernel
theorem dX9_feed_86 : decode cX9_feed 86 = .ok (.iload 7, 2) := by decide +kernel
theorem dX9_feed_88 : decode cX9_feed 88 = .ok (.bipush 24, 2) := by decide +kernel
theorem dX9_feed_90 : decode cX9_feed 90 = .ok (.bipush 8, 2) := by decide +kernel
theorem dX9_feed_92 : decode cX9_feed 92 = .ok (.iload 6, 2) := by decide +kernel
theorem dX9_feed_94 : decode cX9_feed 94 = .ok (.iconst 4, 1) := by decide +kernel
theorem dX9_feed_95 : decode cX9_feed 95 = .ok (.irem, 1) := by decide +kernel
theorem dX9_feed_96 : decode cX9_feed 96 = .ok (.imul, 1) := by decide +kernel
theorem dX9_feed_97 : decode cX9_feed 97 = .ok (.isub, 1) := by decide +kernel
theorem dX9_feed_98 : decode cX9_feed 98 = .ok (.ishr, 1) := by decide +kernel
theorem dX9_feed_99 : decode cX9_feed 99 = .ok (.sipush 255, 3) := by decide +kernel
theorem dX9_feed_102 : decode cX9_feed 102 = .ok (.iand, 1) := by decide +kernel
theorem dX9_feed_103 : decode cX9_feed 103 = .ok (.iastore, 1) := by decide +kernel
theorem dX9_feed_104 : decode cX9_feed 104 = .ok (.iinc 6 1, 3) := by decide +kernel
theorem dX9_feed_107 : decode cX9_feed 107 = .ok (.goto (-87), 3) := by decide +kernel
theorem dX9_feed_110 : decode cX9_feed 110 = .ok (.aload_n 0, 1) := by decide +kernel
theorem dX9_feed_111 : decode cX9_feed 111 = .ok (.dup, 1) := by decide +kernel
theorem dX9_feed_112 : decode cX9_feed 112 = .ok (.getfield 139, 3) := by decide +kernel
theorem dX9_feed_115 : decode cX9_feed 115 = .ok (.bipush 20, 2) := by decide +kernel
theorem dX9_feed_117 : decode cX9_feed 117 = .ok (.iadd, 1) := by decide +kernel
theorem dX9_feed_118 : decode cX9_feed 118 = .ok (.putfield 139, 3) := by decide +kernel
theorem dX9_feed_121 : decode cX9_feed 121 = .ok (.aload_n 0, 1) := by decide +kernel
theorem dX9_feed_122 : decode cX9_feed 122 = .ok (.getfield 139, 3) := by decide +kernel
theorem dX9_feed_125 : decode cX9_feed 125 = .ok (.ireturn, 1) := by decide +kernel
theorem dX9_here_0 : decode cX9_here 0 = .ok (.aload_n 0, 1) := by decide +kernel
theorem dX9_here_1 : decode cX9_here 1 = .ok (.getfield 142, 3) := by decide +kernel
theorem dX9_here_4 : decode cX9_here 4 = .ok (.aload_n 0, 1) := by decide +kernel
theorem dX9_here_5 : decode cX9_here 5 = .ok (.getfield 145, 3) := by decide +kernel
theorem dX9_here_8 : decode cX9_here 8 = .ok (.if_icmp .ge 15, 3) := by decide +kernel
theorem dX9_here_11 : decode cX9_here 11 = .ok (.aload_n 0, 1) := by decide +kernel
theorem dX9_here_12 : decode cX9_here 12 = .ok (.getfield 7, 3) := by decide +kernel
theorem dX9_here_15 : decode cX9_here 15 = .ok (.aload_n 0, 1) := by decide +kernel
theorem dX9_here_16 : decode cX9_here 16 = .ok (.getfield 142, 3) := by decide +kernel
theorem dX9_here_19 : decode cX9_here 19 = .ok (.iaload, 1) := by decide +kernel
theorem dX9_here_20 : decode cX9_here 20 = .ok (.goto 4, 3) := by decide +kernel
theorem dX9_here_23 : decode cX9_here 23 = .ok (.iconst (-1), 1) := by decide +kernel
theorem dX9_here_24 : decode cX9_here 24 = .ok (.ireturn, 1) := by decide +kernel
theorem dX9_isLetter_0 : decode cX9_isLetter 0 = .ok (.iload_n 0, 1) := by decide +kernel
theorem dX9_isLetter_1 : decode cX9_isLetter 1 = .ok (.bipush 97, 2) := by decide +kernel
theorem dX9_isLetter_3 : decode cX9_isLetter 3 = .ok (.if_icmp .lt 9, 3) := by decide +kernel
theorem dX9_isLetter_6 : decode cX9_isLetter 6 = .ok (.iload_n 0, 1) := by decide +kernel
theorem dX9_isLetter_7 : decode cX9_isLetter 7 = .ok (.bipush 122, 2) := by decide +kernel
theorem dX9_isLetter_9 : decode cX9_isLetter 9 = .ok (.if_icmp .le 15, 3) := by decide +kernel
theorem dX9_isLetter_12 : decode cX9_isLetter 12 = .ok (.iload_n 0, 1) := by decide +kernel
theorem dX9_isLetter_13 : decode cX9_isLetter 13 = .ok (.bipush 65, 2) := by decide +kernel
theorem dX9_isLetter_15 : decode cX9_isLetter 15 = .ok (.if_icmp .lt 13, 3) := by decide +kernel
theorem dX9_isLetter_18 : decode cX9_isLetter 18 = .ok (.iload_n 0, 1) := by decide +kernel
theorem dX9_isLetter_19 : decode cX9_isLetter 19 = .ok (.bipush 90, 2) := by decide +kernel
theorem dX9_isLetter_21 : decode cX9_isLetter 21 = .ok (.if_icmp .gt 7, 3) := by decide +kernel
theorem dX9_isLetter_24 : decode cX9_isLetter 24 = .ok (.iconst 1, 1) := by decide +kernel
theorem dX9_isLetter_25 : decode cX9_isLetter 25 = .ok (.goto 4, 3) := by decide +kernel
theorem dX9_isLetter_28 : decode cX9_isLetter 28 = .ok (.iconst 0, 1) := by decide +kernel
theorem dX9_isLetter_29 : decode cX9_isLetter 29 = .ok (.ireturn, 1) := by decide +kernel
theorem dX9_isDigit_0 : decode cX9_isDigit 0 = .ok (.iload_n 0, 1) := by decide +kernel
theorem dX9_isDigit_1 : decode cX9_isDigit 1 = .ok (.bipush 48, 2) := by decide +kernel
theorem dX9_isDigit_3 : decode cX9_isDigit 3 = .ok (.if_icmp .lt 13, 3) := by decide +kernel
theorem dX9_isDigit_6 : decode cX9_isDigit 6 = .ok (.iload_n 0, 1) := by decide +kernel
theorem dX9_isDigit_7 : decode cX9_isDigit 7 = .ok (.bipush 57, 2) := by decide +kernel
theorem dX9_isDigit_9 : decode cX9_isDigit 9 = .ok (.if_icmp .gt 7, 3) := by decide +kernel
theorem dX9_isDigit_12 : decode cX9_isDigit 12 = .ok (.iconst 1, 1) := by decide +kernel
theorem dX9_isDigit_13 : decode cX9_isDigit 13 = .ok (.goto 4, 3) := by decide +kernel
theorem dX9_isDigit_16 : decode cX9_isDigit 16 = .ok (.iconst 0, 1) := by decide +kernel
theorem dX9_isDigit_17 : decode cX9_isDigit 17 = .ok (.ireturn, 1) := by decide +kernel
theorem dX9_next_0 : decode cX9_next 0 = .ok (.aload_n 0, 1) := by decide +kernel
theorem dX9_next_1 : decode cX9_next 1 = .ok (.invokevirtual 148, 3) := by decide +kernel
theorem dX9_next_4 : decode cX9_next 4 = .ok (.bipush 10, 2) := by decide +kernel
theorem dX9_next_6 : decode cX9_next 6 = .ok (.if_icmp .eq 12, 3) := by decide +kernel
theorem dX9_next_9 : decode cX9_next 9 = .ok (.aload_n 0, 1) := by decide +kernel
theorem dX9_next_10 : decode cX9_next 10 = .ok (.invokevirtual 148, 3) := by decide +kernel
theorem dX9_next_13 : decode cX9_next 13 = .ok (.bipush 32, 2) := by decide +kernel
theorem dX9_next_15 : decode cX9_next 15 = .ok (.if_icmp .ne 16, 3) := by decide +kernel
theorem dX9_next_18 : decode cX9_next 18 = .ok (.aload_n 0, 1) := by decide +kernel
theorem dX9_next_19 : decode cX9_next 19 = .ok (.dup, 1) := by decide +kernel
theorem dX9_next_20 : decode cX9_next 20 = .ok (.getfield 142, 3) := by decide +kernel
theorem dX9_next_23 : decode cX9_next 23 = .ok (.iconst 1, 1) := by decide +kernel
theorem dX9_next_24 : decode cX9_next 24 = .ok (.iadd, 1) := by decide +kernel
theorem dX9_next_25 : decode cX9_next 25 = .ok (.putfield 142, 3) := by decide +kernel
theorem dX9_next_28 : decode cX9_next 28 = .ok (.goto (-28), 3) := by decide +kernel
theorem dX9_next_31 : decode cX9_next 31 = .ok (.aload_n 0, 1) := by decide +kernel
theorem dX9_next_32 : decode cX9_next 32 = .ok (.aload_n 0, 1) := by decide +kernel
theorem dX9_next_33 : decode cX9_next 33 = .ok (.getfield 142, 3) := by decide +kernel
theorem dX9_next_36 : decode cX9_next 36 = .ok (.putfield 152, 3) := by decide +kernel
theorem dX9_next_39 : decode cX9_next 39 = .ok (.aload_n 0, 1) := by decide +kernel
theorem dX9_next_40 : decode cX9_next 40 = .ok (.invokevirtual 148, 3) := by decide +kernel
theorem dX9_next_43 : decode cX9_next 43 = .ok (.istore_n 1, 1) := by decide +kernel
theorem dX9_next_44 : decode cX9_next 44 = .ok (.iload_n 1, 1) := by decide +kernel
theorem dX9_next_45 : decode cX9_next 45 = .ok (.iconst (-1), 1) := by decide +kernel
theorem dX9_next_46 : decode cX9_next 46 = .ok (.if_icmp .ne 11, 3) := by decide +kernel
theorem dX9_next_49 : decode cX9_next 49 = .ok (.aload_n 0, 1) := by decide +kernel
theorem dX9_next_50 : decode cX9_next 50 = .ok (.iconst 5, 1) := by decide +kernel
theorem dX9_next_51 : decode cX9_next 51 = .ok (.putfield 155, 3) := by decide +kernel
theorem dX9_next_54 : decode cX9_next 54 = .ok (.goto 184, 3) := by decide +kernel
theorem dX9_next_57 : decode cX9_next 57 = .ok (.iload_n 1, 1) := by decide +kernel
theorem dX9_next_58 : decode cX9_next 58 = .ok (.invokestatic 158, 3) := by decide +kernel
theorem dX9_next_61 : decode cX9_next 61 = .ok (.ifCond .eq 34, 3) := by decide +kernel
theorem dX9_next_64 : decode cX9_next 64 = .ok (.aload_n 0, 1) := by decide +kernel
theorem dX9_next_65 : decode cX9_next 65 = .ok (.invokevirtual 148, 3) := by decide +kernel
theorem dX9_next_68 : decode cX9_next 68 = .ok (.invokestatic 158, 3) := by decide +kernel
theorem dX9_next_71 : decode cX9_next 71 = .ok (.ifCond .eq 16, 3) := by decide +kernel
theorem dX9_next_74 : decode cX9_next 74 = .ok (.aload_n 0, 1) := by decide +kernel
theorem dX9_next_75 : decode cX9_next 75 = .ok (.dup, 1) := by decide +kernel
theorem dX9_next_76 : decode cX9_next 76 = .ok (.getfield 142, 3) := by decide +kernel
theorem dX9_next_79 : decode cX9_next 79 = .ok (.iconst 1, 1) := by decide +kernel
theorem dX9_next_80 : decode cX9_next 80 = .ok (.iadd, 1) := by decide +kernel
theorem dX9_next_81 : decode cX9_next 81 = .ok (.putfield 142, 3) := by decide +kernel
theorem dX9_next_84 : decode cX9_next 84 = .ok (.goto (-20), 3) := by decide +kernel
theorem dX9_next_87 : decode cX9_next 87 = .ok (.aload_n 0, 1) := by decide +kernel
theorem dX9_next_88 : decode cX9_next 88 = .ok (.iload_n 1, 1) := by decide +kernel
theorem dX9_next_89 : decode cX9_next 89 = .ok (.invokevirtual 162, 3) := by decide +kernel
theorem dX9_next_92 : decode cX9_next 92 = .ok (.goto 146, 3) := by decide +kernel
theorem dX9_next_95 : decode cX9_next 95 = .ok (.iload_n 1, 1) := by decide +kernel
theorem dX9_next_96 : decode cX9_next 96 = .ok (.invokestatic 166, 3) := by decide +kernel
theorem dX9_next_99 : decode cX9_next 99 = .ok (.ifCond .eq 72, 3) := by decide +kernel
theorem dX9_next_102 : decode cX9_next 102 = .ok (.aload_n 0, 1) := by decide +kernel
theorem dX9_next_103 : decode cX9_next 103 = .ok (.iconst 3, 1) := by decide +kernel
theorem dX9_next_104 : decode cX9_next 104 = .ok (.putfield 155, 3) := by decide +kernel
theorem dX9_next_107 : decode cX9_next 107 = .ok (.aload_n 0, 1) := by decide +kernel
theorem dX9_next_108 : decode cX9_next 108 = .ok (.iconst 0, 1) := by decide +kernel
theorem dX9_next_109 : decode cX9_next 109 = .ok (.putfield 169, 3) := by decide +kernel
theorem dX9_next_112 : decode cX9_next 112 = .ok (.aload_n 0, 1) := by decide +kernel
theorem dX9_next_113 : decode cX9_next 113 = .ok (.invokevirtual 148, 3) := by decide +kernel
theorem dX9_next_116 : decode cX9_next 116 = .ok (.invokestatic 166, 3) := by decide +kernel
theorem dX9_next_119 : decode cX9_next 119 = .ok (.ifCond .eq 119, 3) := by decide +kernel
theorem dX9_next_122 : decode cX9_next 122 = .ok (.aload_n 0, 1) := by decide +kernel
theorem dX9_next_123 : decode cX9_next 123 = .ok (.aload_n 0, 1) := by decide +kernel
theorem dX9_next_124 : decode cX9_next 124 = .ok (.getfield 169, 3) := by decide +kernel
theorem dX9_next_127 : decode cX9_next 127 = .ok (.sipush 9999, 3) := by decide +kernel
theorem dX9_next_130 : decode cX9_next 130 = .ok (.if_icmp .le 10, 3) := by decide +kernel
theorem dX9_next_133 : decode cX9_next 133 = .ok (.aload_n 0, 1) := by decide +kernel
theorem dX9_next_134 : decode cX9_next 134 = .ok (.getfield 169, 3) := by decide +kernel
theorem dX9_next_137 : decode cX9_next 137 = .ok (.goto 18, 3) := by decide +kernel
theorem dX9_next_140 : decode cX9_next 140 = .ok (.bipush 10, 2) := by decide +kernel
theorem dX9_next_142 : decode cX9_next 142 = .ok (.aload_n 0, 1) := by decide +kernel
theorem dX9_next_143 : decode cX9_next 143 = .ok (.getfield 169, 3) := by decide +kernel
theorem dX9_next_146 : decode cX9_next 146 = .ok (.imul, 1) := by decide +kernel
theorem dX9_next_147 : decode cX9_next 147 = .ok (.aload_n 0, 1) := by decide +kernel
theorem dX9_next_148 : decode cX9_next 148 = .ok (.invokevirtual 148, 3) := by decide +kernel
theorem dX9_next_151 : decode cX9_next 151 = .ok (.iadd, 1) := by decide +kernel
theorem dX9_next_152 : decode cX9_next 152 = .ok (.bipush 48, 2) := by decide +kernel
theorem dX9_next_154 : decode cX9_next 154 = .ok (.isub, 1) := by decide +kernel
theorem dX9_next_155 : decode cX9_next 155 = .ok (.putfield 169, 3) := by decide +kernel
theorem dX9_next_158 : decode cX9_next 158 = .ok (.aload_n 0, 1) := by decide +kernel
theorem dX9_next_159 : decode cX9_next 159 = .ok (.dup, 1) := by decide +kernel
theorem dX9_next_160 : decode cX9_next 160 = .ok (.getfield 142, 3) := by decide +kernel
theorem dX9_next_163 : decode cX9_next 163 = .ok (.iconst 1, 1) := by decide +kernel
theorem dX9_next_164 : decode cX9_next 164 = .ok (.iadd, 1) := by decide +kernel
theorem dX9_next_165 : decode cX9_next 165 = .ok (.putfield 142, 3) := by decide +kernel
theorem dX9_next_168 : decode cX9_next 168 = .ok (.goto (-56), 3) := by decide +kernel
theorem dX9_next_171 : decode cX9_next 171 = .ok (.aload_n 0, 1) := by decide +kernel
theorem dX9_next_172 : decode cX9_next 172 = .ok (.dup, 1) := by decide +kernel
theorem dX9_next_173 : decode cX9_next 173 = .ok (.getfield 142, 3) := by decide +kernel
theorem dX9_next_176 : decode cX9_next 176 = .ok (.iconst 1, 1) := by decide +kernel
theorem dX9_next_177 : decode cX9_next 177 = .ok (.iadd, 1) := by decide +kernel
theorem dX9_next_178 : decode cX9_next 178 = .ok (.putfield 142, 3) := by decide +kernel
theorem dX9_next_181 : decode cX9_next 181 = .ok (.aload_n 0, 1) := by decide +kernel
theorem dX9_next_182 : decode cX9_next 182 = .ok (.iload_n 1, 1) := by decide +kernel
theorem dX9_next_183 : decode cX9_next 183 = .ok (.putfield 169, 3) := by decide +kernel
theorem dX9_next_186 : decode cX9_next 186 = .ok (.aload_n 0, 1) := by decide +kernel
theorem dX9_next_187 : decode cX9_next 187 = .ok (.iload_n 1, 1) := by decide +kernel
theorem dX9_next_188 : decode cX9_next 188 = .ok (.bipush 61, 2) := by decide +kernel
theorem dX9_next_190 : decode cX9_next 190 = .ok (.if_icmp .eq 39, 3) := by decide +kernel
theorem dX9_next_193 : decode cX9_next 193 = .ok (.iload_n 1, 1) := by decide +kernel
theorem dX9_next_194 : decode cX9_next 194 = .ok (.bipush 58, 2) := by decide +kernel
theorem dX9_next_196 : decode cX9_next 196 = .ok (.if_icmp .eq 33, 3) := by decide +kernel
theorem dX9_next_199 : decode cX9_next 199 = .ok (.iload_n 1, 1) := by decide +kernel
theorem dX9_next_200 : decode cX9_next 200 = .ok (.bipush 44, 2) := by decide +kernel
theorem dX9_next_202 : decode cX9_next 202 = .ok (.if_icmp .eq 27, 3) := by decide +kernel
theorem dX9_next_205 : decode cX9_next 205 = .ok (.iload_n 1, 1) := by decide +kernel
theorem dX9_next_206 : decode cX9_next 206 = .ok (.bipush 59, 2) := by decide +kernel
theorem dX9_next_208 : decode cX9_next 208 = .ok (.if_icmp .eq 21, 3) := by decide +kernel
theorem dX9_next_211 : decode cX9_next 211 = .ok (.iload_n 1, 1) := by decide +kernel
theorem dX9_next_212 : decode cX9_next 212 = .ok (.bipush 60, 2) := by decide +kernel
theorem dX9_next_214 : decode cX9_next 214 = .ok (.if_icmp .eq 15, 3) := by decide +kernel
theorem dX9_next_217 : decode cX9_next 217 = .ok (.iload_n 1, 1) := by decide +kernel
theorem dX9_next_218 : decode cX9_next 218 = .ok (.bipush 62, 2) := by decide +kernel
theorem dX9_next_220 : decode cX9_next 220 = .ok (.if_icmp .eq 9, 3) := by decide +kernel
theorem dX9_next_223 : decode cX9_next 223 = .ok (.iload_n 1, 1) := by decide +kernel
theorem dX9_next_224 : decode cX9_next 224 = .ok (.bipush 37, 2) := by decide +kernel
theorem dX9_next_226 : decode cX9_next 226 = .ok (.if_icmp .ne 7, 3) := by decide +kernel
theorem dX9_next_229 : decode cX9_next 229 = .ok (.iconst 4, 1) := by decide +kernel
theorem dX9_next_230 : decode cX9_next 230 = .ok (.goto 5, 3) := by decide +kernel
theorem dX9_next_233 : decode cX9_next 233 = .ok (.bipush 6, 2) := by decide +kernel
theorem dX9_next_235 : decode cX9_next 235 = .ok (.putfield 155, 3) := by decide +kernel
theorem dX9_next_238 : decode cX9_next 238 = .ok (.return_, 1) := by decide +kernel
theorem dX9_word_0 : decode cX9_word 0 = .ok (.aload_n 0, 1) := by decide +kernel
theorem dX9_word_1 : decode cX9_word 1 = .ok (.getfield 142, 3) := by decide +kernel
theorem dX9_word_4 : decode cX9_word 4 = .ok (.aload_n 0, 1) := by decide +kernel
theorem dX9_word_5 : decode cX9_word 5 = .ok (.getfield 152, 3) := by decide +kernel
theorem dX9_word_8 : decode cX9_word 8 = .ok (.iconst 1, 1) := by decide +kernel
theorem dX9_word_9 : decode cX9_word 9 = .ok (.iadd, 1) := by decide +kernel
theorem dX9_word_10 : decode cX9_word 10 = .ok (.if_icmp .ne 51, 3) := by decide +kernel
theorem dX9_word_13 : decode cX9_word 13 = .ok (.aload_n 0, 1) := by decide +kernel
theorem dX9_word_14 : decode cX9_word 14 = .ok (.iload_n 1, 1) := by decide +kernel
theorem dX9_word_15 : decode cX9_word 15 = .ok (.bipush 97, 2) := by decide +kernel
theorem dX9_word_17 : decode cX9_word 17 = .ok (.if_icmp .lt 7, 3) := by decide +kernel
theorem dX9_word_20 : decode cX9_word 20 = .ok (.iconst 1, 1) := by decide +kernel
theorem dX9_word_21 : decode cX9_word 21 = .ok (.goto 15, 3) := by decide +kernel
theorem dX9_word_24 : decode cX9_word 24 = .ok (.iload_n 1, 1) := by decide +kernel
theorem dX9_word_25 : decode cX9_word 25 = .ok (.bipush 70, 2) := by decide +kernel
theorem dX9_word_27 : decode cX9_word 27 = .ok (.if_icmp .gt 7, 3) := by decide +kernel
theorem dX9_word_30 : decode cX9_word 30 = .ok (.iconst 2, 1) := by decide +kernel
theorem dX9_word_31 : decode cX9_word 31 = .ok (.goto 5, 3) := by decide +kernel
theorem dX9_word_34 : decode cX9_word 34 = .ok (.bipush 6, 2) := by decide +kernel
theorem dX9_word_36 : decode cX9_word 36 = .ok (.putfield 155, 3) := by decide +kernel
theorem dX9_word_39 : decode cX9_word 39 = .ok (.aload_n 0, 1) := by decide +kernel
theorem dX9_word_40 : decode cX9_word 40 = .ok (.iload_n 1, 1) := by decide +kernel
theorem dX9_word_41 : decode cX9_word 41 = .ok (.bipush 97, 2) := by decide +kernel
theorem dX9_word_43 : decode cX9_word 43 = .ok (.if_icmp .lt 10, 3) := by decide +kernel
theorem dX9_word_46 : decode cX9_word 46 = .ok (.iload_n 1, 1) := by decide +kernel
theorem dX9_word_47 : decode cX9_word 47 = .ok (.bipush 97, 2) := by decide +kernel
theorem dX9_word_49 : decode cX9_word 49 = .ok (.isub, 1) := by decide +kernel
theorem dX9_word_50 : decode cX9_word 50 = .ok (.goto 7, 3) := by decide +kernel
theorem dX9_word_53 : decode cX9_word 53 = .ok (.iload_n 1, 1) := by decide +kernel
theorem dX9_word_54 : decode cX9_word 54 = .ok (.bipush 65, 2) := by decide +kernel
theorem dX9_word_56 : decode cX9_word 56 = .ok (.isub, 1) := by decide +kernel
theorem dX9_word_57 : decode cX9_word 57 = .ok (.putfield 169, 3) := by decide +kernel
theorem dX9_word_60 : decode cX9_word 60 = .ok (.return_, 1) := by decide +kernel
theorem dX9_word_61 : decode cX9_word 61 = .ok (.aload_n 0, 1) := by decide +kernel
theorem dX9_word_62 : decode cX9_word 62 = .ok (.bipush 6, 2) := by decide +kernel
theorem dX9_word_64 : decode cX9_word 64 = .ok (.putfield 155, 3) := by decide +kernel
theorem dX9_word_67 : decode cX9_word 67 = .ok (.iconst 0, 1) := by decide +kernel
theorem dX9_word_68 : decode cX9_word 68 = .ok (.istore_n 2, 1) := by decide +kernel
theorem dX9_word_69 : decode cX9_word 69 = .ok (.iconst 0, 1) := by decide +kernel
theorem dX9_word_70 : decode cX9_word 70 = .ok (.istore_n 3, 1) := by decide +kernel
theorem dX9_word_71 : decode cX9_word 71 = .ok (.iload_n 3, 1) := by decide +kernel
theorem dX9_word_72 : decode cX9_word 72 = .ok (.ldc 172, 2) := by decide +kernel
theorem dX9_word_74 : decode cX9_word 74 = .ok (.invokevirtual 174, 3) := by decide +kernel
theorem dX9_word_77 : decode cX9_word 77 = .ok (.if_icmp .ge 128, 3) := by decide +kernel
theorem dX9_word_80 : decode cX9_word 80 = .ok (.iconst 0, 1) := by decide +kernel
theorem dX9_word_81 : decode cX9_word 81 = .ok (.istore 4, 2) := by decide +kernel
theorem dX9_word_83 : decode cX9_word 83 = .ok (.ldc 172, 2) := by decide +kernel
theorem dX9_word_85 : decode cX9_word 85 = .ok (.iload_n 3, 1) := by decide +kernel
theorem dX9_word_86 : decode cX9_word 86 = .ok (.iload 4, 2) := by decide +kernel
theorem dX9_word_88 : decode cX9_word 88 = .ok (.iadd, 1) := by decide +kernel
theorem dX9_word_89 : decode cX9_word 89 = .ok (.invokevirtual 179, 3) := by decide +kernel
theorem dX9_word_92 : decode cX9_word 92 = .ok (.bipush 32, 2) := by decide +kernel
theorem dX9_word_94 : decode cX9_word 94 = .ok (.if_icmp .eq 47, 3) := by decide +kernel
theorem dX9_word_97 : decode cX9_word 97 = .ok (.aload_n 0, 1) := by decide +kernel
theorem dX9_word_98 : decode cX9_word 98 = .ok (.getfield 152, 3) := by decide +kernel
theorem dX9_word_101 : decode cX9_word 101 = .ok (.iload 4, 2) := by decide +kernel
theorem dX9_word_103 : decode cX9_word 103 = .ok (.iadd, 1) := by decide +kernel
theorem dX9_word_104 : decode cX9_word 104 = .ok (.aload_n 0, 1) := by decide +kernel
theorem dX9_word_105 : decode cX9_word 105 = .ok (.getfield 142, 3) := by decide +kernel
theorem dX9_word_108 : decode cX9_word 108 = .ok (.if_icmp .ge 33, 3) := by decide +kernel
theorem dX9_word_111 : decode cX9_word 111 = .ok (.aload_n 0, 1) := by decide +kernel
theorem dX9_word_112 : decode cX9_word 112 = .ok (.getfield 7, 3) := by decide +kernel
theorem dX9_word_115 : decode cX9_word 115 = .ok (.aload_n 0, 1) := by decide +kernel
theorem dX9_word_116 : decode cX9_word 116 = .ok (.getfield 152, 3) := by decide +kernel
theorem dX9_word_119 : decode cX9_word 119 = .ok (.iload 4, 2) := by decide +kernel
theorem dX9_word_121 : decode cX9_word 121 = .ok (.iadd, 1) := by decide +kernel
theorem dX9_word_122 : decode cX9_word 122 = .ok (.iaload, 1) := by decide +kernel
theorem dX9_word_123 : decode cX9_word 123 = .ok (.ldc 172, 2) := by decide +kernel
theorem dX9_word_125 : decode cX9_word 125 = .ok (.iload_n 3, 1) := by decide +kernel
theorem dX9_word_126 : decode cX9_word 126 = .ok (.iload 4, 2) := by decide +kernel
theorem dX9_word_128 : decode cX9_word 128 = .ok (.iadd, 1) := by decide +kernel
theorem dX9_word_129 : decode cX9_word 129 = .ok (.invokevirtual 179, 3) := by decide +kernel
theorem dX9_word_132 : decode cX9_word 132 = .ok (.if_icmp .ne 9, 3) := by decide +kernel
theorem dX9_word_135 : decode cX9_word 135 = .ok (.iinc 4 1, 3) := by decide +kernel
theorem dX9_word_138 : decode cX9_word 138 = .ok (.goto (-55), 3) := by decide +kernel
theorem dX9_word_141 : decode cX9_word 141 = .ok (.ldc 172, 2) := by decide +kernel
theorem dX9_word_143 : decode cX9_word 143 = .ok (.iload_n 3, 1) := by decide +kernel
theorem dX9_word_144 : decode cX9_word 144 = .ok (.iload 4, 2) := by decide +kernel
theorem dX9_word_146 : decode cX9_word 146 = .ok (.iadd, 1) := by decide +kernel
theorem dX9_word_147 : decode cX9_word 147 = .ok (.invokevirtual 179, 3) := by decide +kernel
theorem dX9_word_150 : decode cX9_word 150 = .ok (.bipush 32, 2) := by decide +kernel
theorem dX9_word_152 : decode cX9_word 152 = .ok (.if_icmp .ne 27, 3) := by decide +kernel
theorem dX9_word_155 : decode cX9_word 155 = .ok (.aload_n 0, 1) := by decide +kernel
theorem dX9_word_156 : decode cX9_word 156 = .ok (.getfield 152, 3) := by decide +kernel
theorem dX9_word_159 : decode cX9_word 159 = .ok (.iload 4, 2) := by decide +kernel
theorem dX9_word_161 : decode cX9_word 161 = .ok (.iadd, 1) := by decide +kernel
theorem dX9_word_162 : decode cX9_word 162 = .ok (.aload_n 0, 1) := by decide +kernel
theorem dX9_word_163 : decode cX9_word 163 = .ok (.getfield 142, 3) := by decide +kernel
theorem dX9_word_166 : decode cX9_word 166 = .ok (.if_icmp .ne 13, 3) := by decide +kernel
theorem dX9_word_169 : decode cX9_word 169 = .ok (.aload_n 0, 1) := by decide +kernel
theorem dX9_word_170 : decode cX9_word 170 = .ok (.iconst 0, 1) := by decide +kernel
theorem dX9_word_171 : decode cX9_word 171 = .ok (.putfield 155, 3) := by decide +kernel
theorem dX9_word_174 : decode cX9_word 174 = .ok (.aload_n 0, 1) := by decide +kernel
theorem dX9_word_175 : decode cX9_word 175 = .ok (.iload_n 2, 1) := by decide +kernel
theorem dX9_word_176 : decode cX9_word 176 = .ok (.putfield 169, 3) := by decide +kernel
theorem dX9_word_179 : decode cX9_word 179 = .ok (.ldc 172, 2) := by decide +kernel
theorem dX9_word_181 : decode cX9_word 181 = .ok (.iload_n 3, 1) := by decide +kernel
theorem dX9_word_182 : decode cX9_word 182 = .ok (.invokevirtual 179, 3) := by decide +kernel
theorem dX9_word_185 : decode cX9_word 185 = .ok (.bipush 32, 2) := by decide +kernel
theorem dX9_word_187 : decode cX9_word 187 = .ok (.if_icmp .eq 9, 3) := by decide +kernel
theorem dX9_word_190 : decode cX9_word 190 = .ok (.iinc 3 1, 3) := by decide +kernel
theorem dX9_word_193 : decode cX9_word 193 = .ok (.goto (-14), 3) := by decide +kernel
theorem dX9_word_196 : decode cX9_word 196 = .ok (.iinc 3 1, 3) := by decide +kernel
theorem dX9_word_199 : decode cX9_word 199 = .ok (.iinc 2 1, 3) := by decide +kernel
theorem dX9_word_202 : decode cX9_word 202 = .ok (.goto (-131), 3) := by decide +kernel
theorem dX9_word_205 : decode cX9_word 205 = .ok (.return_, 1) := by decide +kernel
theorem dX9_wrong_0 : decode cX9_wrong 0 = .ok (.aload_n 0, 1) := by decide +kernel
theorem dX9_wrong_1 : decode cX9_wrong 1 = .ok (.getfield 183, 3) := by decide +kernel
theorem dX9_wrong_4 : decode cX9_wrong 4 = .ok (.ifCond .eq 4, 3) := by decide +kernel
theorem dX9_wrong_7 : decode cX9_wrong 7 = .ok (.return_, 1) := by decide +kernel
theorem dX9_wrong_8 : decode cX9_wrong 8 = .ok (.aload_n 0, 1) := by decide +kernel
theorem dX9_wrong_9 : decode cX9_wrong 9 = .ok (.iload_n 1, 1) := by decide +kernel
theorem dX9_wrong_10 : decode cX9_wrong 10 = .ok (.putfield 183, 3) := by decide +kernel
theorem dX9_wrong_13 : decode cX9_wrong 13 = .ok (.aload_n 0, 1) := by decide +kernel
theorem dX9_wrong_14 : decode cX9_wrong 14 = .ok (.iload_n 2, 1) := by decide +kernel
theorem dX9_wrong_15 : decode cX9_wrong 15 = .ok (.putfield 186, 3) := by decide +kernel
theorem dX9_wrong_18 : decode cX9_wrong 18 = .ok (.return_, 1) := by decide +kernel
theorem dX9_takes_0 : decode cX9_takes 0 = .ok (.aload_n 0, 1) := by decide +kernel
theorem dX9_takes_1 : decode cX9_takes 1 = .ok (.getfield 183, 3) := by decide +kernel
theorem dX9_takes_4 : decode cX9_takes 4 = .ok (.ifCond .eq 5, 3) := by decide +kernel
theorem dX9_takes_7 : decode cX9_takes 7 = .ok (.iconst 0, 1) := by decide +kernel
theorem dX9_takes_8 : decode cX9_takes 8 = .ok (.ireturn, 1) := by decide +kernel
theorem dX9_takes_9 : decode cX9_takes 9 = .ok (.aload_n 0, 1) := by decide +kernel
theorem dX9_takes_10 : decode cX9_takes 10 = .ok (.getfield 155, 3) := by decide +kernel
theorem dX9_takes_13 : decode cX9_takes 13 = .ok (.iload_n 1, 1) := by decide +kernel
theorem dX9_takes_14 : decode cX9_takes 14 = .ok (.if_icmp .eq 14, 3) := by decide +kernel
theorem dX9_takes_17 : decode cX9_takes 17 = .ok (.aload_n 0, 1) := by decide +kernel
theorem dX9_takes_18 : decode cX9_takes 18 = .ok (.iconst 1, 1) := by decide +kernel
theorem dX9_takes_19 : decode cX9_takes 19 = .ok (.aload_n 0, 1) := by decide +kernel
theorem dX9_takes_20 : decode cX9_takes 20 = .ok (.getfield 152, 3) := by decide +kernel
theorem dX9_takes_23 : decode cX9_takes 23 = .ok (.invokevirtual 189, 3) := by decide +kernel
theorem dX9_takes_26 : decode cX9_takes 26 = .ok (.iconst 0, 1) := by decide +kernel
theorem dX9_takes_27 : decode cX9_takes 27 = .ok (.ireturn, 1) := by decide +kernel
theorem dX9_takes_28 : decode cX9_takes 28 = .ok (.aload_n 0, 1) := by decide +kernel
theorem dX9_takes_29 : decode cX9_takes 29 = .ok (.getfield 169, 3) := by decide +kernel
theorem dX9_takes_32 : decode cX9_takes 32 = .ok (.istore_n 2, 1) := by decide +kernel
theorem dX9_takes_33 : decode cX9_takes 33 = .ok (.iload_n 1, 1) := by decide +kernel
